/-! ===== pure: calls that change, the frame of them ===== -/
/-- the reference's end of a call that changes -/
def mb_Mo (g g6 : mb_AH) (rc : Nat) (ws : Nat → Nat → Int32) (w : Nat → Int32) : Prop := (∀ k, k ≠ 20 → k ≠ 21 → k ≠ 6 → g6.1 k = g.1 k) ∧ g6.2 = g.2 ∧ g6.1 6 0 0 3 = nI rc ∧ g6.1 6 0 0 4 = 0 ∧ g6.1 6 0 0 6 = g.1 6 0 0 6 ∧ (∀ i, i < rc → ∀ j, j < 270 → g6.1 21 0 0 (270 * i + j) = ws i j) ∧ ∀ j, j < 270 → g6.1 20 0 0 j = w j
/-- what the class leaves alone in a call that changes the marina -/
def mb_Fz (h g : mb_AH) : Prop := ∀ k, ¬ (k = 0 ∨ k = 1 ∨ k = 2 ∨ k = 3 ∨ k = 12) → g.1 k = h.1 k
theorem mut_ok {es : List String} {f5 : Option mb_RS} {f6 : mb_AH → Option mb_RS} {n rc : Nat} {h g5 : mb_AH} {v : Int32} {ws : Nat → Nat → Int32} {w : Nat → Int32} (hS : mb_S n h) (h5 : f5 = mb_rI v g5) (hC : mb_C (n + 1) g5 rc ws w) (hz : mb_Fz h g5) (h6 : ∀ g : mb_AH, g.1 = g5.1 → ∃ g6, f6 g = mb_rI v g6 ∧ mb_Mo g g6 rc ws w) : mb_PI es f5 f6 (mb_S (n + 1)) := by
  obtain ⟨g6, e6, m1, m2, m3, m4, m5, m6, m7⟩ := h6 (mb_sL g5 30 0 0 0 v.toInt64) rfl
  obtain ⟨⟨tl, t⟩, -, -⟩ := hS
  refine Or.inl ⟨v, g5, g6, h5, e6, m4, by rw [m2]; simp [mb_sL], ?_⟩
  have k16 : g6.1 16 = h.1 16 := by rw [m1 16 (by decide) (by decide) (by decide)]; exact hz 16 (by decide)
  have k23 : g6.1 23 = h.1 23 := by rw [m1 23 (by decide) (by decide) (by decide)]; exact hz 23 (by decide)
  have k5 : g6.1 5 = h.1 5 := by rw [m1 5 (by decide) (by decide) (by decide)]; exact hz 5 (by decide)
  have k66 : g6.1 6 0 0 6 = h.1 6 0 0 6 := by rw [m5]; exact congrFun (congrFun (congrFun (hz 6 (by decide)) 0) 0) 6
  refine mb_S.of (tl := tl) (t.cg (by rw [k5]) k66 k16 k23) (hC.cg ?_ ?_ ?_ ?_ ?_ ?_ ?_) m3 m6 m7
  · rw [m1 0 (by decide) (by decide) (by decide)]; rfl
  · rw [m2]; rfl
  · exact m1 1 (by decide) (by decide) (by decide)
  · exact m1 2 (by decide) (by decide) (by decide)
  · exact m1 3 (by decide) (by decide) (by decide)
  · exact m1 12 (by decide) (by decide) (by decide)
  · rw [m2]; funext a b j; simp [mb_sL]
theorem mb_C.wr {n m rc : Nat} {h g : mb_AH} {ws : Nat → Nat → Int32} {w v : Nat → Int32} (c : mb_C n h rc ws w) (fr : mb_Fr 0 h g) (j : mb_J m g 0 v) (hm : n ≤ m) : mb_C m g rc ws v := by
  obtain ⟨a, b, d, e, f, -⟩ := c
  refine ⟨a, by rw [fr.1 0 0 0 3 (fun z => absurd z.1 (by decide))]; exact b, by rw [fr.2.2]; exact d, by rw [fr.2.2]; exact e, fun i hi => ?_, j⟩
  have hR := d i (by omega)
  have hne : h.2.2 i ≠ 0 := by omega
  rw [fr.2.2]
  exact ((f i hi).cg (fr.fa hne 1) (fr.fa hne 2) (fr.fa hne 3) (fr.fa hne 12) (fr.fL hne 1)).up hm
theorem mb_Fz.of {h g f : mb_AH} (a : mb_Fx h g) (b : mb_Fr 0 g f) : mb_Fz h f := fun k hk => by rw [b.fk (fun z => hk (Or.inr z)), a.1 k hk]
/-- a new row that differs in its boats alone -/
theorem mb_W.boats {w v : Nat → Int32} {B K T D U U2 : Nat} (h : mb_W w B K T D U) (e : ∀ j, j < 90 → j ≠ 9 → v j = w j) (e9 : v 9 = nI U2) (lU : U2 ≤ 5000000) (hb : ∀ k, k < K → mb_at9 v B k ∧ mb_hm9 v B k ∧ mb_wt9 v D U2 k ∧ mb_nu9 v k) (d1 : ∀ k j, k < K → j < K → bo v k 3 = 1 → bo v j 3 = 1 → bo v k 4 = bo v j 4 → k = j) (d2 : ∀ k j, k < K → j < K → bo v k 3 = 2 → bo v j 3 = 2 → bo v k 6 = bo v j 6 → k = j) : mb_W v B K T D U2 := by
  have hB := h.B16; have hT := h.T14
  have et : ∀ b j, b < B → j < 4 → bt v b j = bt w b j := fun b j hb hj => e _ (by omega) (by omega)
  obtain ⟨z, ⟨y1, y2⟩, -, -, b, -, -, l, g, wi, p⟩ := h
  refine ⟨?_, ⟨by rw [e 4 (by decide) (by decide)]; exact y1, y2⟩, ⟨e9, lU⟩, hb, fun b9 hb9 => ?_, d1, d2, fun k hk => by rw [e _ (by omega) (by omega)]; exact l k hk, ?_, by rw [e 5 (by decide) (by decide)]; exact wi, ?_⟩
  · unfold mb_W0 at z ⊢
    rw [e 6 (by decide) (by decide), e 7 (by decide) (by decide), e 8 (by decide) (by decide)]
    exact z
  · have := b b9 hb9
    unfold mb_nb9 at this ⊢
    simp only [et b9 0 hb9 (by decide), et b9 1 hb9 (by decide), et b9 2 hb9 (by decide), et b9 3 hb9 (by decide)]
    exact this
  · rw [e 0 (by decide) (by decide), e 1 (by decide) (by decide), e 2 (by decide) (by decide), e 3 (by decide) (by decide)]
    exact g
  · rw [e 10 (by decide) (by decide), e 11 (by decide) (by decide)]
    exact p
/-- one boat's entry is new -/
theorem mb_W.boat1 {w v : Nat → Int32} {B K T D U U2 k0 : Nat} (h : mb_W w B K T D U) (e : ∀ j, j < 90 → j ≠ 9 → v j = w j) (e9 : v 9 = nI U2) (lU : U2 ≤ 5000000) (hU : U ≤ U2) (eo : ∀ k, k < K → k ≠ k0 → ∀ j, j < 9 → bo v k j = bo w k j) (hb : mb_at9 v B k0 ∧ mb_hm9 v B k0 ∧ mb_wt9 v D U2 k0 ∧ mb_nu9 v k0)
    (d1 : ∀ k, k < K → k ≠ k0 → bo w k 3 = 1 → bo v k0 3 = 1 → bo w k 4 ≠ bo v k0 4) (d2 : ∀ k, k < K → k ≠ k0 → bo w k 3 = 2 → bo v k0 3 = 2 → bo w k 6 ≠ bo v k0 6) : mb_W v B K T D U2 := by
  refine h.boats e e9 lU (fun k hk => ?_) (fun k j hk hj h1 h2 q => ?_) (fun k j hk hj h1 h2 q => ?_)
  · by_cases q : k = k0
    · subst q; exact hb
    · have := h.boat hk
      have z := eo k hk q
      unfold mb_at9 mb_hm9 mb_wt9 mb_nu9 at this ⊢
      simp only [z 0 (by decide), z 1 (by decide), z 2 (by decide), z 3 (by decide), z 4 (by decide), z 5 (by decide), z 6 (by decide), z 7 (by decide), z 8 (by decide), e 5 (by decide) (by decide)]
      refine ⟨this.1, this.2.1, ⟨fun q2 => ?_, this.2.2.1.2⟩, this.2.2.2⟩
      obtain ⟨a, s, a1, a2, a3, a4⟩ := this.2.2.1.1 q2
      exact ⟨a, s, a1, a2, a3, by omega⟩
  · by_cases qk : k = k0 <;> by_cases qj : j = k0
    · rw [qk, qj]
    · subst qk
      rw [eo j hj qj 3 (by decide)] at h2
      rw [eo j hj qj 4 (by decide)] at q
      exact absurd q.symm (d1 j hj qj h2 h1)
    · subst qj
      rw [eo k hk qk 3 (by decide)] at h1
      rw [eo k hk qk 4 (by decide)] at q
      exact absurd q (d1 k hk qk h1 h2)
    · rw [eo k hk qk 3 (by decide)] at h1
      rw [eo j hj qj 3 (by decide)] at h2
      rw [eo k hk qk 4 (by decide), eo j hj qj 4 (by decide)] at q
      exact h.2.2.2.2.2.1 k j hk hj h1 h2 q
  · by_cases qk : k = k0 <;> by_cases qj : j = k0
    · rw [qk, qj]
    · subst qk
      rw [eo j hj qj 3 (by decide)] at h2
      rw [eo j hj qj 6 (by decide)] at q
      exact absurd q.symm (d2 j hj qj h2 h1)
    · subst qj
      rw [eo k hk qk 3 (by decide)] at h1
      rw [eo k hk qk 6 (by decide)] at q
      exact absurd q (d2 k hk qk h1 h2)
    · rw [eo k hk qk 3 (by decide)] at h1
      rw [eo j hj qj 3 (by decide)] at h2
      rw [eo k hk qk 6 (by decide), eo j hj qj 6 (by decide)] at q
      exact h.2.2.2.2.2.2.1 k j hk hj h1 h2 q
theorem mb_RM.boat1 {h g : mb_AH} {o : Nat} {w v : Nat → Int32} {B K T k0 : Nat} (r : mb_RM h o w B K T) (hB : B ≤ 16) (hT : T ≤ 14) (e : ∀ j, j < 90 → j ≠ 9 → v j = w j) (e9 : g.1 1 o 0 14 = v 9) (eo : ∀ k, k < K → k ≠ k0 → ∀ j, j < 9 → bo v k j = bo w k j)
    (f1 : ∀ j, j ≠ 14 → g.1 1 o 0 j = h.1 1 o 0 j) (f2 : g.1 2 o = h.1 2 o) (f3 : ∀ k, k ≠ k0 → g.1 3 o k = h.1 3 o k) (f4 : g.1 12 o = h.1 12 o) (f5 : g.2.1 1 o = h.2.1 1 o) (fk : cp_b g o v k0) : mb_RM g o v B K T := by
  obtain ⟨⟨c0, c1, c2, c3, c4, c5, c6, c7, c8, c9⟩, p, lo, l, t, b⟩ := r
  have elow : ∀ m, m < 14 → sp_low v m = sp_low w m := by
    intro m
    induction m with
    | zero => intro _; exact e 12 (by decide) (by decide)
    | succ m ih =>
      intro hm
      show (if v (12 + (m + 1)) < sp_low v m then v (12 + (m + 1)) else sp_low v m) = (if w (12 + (m + 1)) < sp_low w m then w (12 + (m + 1)) else sp_low w m)
      rw [e _ (by omega) (by omega), ih (by omega)]
  refine ⟨⟨?_, ?_, ?_, ?_, ?_, ?_, ?_, ?_, ?_, e9⟩, ?_, ?_, fun k hk => ?_, fun b9 hb => ?_, fun k hk => ?_⟩
  · rw [f1 _ (by decide), e _ (by decide) (by decide)]; exact c0
  · rw [f1 _ (by decide), e _ (by decide) (by decide)]; exact c1
  · rw [f1 _ (by decide), e _ (by decide) (by decide)]; exact c2
  · rw [f1 _ (by decide), e _ (by decide) (by decide)]; exact c3
  · rw [f1 _ (by decide), e _ (by decide) (by decide)]; exact c4
  · rw [f1 _ (by decide), e _ (by decide) (by decide)]; exact c5
  · rw [f1 _ (by decide), e _ (by decide) (by decide)]; exact c6
  · rw [f1 _ (by decide), e _ (by decide) (by decide)]; exact c7
  · rw [f1 _ (by decide), e _ (by decide) (by decide)]; exact c8
  · unfold sp_paid at p ⊢
    rw [f5, e 10 (by decide) (by decide), e 11 (by decide) (by decide)]; exact p
  · rw [f1 _ (by decide), elow _ (by omega)]; exact lo
  · rw [f4, e _ (by omega) (by omega)]; exact l k hk
  · rw [f2]
    have := t b9 hb
    unfold bt at this ⊢
    rw [e _ (by omega) (by omega), e _ (by omega) (by omega), e _ (by omega) (by omega), e _ (by omega) (by omega)]
    exact this
  · by_cases q : k = k0
    · subst q; exact fk
    · have z := eo k hk q
      rw [f3 k q, e 4 (by decide) (by decide), z 0 (by decide), z 1 (by decide), z 2 (by decide), z 3 (by decide), z 4 (by decide), z 5 (by decide), z 6 (by decide), z 7 (by decide), z 8 (by decide)]
      exact b k hk
/-! the entry of one boat, rewritten -/
def wb (w : Nat → Int32) (k j : Nat) (x : Int32) : Nat → Int32 := fun i => if i = 90 + 9 * k + j then x else w i
theorem wb_lo (w : Nat → Int32) (k j : Nat) (x : Int32) {i : Nat} (hi : i < 90) : wb w k j x i = w i := if_neg (by omega)
theorem wb_bo (w : Nat → Int32) (k j : Nat) (x : Int32) {k2 j2 : Nat} (hj : j < 9) (hj2 : j2 < 9) : bo (wb w k j x) k2 j2 = if k2 = k ∧ j2 = j then x else bo w k2 j2 := by
  unfold bo wb
  by_cases q : k2 = k ∧ j2 = j
  · rw [if_pos q, if_pos (by omega)]
  · rw [if_neg q, if_neg (by omega)]
theorem wb_other (w : Nat → Int32) (k j : Nat) (x : Int32) {k2 : Nat} (hj : j < 9) (hk : k2 ≠ k) {j2 : Nat} (hj2 : j2 < 9) : bo (wb w k j x) k2 j2 = bo w k2 j2 := by
  rw [wb_bo w k j x hj hj2, if_neg (fun z => hk z.1)]
theorem m6_setsw {k j : Nat} (hk : k < 20) (hj : j < 9) {y : Int32} (hy : y = nI j) (x : Int32) (h : mb_AH) : F_X6_sets (nI k) y x h = mb_rV (mb_sI h 20 0 0 (90 + 9 * k + j) x) ∧ (mb_sI h 20 0 0 (90 + 9 * k + j) x).1 20 0 0 = wb (h.1 20 0 0) k j x := by
  refine ⟨m6_sets hk hj _ _ _ rfl hy, ?_⟩
  funext i
  simp [mb_sI, wb]
/-- after the refusal and the saving, the reference's row may be written -/
theorem m6_begin {g : mb_AH} {rc : Nat} (hrc : rc ≤ 4) (h3 : g.1 6 0 0 3 = nI rc) : ∃ g1 : mb_AH, F_X6_saves (mb_sI g 6 0 0 4 0) = mb_rV g1 ∧ g1.1 20 = g.1 20 ∧ ∀ (g6 : mb_AH) (v : Nat → Int32), (∀ k, k ≠ 20 → g6.1 k = g1.1 k) → g6.2 = g1.2 → g6.1 20 0 0 = v → mb_Mo g g6 (rc_n rc) (ws_n rc (fun i j => g.1 21 0 0 (270 * i + j)) (g.1 20 0 0)) v := by
  obtain ⟨g1, e1, f1, f2, f3, f4, f5⟩ := m6_saves (h := mb_sI g 6 0 0 4 0) hrc (by rw [mb_sI_j _ _ _ _ _ _ (by decide)]; exact h3)
  have o20 : (mb_sI g 6 0 0 4 0).1 20 = g.1 20 := mb_sI_o _ _ _ _ _ _ (by decide)
  have o21 : (mb_sI g 6 0 0 4 0).1 21 = g.1 21 := mb_sI_o _ _ _ _ _ _ (by decide)
  refine ⟨g1, e1, by rw [f1 20 (by decide) (by decide), o20], fun g6 v k1 k2 k3 => ⟨fun k q1 q2 q3 => ?_, ?_, ?_, ?_, ?_, fun i hi j hj => ?_, fun j _ => by rw [k3]⟩⟩
  · rw [k1 k q1, f1 k q2 q3, mb_sI_o _ _ _ _ _ _ q3]
  · rw [k2, f3]; rfl
  · rw [k1 6 (by decide), f4]
  · rw [k1 6 (by decide), f2 4 (by decide), mb_sI_s]
  · rw [k1 6 (by decide), f2 6 (by decide), mb_sI_j _ _ _ _ _ _ (by decide)]
  · rw [k1 21 (by decide), f5 i hi j hj, o21, o20]
