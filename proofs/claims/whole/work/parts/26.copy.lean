/-! ===== pure: copies of marinas, records ===== -/
theorem mb_sI_a (h : mb_AH) (k a b j : Nat) (x : Int32) {a2 : Nat} (ha : a2 ≠ a) (k2 : Nat) : (mb_sI h k a b j x).1 k2 a2 = h.1 k2 a2 := by
  funext b2 j2
  simp [mb_sI, ha]
/-- nothing but marina o has changed -/
def mb_Fr (o : Nat) (h g : mb_AH) : Prop := (∀ k a b j, ¬ ((k = 1 ∨ k = 2 ∨ k = 3 ∨ k = 12) ∧ a = o) → g.1 k a b j = h.1 k a b j) ∧ (∀ k a b j, ¬ (k = 1 ∧ a = o) → g.2.1 k a b j = h.2.1 k a b j) ∧ g.2.2 = h.2.2
theorem mb_Fr.rf (o : Nat) (h : mb_AH) : mb_Fr o h h := ⟨fun _ _ _ _ _ => rfl, fun _ _ _ _ _ => rfl, rfl⟩
theorem mb_Fr.tr {o : Nat} {h g f : mb_AH} (a : mb_Fr o h g) (b : mb_Fr o g f) : mb_Fr o h f := ⟨fun k x y z q => (b.1 k x y z q).trans (a.1 k x y z q), fun k x y z q => (b.2.1 k x y z q).trans (a.2.1 k x y z q), b.2.2.trans a.2.2⟩
theorem mb_Fr.wI {o : Nat} (h : mb_AH) {k : Nat} (b j : Nat) (x : Int32) (hk : k = 1 ∨ k = 2 ∨ k = 3 ∨ k = 12) : mb_Fr o h (mb_sI h k o b j x) := by
  refine ⟨fun k2 a2 b2 j2 q => ?_, fun _ _ _ _ _ => rfl, rfl⟩
  show (if k2 = k ∧ a2 = o ∧ b2 = b ∧ j2 = j then x else h.1 k2 a2 b2 j2) = h.1 k2 a2 b2 j2
  rw [if_neg]
  rintro ⟨rfl, rfl, -, -⟩
  exact q ⟨hk, rfl⟩
theorem mb_Fr.wL {o : Nat} (h : mb_AH) (b j : Nat) (x : Int64) : mb_Fr o h (mb_sL h 1 o b j x) := by
  refine ⟨fun _ _ _ _ _ => rfl, fun k2 a2 b2 j2 q => ?_, rfl⟩
  show (if k2 = 1 ∧ a2 = o ∧ b2 = b ∧ j2 = j then x else h.2.1 k2 a2 b2 j2) = h.2.1 k2 a2 b2 j2
  rw [if_neg]
  rintro ⟨rfl, rfl, -, -⟩
  exact q ⟨rfl, rfl⟩
theorem mb_Fr.fa {o : Nat} {h g : mb_AH} (r : mb_Fr o h g) {a : Nat} (ha : a ≠ o) (k : Nat) : g.1 k a = h.1 k a := by
  funext b j
  exact r.1 k a b j (fun q => ha q.2)
theorem mb_Fr.fk {o : Nat} {h g : mb_AH} (r : mb_Fr o h g) {k : Nat} (hk : ¬ (k = 1 ∨ k = 2 ∨ k = 3 ∨ k = 12)) : g.1 k = h.1 k := by
  funext a b j
  exact r.1 k a b j (fun q => hk q.1)
theorem mb_Fr.fL {o : Nat} {h g : mb_AH} (r : mb_Fr o h g) {a : Nat} (ha : a ≠ o) (k : Nat) : g.2.1 k a = h.2.1 k a := by
  funext b j
  exact r.2.1 k a b j (fun q => ha q.2)
theorem mb_RM.fr {h g : mb_AH} {o o2 : Nat} {w : Nat → Int32} {B K T : Nat} (r : mb_RM h o2 w B K T) (f : mb_Fr o h g) (ho : o2 ≠ o) : mb_RM g o2 w B K T := r.cg (f.fa ho 1) (f.fa ho 2) (f.fa ho 3) (f.fa ho 12) (f.fL ho 1)
def cp_t (h : mb_AH) (o : Nat) (w : Nat → Int32) (b : Nat) : Prop := h.1 2 o b 0 = bt w b 0 ∧ h.1 2 o b 1 = bt w b 1 ∧ h.1 2 o b 2 = bt w b 2 ∧ h.1 2 o b 3 = bt w b 3
def cp_b (h : mb_AH) (o : Nat) (w : Nat → Int32) (k : Nat) : Prop := (h.1 3 o k 0 = bo w k 0 ∧ h.1 3 o k 1 = bo w k 1 ∧ h.1 3 o k 2 = bo w k 2 ∧ h.1 3 o k 3 = bo w k 3 ∧ h.1 3 o k 4 = bo w k 4 ∧ h.1 3 o k 5 = bo w k 7 ∧ h.1 3 o k 6 = bo w k 8) ∧ (bo w k 3 = 2 → h.1 3 o k 7 = w 4 - bo w k 5 ∧ h.1 3 o k 8 = bo w k 6)
section
variable {h : mb_AH} {w : Nat → Int32} {B K T D U o o2 : Nat}
theorem c0_copyFrom (r : mb_RM h o2 w B K T) (hw : mb_W w B K T D U) {b : Nat} (hb : b < B) : ∃ g : mb_AH, F_X0_copyFrom o b o2 b h = mb_rV g ∧ mb_Fr o h g ∧ cp_t g o w b ∧ (∀ i, i ≠ b → g.1 2 o i = h.1 2 o i) ∧ (∀ k, k ≠ 2 → g.1 k = h.1 k) := by
  obtain ⟨b0, b1, b2, b3⟩ := r.t hb
  refine ⟨_, ?_, (((mb_Fr.wI (k := 2) h b 0 (bt w b 0) (by decide)).tr (mb_Fr.wI (k := 2) _ b 1 (bt w b 1) (by decide))).tr (mb_Fr.wI (k := 2) _ b 2 (bt w b 2) (by decide))).tr (mb_Fr.wI (k := 2) _ b 3 (bt w b 3) (by decide)), ?_, ?_, ?_⟩
  · unfold F_X0_copyFrom F_X0_become
    rw [b0, b1, b2, b3]
    simp only [px_cI, px_cIx, px_cV, px_cVx, px_cL, px_cLx, px_cR0, px_cR1, px_cRx, px_lI, px_lL, px_up, px_gZ0, px_gZ1, px_gZb, px_g0, px_g1, px_g2, px_g3, px_g4, px_g5, px_g6, px_g7, px_g8, px_g9, px_g10, px_g11, px_g12, px_g13, px_g14, px_c0, px_c1, px_c2, px_c3, px_c4, px_c5, px_c6, px_c7, px_c8, px_c9, px_c10, px_c11, px_c12, px_c13, px_c14]
    rcases hw.ex hb with e | e <;> rw [e] <;> simp only [px_cI, px_cIx, px_cV, px_cVx, px_cL, px_cLx, px_cR0, px_cR1, px_cRx, px_lI, px_lL, px_up, px_gZ0, px_gZ1, px_gZb, px_g0, px_g1, px_g2, px_g3, px_g4, px_g5, px_g6, px_g7, px_g8, px_g9, px_g10, px_g11, px_g12, px_g13, px_g14, px_c0, px_c1, px_c2, px_c3, px_c4, px_c5, px_c6, px_c7, px_c8, px_c9, px_c10, px_c11, px_c12, px_c13, px_c14]
  · unfold cp_t
    simp [mb_sI]
  · intro i hi
    funext j
    simp [mb_sI, hi]
  · intro k hk
    funext a b j
    simp [mb_sI, hk]
theorem c1_copyFrom (r : mb_RM h o2 w B K T) (ho : o2 ≠ o) {k : Nat} (hk : k < K) : ∃ g : mb_AH, F_X1_copyFrom o k o2 k h = mb_rV g ∧ mb_Fr o h g ∧ cp_b g o w k ∧ (∀ i, i ≠ k → g.1 3 o i = h.1 3 o i) ∧ (∀ j, j ≠ 3 → g.1 j = h.1 j) := by
  obtain ⟨a0, a1, a2, a3, a4, a5, a6⟩ := r.q hk
  have a7 := fun q => r.ow hk q
  refine ⟨_, rfl, ((((((((mb_Fr.wI h k 0 _ (by decide)).tr (mb_Fr.wI _ k 1 _ (by decide))).tr (mb_Fr.wI _ k 2 _ (by decide))).tr (mb_Fr.wI _ k 3 _ (by decide))).tr (mb_Fr.wI _ k 4 _ (by decide))).tr (mb_Fr.wI _ k 5 _ (by decide))).tr (mb_Fr.wI _ k 6 _ (by decide))).tr (mb_Fr.wI _ k 7 _ (by decide))).tr (mb_Fr.wI _ k 8 _ (by decide)), ?_, ?_, ?_⟩
  · unfold cp_b
    refine ⟨?_, fun q => ?_⟩
    · simp [mb_sI, ho, a0, a1, a2, a3, a4, a5, a6]
    · have a8 := a7 q
      simp [mb_sI, ho, a8.1, a8.2]
  · intro i hi
    funext j
    simp [mb_sI, hi]
  · intro k hk
    funext a b j
    simp [mb_sI, hk]
theorem c2_cp1 (hw : mb_W w B K T D U) (ho : o2 ≠ o) : ∀ (m j f : Nat) (h : mb_AH), mb_RM h o2 w B K T → h.1 1 o 0 1 = nI B → (∀ b, b < j → cp_t h o w b) → j + m = B → m < f → ∃ g : mb_AH, B_X2_copyFrom_10 f o o2 (nI j) h = B_X2_copyFrom_49 mb_fu o o2 0 (mb_sI g 1 o 0 3 (g.1 1 o2 0 3)) ∧ mb_Fr o h g ∧ g.1 1 o 0 1 = nI B ∧ ∀ b, b < B → cp_t g o w b := by
  have hB := hw.B16
  intro m
  induction m with
  | zero =>
    intro j f h r e1 hc hj hf
    obtain ⟨f, rfl⟩ : ∃ g, f = g + 1 := ⟨f - 1, by omega⟩
    refine ⟨h, ?_, mb_Fr.rf _ _, e1, fun b hb => hc b (by omega)⟩
    rw [B_X2_copyFrom_10, e1, if_pos (nI_le (by omega) (by omega))]
    simp only [px_cI, px_cIx, px_cV, px_cVx, px_cL, px_cLx, px_cR0, px_cR1, px_cRx, px_lI, px_lL, px_up, px_gZ0, px_gZ1, px_gZb, px_g0, px_g1, px_g2, px_g3, px_g4, px_g5, px_g6, px_g7, px_g8, px_g9, px_g10, px_g11, px_g12, px_g13, px_g14, px_c0, px_c1, px_c2, px_c3, px_c4, px_c5, px_c6, px_c7, px_c8, px_c9, px_c10, px_c11, px_c12, px_c13, px_c14]
  | succ m ih =>
    intro j f h r e1 hc hj hf
    obtain ⟨f, rfl⟩ : ∃ g, f = g + 1 := ⟨f - 1, by omega⟩
    obtain ⟨g, e2, fr, ct, ci, ck⟩ := c0_copyFrom (o := o) r hw (show j < B by omega)
    obtain ⟨g2, e3, fr2, c1, c2⟩ := ih (j + 1) f g (r.fr fr ho) (by rw [ck 1 (by decide)]; exact e1) (fun b hb => by
      by_cases q : b = j
      · subst q; exact ct
      · have := hc b (by omega)
        unfold cp_t at this ⊢
        rw [ci b q]; exact this) (by omega) (by omega)
    refine ⟨g2, ?_, fr.tr fr2, c1, c2⟩
    rw [B_X2_copyFrom_10, e1, if_neg (nI_ge (by omega) (by omega)), px_gB (show j < 16 by omega) (by decide), px_gB (show j < 16 by omega) (by decide), nI_clamp (by omega), e2]
    simp only [px_cI, px_cIx, px_cV, px_cVx, px_cL, px_cLx, px_cR0, px_cR1, px_cRx, px_lI, px_lL, px_up, px_gZ0, px_gZ1, px_gZb, px_g0, px_g1, px_g2, px_g3, px_g4, px_g5, px_g6, px_g7, px_g8, px_g9, px_g10, px_g11, px_g12, px_g13, px_g14, px_c0, px_c1, px_c2, px_c3, px_c4, px_c5, px_c6, px_c7, px_c8, px_c9, px_c10, px_c11, px_c12, px_c13, px_c14, nI_1]
    exact e3
theorem c2_cp2 (hw : mb_W w B K T D U) (ho : o2 ≠ o) : ∀ (m j f : Nat) (h : mb_AH), mb_RM h o2 w B K T → h.1 1 o 0 3 = nI K → (∀ b, b < j → cp_b h o w b) → j + m = K → m < f → ∃ g : mb_AH, B_X2_copyFrom_49 f o o2 (nI j) h = B_X2_copyFrom_88 mb_fu o o2 0 (mb_sI g 1 o 0 5 (g.1 1 o2 0 5)) ∧ mb_Fr o h g ∧ (∀ b, b < K → cp_b g o w b) ∧ ∀ k, k ≠ 3 → g.1 k = h.1 k := by
  have hK := hw.K20
  intro m
  induction m with
  | zero =>
    intro j f h r e1 hc hj hf
    obtain ⟨f, rfl⟩ : ∃ g, f = g + 1 := ⟨f - 1, by omega⟩
    refine ⟨h, ?_, mb_Fr.rf _ _, fun b hb => hc b (by omega), fun _ _ => rfl⟩
    rw [B_X2_copyFrom_49, e1, if_pos (nI_le (by omega) (by omega))]
    simp only [px_cI, px_cIx, px_cV, px_cVx, px_cL, px_cLx, px_cR0, px_cR1, px_cRx, px_lI, px_lL, px_up, px_gZ0, px_gZ1, px_gZb, px_g0, px_g1, px_g2, px_g3, px_g4, px_g5, px_g6, px_g7, px_g8, px_g9, px_g10, px_g11, px_g12, px_g13, px_g14, px_c0, px_c1, px_c2, px_c3, px_c4, px_c5, px_c6, px_c7, px_c8, px_c9, px_c10, px_c11, px_c12, px_c13, px_c14]
  | succ m ih =>
    intro j f h r e1 hc hj hf
    obtain ⟨f, rfl⟩ : ∃ g, f = g + 1 := ⟨f - 1, by omega⟩
    obtain ⟨g, e2, fr, ct, ci, ck⟩ := c1_copyFrom (o := o) r ho (show j < K by omega)
    obtain ⟨g2, e3, fr2, c1, c2⟩ := ih (j + 1) f g (r.fr fr ho) (by rw [ck 1 (by decide)]; exact e1) (fun b hb => by
      by_cases q : b = j
      · subst q; exact ct
      · have := hc b (by omega)
        unfold cp_b at this ⊢
        rw [ci b q]; exact this) (by omega) (by omega)
    refine ⟨g2, ?_, fr.tr fr2, c1, fun k hk => by rw [c2 k hk, ck k hk]⟩
    rw [B_X2_copyFrom_49, e1, if_neg (nI_ge (by omega) (by omega)), px_gB (show j < 20 by omega) (by decide), px_gB (show j < 20 by omega) (by decide), nI_clamp (by omega), e2]
    simp only [px_cI, px_cIx, px_cV, px_cVx, px_cL, px_cLx, px_cR0, px_cR1, px_cRx, px_lI, px_lL, px_up, px_gZ0, px_gZ1, px_gZb, px_g0, px_g1, px_g2, px_g3, px_g4, px_g5, px_g6, px_g7, px_g8, px_g9, px_g10, px_g11, px_g12, px_g13, px_g14, px_c0, px_c1, px_c2, px_c3, px_c4, px_c5, px_c6, px_c7, px_c8, px_c9, px_c10, px_c11, px_c12, px_c13, px_c14, nI_1]
    exact e3
theorem c2_cp3 (hw : mb_W w B K T D U) (ho : o2 ≠ o) : ∀ (m j f : Nat) (h : mb_AH), mb_RM h o2 w B K T → h.1 1 o 0 5 = nI T → (∀ b, b < j → h.1 12 o 0 b = w (12 + b)) → j + m = T → m < f → ∃ g : mb_AH, B_X2_copyFrom_88 f o o2 (nI j) h = mb_rV g ∧ mb_Fr o h g ∧ (∀ b, b < T → g.1 12 o 0 b = w (12 + b)) ∧ (∀ k, k ≠ 12 → k ≠ 1 → g.1 k = h.1 k) ∧
    g.1 1 o 0 6 = sp_low w (T - 1) ∧ g.1 1 o 0 7 = w 0 ∧ g.1 1 o 0 8 = w 1 ∧ g.1 1 o 0 9 = w 2 ∧ g.1 1 o 0 10 = w 3 ∧ g.1 1 o 0 11 = w 4 ∧ g.1 1 o 0 12 = w 5 ∧ g.2.1 1 o 0 13 = sp_paid w ∧ g.1 1 o 0 14 = w 9 ∧ g.1 1 o 0 1 = h.1 1 o 0 1 ∧ g.1 1 o 0 3 = h.1 1 o 0 3 ∧ g.1 1 o 0 5 = h.1 1 o 0 5 := by
  have hT := hw.T14
  intro m
  induction m with
  | zero =>
    intro j f h r e1 hc hj hf
    obtain ⟨f, rfl⟩ : ∃ g, f = g + 1 := ⟨f - 1, by omega⟩
    have hwin : ∀ X, mb_gZ (w 5) X = X := by intro X; rcases hw.wi with e | e <;> rw [e] <;> simp only [px_cI, px_cIx, px_cV, px_cVx, px_cL, px_cLx, px_cR0, px_cR1, px_cRx, px_lI, px_lL, px_up, px_gZ0, px_gZ1, px_gZb, px_g0, px_g1, px_g2, px_g3, px_g4, px_g5, px_g6, px_g7, px_g8, px_g9, px_g10, px_g11, px_g12, px_g13, px_g14, px_c0, px_c1, px_c2, px_c3, px_c4, px_c5, px_c6, px_c7, px_c8, px_c9, px_c10, px_c11, px_c12, px_c13, px_c14]
    refine ⟨_, ?_, ((((((((mb_Fr.wI (k := 1) h 0 6 (sp_low w (T - 1)) (by decide)).tr (mb_Fr.wI (k := 1) _ 0 7 (w 0) (by decide))).tr (mb_Fr.wI (k := 1) _ 0 8 (w 1) (by decide))).tr (mb_Fr.wI (k := 1) _ 0 9 (w 2) (by decide))).tr (mb_Fr.wI (k := 1) _ 0 10 (w 3) (by decide))).tr (mb_Fr.wI (k := 1) _ 0 11 (w 4) (by decide))).tr (mb_Fr.wI (k := 1) _ 0 12 (w 5) (by decide))).tr (mb_Fr.wL _ 0 13 (sp_paid w))).tr (mb_Fr.wI (k := 1) _ 0 14 (w 9) (by decide)), ?_, ?_, ?_⟩
    · rw [B_X2_copyFrom_88, e1, if_pos (nI_le (by omega) (by omega))]
      simp only [px_cI, px_cIx, px_cV, px_cVx, px_cL, px_cLx, px_cR0, px_cR1, px_cRx, px_lI, px_lL, px_up, px_gZ0, px_gZ1, px_gZb, px_g0, px_g1, px_g2, px_g3, px_g4, px_g5, px_g6, px_g7, px_g8, px_g9, px_g10, px_g11, px_g12, px_g13, px_g14, px_c0, px_c1, px_c2, px_c3, px_c4, px_c5, px_c6, px_c7, px_c8, px_c9, px_c10, px_c11, px_c12, px_c13, px_c14]
      have q1 : ∀ (g : mb_AH) (k b j : Nat) (x : Int32), (mb_sI g k o b j x).1 1 o2 = g.1 1 o2 := fun g k b j x => mb_sI_a g k o b j x ho 1
      have q2 : ∀ (g : mb_AH) (k b j : Nat) (x : Int32), (mb_sI g k o b j x).2.1 = g.2.1 := fun _ _ _ _ _ => rfl
      have q3 : ∀ (g : mb_AH) (b j : Nat) (x : Int64), (mb_sL g 1 o b j x).1 = g.1 := fun _ _ _ _ => rfl
      simp only [q1, q2, q3, r.low, r.f0, r.f1, r.f2, r.f3, r.f4, r.f5, r.paid, r.f9, hwin]
    · intro b hb
      have := hc b (by omega)
      simp [mb_sI, mb_sL, this]
    · intro k h1 h2
      funext a b j
      simp [mb_sI, mb_sL, h1, h2]
    · simp [mb_sI, mb_sL]
  | succ m ih =>
    intro j f h r e1 hc hj hf
    obtain ⟨f, rfl⟩ : ∃ g, f = g + 1 := ⟨f - 1, by omega⟩
    have hjT : j < T := by omega
    have fr : mb_Fr o h (mb_sI h 12 o 0 j (w (12 + j))) := mb_Fr.wI h 0 j _ (by decide)
    obtain ⟨g2, e3, fr2, c1, c2, c3⟩ := ih (j + 1) f (mb_sI h 12 o 0 j (w (12 + j))) (r.fr fr ho) (by rw [mb_sI_o _ _ _ _ _ _ (by decide)]; exact e1) (fun b hb => by
      by_cases q : b = j
      · subst q; exact mb_sI_s _ _ _ _ _ _
      · rw [mb_sI_j _ _ _ _ _ _ q]; exact hc b (by omega)) (by omega) (by omega)
    refine ⟨g2, ?_, fr.tr fr2, c1, fun k q1 q2 => by rw [c2 k q1 q2, mb_sI_o _ _ _ _ _ _ q1], ?_⟩
    · rw [B_X2_copyFrom_88, e1, if_neg (nI_ge (by omega) (by omega)), px_gB (show j < 14 by omega) (by decide), px_gB (show j < 14 by omega) (by decide), nI_clamp (by omega), r.lows hjT]
      simp only [px_cI, px_cIx, px_cV, px_cVx, px_cL, px_cLx, px_cR0, px_cR1, px_cRx, px_lI, px_lL, px_up, px_gZ0, px_gZ1, px_gZb, px_g0, px_g1, px_g2, px_g3, px_g4, px_g5, px_g6, px_g7, px_g8, px_g9, px_g10, px_g11, px_g12, px_g13, px_g14, px_c0, px_c1, px_c2, px_c3, px_c4, px_c5, px_c6, px_c7, px_c8, px_c9, px_c10, px_c11, px_c12, px_c13, px_c14, nI_1]
      exact e3
    · rw [mb_sI_o _ _ _ _ _ _ (by decide)] at c3
      exact c3
theorem c2_copyFrom (r : mb_RM h o2 w B K T) (hw : mb_W w B K T D U) (ho : o2 ≠ o) : ∃ g : mb_AH, F_X2_copyFrom o o2 h = mb_rV g ∧ mb_Fr o h g ∧ mb_RM g o w B K T := by
  have hB := hw.B16; have hK := hw.K20; have hT := hw.T14
  have fr0 : mb_Fr o h (mb_sI h 1 o 0 1 (nI B)) := mb_Fr.wI h 0 1 _ (by decide)
  obtain ⟨g1, e1, fr1, b1, t1⟩ := c2_cp1 (o := o) hw ho B 0 mb_fu _ (r.fr fr0 ho) (mb_sI_s _ _ _ _ _ _) (fun b hb => absurd hb (Nat.not_lt_zero b)) (by omega) (by unfold mb_fu; omega)
  have r1 := r.fr (fr0.tr fr1) ho
  have fr2 : mb_Fr o g1 (mb_sI g1 1 o 0 3 (nI K)) := mb_Fr.wI g1 0 3 _ (by decide)
  obtain ⟨g2, e2, fr3, t2, k2⟩ := c2_cp2 (o := o) hw ho K 0 mb_fu _ (r1.fr fr2 ho) (mb_sI_s _ _ _ _ _ _) (fun b hb => absurd hb (Nat.not_lt_zero b)) (by omega) (by unfold mb_fu; omega)
  have r2 := r1.fr (fr2.tr fr3) ho
  have fr4 : mb_Fr o g2 (mb_sI g2 1 o 0 5 (nI T)) := mb_Fr.wI g2 0 5 _ (by decide)
  obtain ⟨g3, e3, fr5, t3, k3, c6, c7, c8, c9, c10, c11, c12, c13, c14, d1, d3, d5⟩ := c2_cp3 (o := o) hw ho T 0 mb_fu _ (r2.fr fr4 ho) (mb_sI_s _ _ _ _ _ _) (fun b hb => absurd hb (Nat.not_lt_zero b)) (by omega) (by unfold mb_fu; omega)
  refine ⟨g3, ?_, fr0.tr (fr1.tr (fr2.tr (fr3.tr (fr4.tr fr5)))), ?_⟩
  · unfold F_X2_copyFrom
    simp only [px_cI, px_cIx, px_cV, px_cVx, px_cL, px_cLx, px_cR0, px_cR1, px_cRx, px_lI, px_lL, px_up, px_gZ0, px_gZ1, px_gZb, px_g0, px_g1, px_g2, px_g3, px_g4, px_g5, px_g6, px_g7, px_g8, px_g9, px_g10, px_g11, px_g12, px_g13, px_g14, px_c0, px_c1, px_c2, px_c3, px_c4, px_c5, px_c6, px_c7, px_c8, px_c9, px_c10, px_c11, px_c12, px_c13, px_c14]
    rw [r.f6, hw.w6]
    show B_X2_copyFrom_10 mb_fu o o2 (nI 0) _ = _
    rw [e1, r1.f7, hw.w7]
    show B_X2_copyFrom_49 mb_fu o o2 (nI 0) _ = _
    rw [e2, r2.f8, hw.w8]
    exact e3
  · refine ⟨⟨c7, c8, c9, c10, c11, c12, ?_, ?_, ?_, c14⟩, c13, c6, t3, ?_, ?_⟩
    · rw [d1, mb_sI_j _ _ _ _ _ _ (by decide), k2 1 (by decide), mb_sI_j _ _ _ _ _ _ (by decide), b1, hw.w6]
    · rw [d3, mb_sI_j _ _ _ _ _ _ (by decide), k2 1 (by decide), mb_sI_s, hw.w7]
    · rw [d5, mb_sI_s, hw.w8]
    · intro b hb
      rw [k3 2 (by decide) (by decide), mb_sI_o _ _ _ _ _ _ (by decide), k2 2 (by decide), mb_sI_o _ _ _ _ _ _ (by decide)]
      exact t1 b hb
    · intro k hk
      rw [k3 3 (by decide) (by decide), mb_sI_o _ _ _ _ _ _ (by decide)]
      exact t2 k hk
theorem mb_J.cp {n : Nat} (r : mb_J n h o2 w) (ho : o2 ≠ o) : ∃ g : mb_AH, F_X2_copyFrom o o2 h = mb_rV g ∧ mb_Fr o h g ∧ mb_J n g o w := by
  obtain ⟨B, K, T, D, U, a, b, c⟩ := r
  obtain ⟨g, e, fr, r2⟩ := c2_copyFrom (o := o) b a ho
  exact ⟨g, e, fr, B, K, T, D, U, a, r2, c⟩
end
