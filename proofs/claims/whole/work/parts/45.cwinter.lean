/-! ===== pure: winter begins, the class's side ===== -/
section
variable {h g : mb_AH} {w v : Nat → Int32} {B K T D U n o : Nat}
def mb_Fw (o : Nat) (h g : mb_AH) : Prop := (∀ k, k ≠ 4 → k ≠ 14 → k ≠ 15 → ¬ (k = 1 ∨ k = 2 ∨ k = 3 ∨ k = 12) → g.1 k = h.1 k) ∧ (∀ k a, (k = 1 ∨ k = 2 ∨ k = 3 ∨ k = 12) → a ≠ o → g.1 k a = h.1 k a) ∧ (∀ k, k ≠ 1 → g.2.1 k = h.2.1 k) ∧ (∀ a, a ≠ o → g.2.1 1 a = h.2.1 1 a) ∧ g.2.2 = h.2.2
theorem mb_Fw.rf (o : Nat) (h : mb_AH) : mb_Fw o h h := ⟨fun _ _ _ _ _ => rfl, fun _ _ _ _ => rfl, fun _ _ => rfl, fun _ _ => rfl, rfl⟩
theorem mb_Fw.tr {f : mb_AH} (a : mb_Fw o h g) (b : mb_Fw o g f) : mb_Fw o h f := ⟨fun k x y z u => (b.1 k x y z u).trans (a.1 k x y z u), fun k x y z => (b.2.1 k x y z).trans (a.2.1 k x y z), fun k x => (b.2.2.1 k x).trans (a.2.2.1 k x), fun k x => (b.2.2.2.1 k x).trans (a.2.2.2.1 k x), b.2.2.2.2.trans a.2.2.2.2⟩
theorem mb_Fw.fr (f : mb_Fr o h g) : mb_Fw o h g := by
  refine ⟨fun k _ _ _ hk => f.fk hk, fun k a _ ha => f.fa ha k, fun k hk => ?_, fun a ha => f.fL ha 1, f.2.2⟩
  funext a b j
  exact f.2.1 k a b j (fun z => hk z.1)
theorem mb_Fw.pg (f : pl_G h g) : mb_Fw o h g := ⟨fun k x _ z _ => f.1 k x z, fun k a hk _ => by rw [f.1 k (by omega) (by omega)], fun k _ => by rw [f.2], fun a _ => by rw [f.2], by rw [f.2]⟩
theorem mb_Fw.w14 (h : mb_AH) (x : Nat) (y : Int32) : mb_Fw o h (mb_sI h 14 0 0 x y) := ⟨fun k _ z _ _ => mb_sI_o _ _ _ _ _ _ z, fun k a hk _ => by rw [mb_sI_o _ _ _ _ _ _ (by omega)], fun _ _ => rfl, fun _ _ => rfl, rfl⟩
theorem mb_RM.pg (r : mb_RM h o w B K T) (f : pl_G h g) : mb_RM g o w B K T := r.cg (by rw [f.1 1 (by decide) (by decide)]) (by rw [f.1 2 (by decide) (by decide)]) (by rw [f.1 3 (by decide) (by decide)]) (by rw [f.1 12 (by decide) (by decide)]) (by rw [f.2])
theorem mb_RM.w14 (r : mb_RM h o w B K T) (x : Nat) (y : Int32) : mb_RM (mb_sI h 14 0 0 x y) o w B K T := r.cg (by rw [mb_sI_o _ _ _ _ _ _ (by decide)]) (by rw [mb_sI_o _ _ _ _ _ _ (by decide)]) (by rw [mb_sI_o _ _ _ _ _ _ (by decide)]) (by rw [mb_sI_o _ _ _ _ _ _ (by decide)]) rfl
theorem mb_RM.mv2 (r : mb_RM h o w B K T) (hB : B ≤ 16) (hT : T ≤ 14) {k : Nat} (hk : k < K) (s a : Int32) (hs : s ≠ 2) : mb_RM (mb_sI (mb_sI h 3 o k 3 s) 3 o k 4 a) o (wb (wb w k 3 s) k 4 a) B K T := by
  obtain ⟨q0, q1, q2, q3, q4, q5, q6⟩ := r.q hk
  refine r.boat1 hB hT (k0 := k) (fun j h1 _ => by rw [wb_lo _ _ _ _ h1, wb_lo _ _ _ _ h1]) ?_ (fun k2 _ hk2 j hj => by rw [wb_other _ _ _ _ (by decide) hk2 hj, wb_other _ _ _ _ (by decide) hk2 hj]) (fun j _ => by rw [mb_sI_o _ _ _ _ _ _ (by decide), mb_sI_o _ _ _ _ _ _ (by decide)]) (by rw [mb_sI_o _ _ _ _ _ _ (by decide), mb_sI_o _ _ _ _ _ _ (by decide)]) (fun k2 hk2 => ?_) (by rw [mb_sI_o _ _ _ _ _ _ (by decide), mb_sI_o _ _ _ _ _ _ (by decide)]) rfl ?_
  · rw [mb_sI_o _ _ _ _ _ _ (by decide), mb_sI_o _ _ _ _ _ _ (by decide), r.f9, wb_lo _ _ _ _ (by decide), wb_lo _ _ _ _ (by decide)]
  · funext j
    simp [mb_sI, hk2]
  · unfold cp_b
    have e : ∀ j, j < 9 → bo (wb (wb w k 3 s) k 4 a) k j = if j = 4 then a else if j = 3 then s else bo w k j := fun j hj => by
      rw [wb_bo _ _ _ _ (by decide) hj, wb_bo _ _ _ _ (by decide) hj]
      by_cases z : j = 4
      · rw [if_pos ⟨rfl, z⟩, if_pos z]
      · rw [if_neg (fun u => z u.2), if_neg z]
        by_cases z3 : j = 3
        · rw [if_pos ⟨rfl, z3⟩, if_pos z3]
        · rw [if_neg (fun u => z3 u.2), if_neg z3]
    rw [e 0 (by decide), e 1 (by decide), e 2 (by decide), e 3 (by decide), e 4 (by decide), e 7 (by decide), e 8 (by decide)]
    refine ⟨?_, fun z => absurd z hs⟩
    simp [mb_sI, q0, q1, q2, q5, q6]
theorem c4_clear (h : mb_AH) : ∃ g, F_X4_clear h = mb_rV g ∧ (∀ k, k ≠ 4 → k ≠ 14 → g.1 k = h.1 k) ∧ g.2 = h.2 ∧ g.1 4 0 0 2 = 65535 ∧ ∀ x, x < 20 → g.1 14 0 0 x = 0 := by
  have key : ∀ (m j f : Nat) (h : mb_AH), j + m = 20 → m < f → (∀ x, x < j → h.1 14 0 0 x = 0) → ∃ g, B_X4_clear_8 f (nI j) h = mb_rV g ∧ (∀ k, k ≠ 14 → g.1 k = h.1 k) ∧ g.2 = h.2 ∧ ∀ x, x < 20 → g.1 14 0 0 x = 0 := by
    intro m
    induction m with
    | zero =>
      intro j f h hj hf hx
      obtain ⟨f, rfl⟩ : ∃ g, f = g + 1 := ⟨f - 1, by omega⟩
      refine ⟨h, ?_, fun _ _ => rfl, rfl, fun x h9 => hx x (by omega)⟩
      rw [B_X4_clear_8, if_pos (show (20 : Int32) ≤ nI j from nI_le (a := 20) (by omega) (by omega))]
    | succ m ih =>
      intro j f h hj hf hx
      obtain ⟨f, rfl⟩ : ∃ g, f = g + 1 := ⟨f - 1, by omega⟩
      obtain ⟨g, e1, e2, e3, e4⟩ := ih (j + 1) f (mb_sI h 14 0 0 j 0) (by omega) (by omega) (fun x h9 => by
        by_cases q : x = j
        · subst q; exact mb_sI_s _ _ _ _ _ _
        · rw [mb_sI_j _ _ _ _ _ _ q]; exact hx x (by omega))
      refine ⟨g, ?_, fun k hk => by rw [e2 k hk, mb_sI_o _ _ _ _ _ _ hk], e3, e4⟩
      rw [B_X4_clear_8, if_neg (show ¬ (20 : Int32) ≤ nI j from nI_ge (b := 20) (by omega) (by decide)), px_gB (show j < 20 by omega) (by decide), nI_clamp (by omega)]
      simp only [px_cI, px_cIx, px_cV, px_cVx, px_cL, px_cLx, px_cR0, px_cR1, px_cRx, px_lI, px_lL, px_up, px_gZ0, px_gZ1, px_gZb, px_g0, px_g1, px_g2, px_g3, px_g4, px_g5, px_g6, px_g7, px_g8, px_g9, px_g10, px_g11, px_g12, px_g13, px_g14, px_c0, px_c1, px_c2, px_c3, px_c4, px_c5, px_c6, px_c7, px_c8, px_c9, px_c10, px_c11, px_c12, px_c13, px_c14, nI_1]
      exact e1
  obtain ⟨g, e1, e2, e3, e4⟩ := key 20 0 mb_fu (mb_sI h 4 0 0 2 65535) rfl (by unfold mb_fu; omega) (fun x hx => absurd hx (Nat.not_lt_zero x))
  refine ⟨g, ?_, fun k h1 h2 => by rw [e2 k h2, mb_sI_o _ _ _ _ _ _ h1], e3, by rw [e2 4 (by decide), mb_sI_s], e4⟩
  unfold F_X4_clear
  simp only [px_cI, px_cIx, px_cV, px_cVx, px_cL, px_cLx, px_cR0, px_cR1, px_cRx, px_lI, px_lL, px_up, px_gZ0, px_gZ1, px_gZb, px_g0, px_g1, px_g2, px_g3, px_g4, px_g5, px_g6, px_g7, px_g8, px_g9, px_g10, px_g11, px_g12, px_g13, px_g14, px_c0, px_c1, px_c2, px_c3, px_c4, px_c5, px_c6, px_c7, px_c8, px_c9, px_c10, px_c11, px_c12, px_c13, px_c14]
  exact e1
theorem c2_sh_loop (r : mb_RM h o v B K T) (hw : mb_W v B K T D U) {k : Nat} (hk : k < K) : ∀ (m j f : Nat) (acc : Int32), j + m = B → m < f → ∃ s, B_X2_shelterFor_4 f o o k acc (nI j) h = mb_rI s h ∧ ∀ b, b < 16 → xb s b = (xb acc b || (decide (j ≤ b) && (shb v B K b && sp_fit v T k b))) := by
  have h6 := hw.w6; have hB := hw.B16; have hK := hw.K20
  intro m
  induction m with
  | zero =>
    intro j f acc hj hf
    obtain ⟨f, rfl⟩ : ∃ g, f = g + 1 := ⟨f - 1, by omega⟩
    refine ⟨acc, ?_, fun b hb => ?_⟩
    · rw [B_X2_shelterFor_4, r.f6, h6, if_pos (nI_le (by omega) (by omega))]
    · by_cases q : b < B
      · rw [decide_eq_false (show ¬ j ≤ b by omega)]; simp
      · unfold shb
        rw [decide_eq_false q]; simp
  | succ m ih =>
    intro j f acc hj hf
    obtain ⟨f, rfl⟩ : ∃ g, f = g + 1 := ⟨f - 1, by omega⟩
    have hjB : j < B := by omega
    have hstep : ∀ (s acc2 : Int32), (∀ b, b < 16 → xb s b = (xb acc2 b || (decide (j + 1 ≤ b) && (shb v B K b && sp_fit v T k b)))) → (∀ b, b < 16 → xb acc2 b = (xb acc b || (decide (b = j) && (shb v B K j && sp_fit v T k j)))) → ∀ b, b < 16 → xb s b = (xb acc b || (decide (j ≤ b) && (shb v B K b && sp_fit v T k b))) := by
      intro s acc2 h1 h2 b hb
      rw [h1 b hb, h2 b hb]
      by_cases q : b = j
      · subst q
        rw [decide_eq_true rfl, decide_eq_false (show ¬ b + 1 ≤ b by omega), decide_eq_true (Nat.le_refl b)]; simp
      · rw [decide_eq_false q]
        by_cases q2 : j ≤ b
        · rw [decide_eq_true q2, decide_eq_true (show j + 1 ≤ b by omega)]; simp
        · rw [decide_eq_false q2, decide_eq_false (show ¬ j + 1 ≤ b by omega)]; simp
    have hno : (shb v B K j && sp_fit v T k j) = false → ∃ s, B_X2_shelterFor_4 f o o k acc (nI (j + 1)) h = mb_rI s h ∧ ∀ b, b < 16 → xb s b = (xb acc b || (decide (j ≤ b) && (shb v B K b && sp_fit v T k b))) := fun hf0 => by
      obtain ⟨s, e1, e2⟩ := ih (j + 1) f acc (by omega) (by omega)
      exact ⟨s, e1, hstep s acc e2 (fun b hb => by rw [hf0]; simp)⟩
    rw [B_X2_shelterFor_4, r.f6, h6, if_neg (nI_ge (by omega) (by omega)), px_gB (show j < 16 by omega) (by decide), nI_clamp (by omega), (r.t hjB).2.2.1, c2_boatIn r hw (by omega)]
    simp only [px_cI, px_cIx, px_cV, px_cVx, px_cL, px_cLx, px_cR0, px_cR1, px_cRx, px_lI, px_lL, px_up, px_gZ0, px_gZ1, px_gZb, px_g0, px_g1, px_g2, px_g3, px_g4, px_g5, px_g6, px_g7, px_g8, px_g9, px_g10, px_g11, px_g12, px_g13, px_g14, px_c0, px_c1, px_c2, px_c3, px_c4, px_c5, px_c6, px_c7, px_c8, px_c9, px_c10, px_c11, px_c12, px_c13, px_c14, nI_1]
    by_cases q1 : bt v j 2 = 0
    · rw [if_pos q1]
      cases q2 : sp_in v K (nI j) with
      | none =>
        rw [show mb_oi none = -1 from rfl, if_pos rfl, px_gB (show j < 16 by omega) (by decide), c2_suits r hk hjB]
        simp only [px_cI, px_cIx, px_cV, px_cVx, px_cL, px_cLx, px_cR0, px_cR1, px_cRx, px_lI, px_lL, px_up, px_gZ0, px_gZ1, px_gZb, px_g0, px_g1, px_g2, px_g3, px_g4, px_g5, px_g6, px_g7, px_g8, px_g9, px_g10, px_g11, px_g12, px_g13, px_g14, px_c0, px_c1, px_c2, px_c3, px_c4, px_c5, px_c6, px_c7, px_c8, px_c9, px_c10, px_c11, px_c12, px_c13, px_c14]
        have hs : shb v B K j = true := by unfold shb; rw [decide_eq_true hjB, decide_eq_true q1, q2]; rfl
        cases q3 : sp_fit v T k j with
        | false =>
          rw [if_pos (by rfl)]
          exact hno (by rw [q3, Bool.and_false])
        | true =>
          rw [if_neg (by decide)]
          obtain ⟨s, e1, e2⟩ := ih (j + 1) f (acc ||| ((1 : Int32) <<< (nI j &&& 31))) (by omega) (by omega)
          refine ⟨s, e1, hstep s _ e2 (fun b hb => ?_)⟩
          rw [xb_or, xb_1 (by omega) (by omega), hs, q3]; simp
      | some x =>
        have hx := (sp_find_some q2).2.1
        rw [show mb_oi (some x) = nI x from rfl, if_neg (px_neg1 (by omega))]
        exact hno (by unfold shb; rw [q2]; simp)
    · rw [if_neg q1]
      exact hno (by unfold shb; rw [decide_eq_false q1]; simp)
theorem c2_bw11 (hw : mb_W w B K T D U) : ∀ (m k f : Nat) (h : mb_AH), k + m = K → m < f → mb_RM h o (wv w k) B K T → (∀ x b, x < 20 → b < 16 → pl_wi h x b = (decide (x < k) && wis w B K T x b)) → ∃ g, B_X2_beginWinter_11 f o (nI k) h = B_X2_beginWinter_93 mb_fu o 0 g ∧ mb_Fw o h g ∧ mb_RM g o (wv w K) B K T ∧ (∀ x b, x < 20 → b < 16 → pl_wi g x b = (decide (x < K) && wis w B K T x b)) ∧ g.1 4 = h.1 4 := by
  have hB := hw.B16; have hK := hw.K20; have hT := hw.T14; have hT1 := hw.T1
  intro m
  induction m with
  | zero =>
    intro k f h hk hf r hwi
    obtain ⟨f, rfl⟩ : ∃ g, f = g + 1 := ⟨f - 1, by omega⟩
    have : k = K := by omega
    subst this
    refine ⟨h, ?_, mb_Fw.rf _ _, r, hwi, rfl⟩
    have h7 := (wv_W hw (n := k) (Nat.le_refl _)).w7
    rw [B_X2_beginWinter_11, r.f7, h7, if_pos (nI_le (by omega) (by omega))]
  | succ m ih =>
    intro k f h hk hf r hwi
    obtain ⟨f, rfl⟩ : ∃ g, f = g + 1 := ⟨f - 1, by omega⟩
    have hkK : k < K := by omega
    have hwk := wv_W hw (n := k) (by omega)
    have ek : ∀ j, j < 9 → bo (wv w k) k j = bo w k j := fun j hj => by rw [wv_bo w k k j hj, if_neg (by omega)]
    have hskip : mvr w k = false → ∃ g, B_X2_beginWinter_11 f o (nI (k + 1)) h = B_X2_beginWinter_93 mb_fu o 0 g ∧ mb_Fw o h g ∧ mb_RM g o (wv w K) B K T ∧ (∀ x b, x < 20 → b < 16 → pl_wi g x b = (decide (x < K) && wis w B K T x b)) ∧ g.1 4 = h.1 4 := fun hm => by
      have ewv : wv w (k + 1) = wv w k := by rw [wv, hm]; rfl
      refine ih (k + 1) f h (by omega) (by omega) (by rw [ewv]; exact r) (fun x b hx hb => ?_)
      rw [hwi x b hx hb]
      by_cases q : x = k
      · subst q
        have : wis w B K T x b = false := by unfold wis; rw [hm]; simp
        rw [this]; simp
      · by_cases q2 : x < k
        · rw [decide_eq_true q2, decide_eq_true (show x < k + 1 by omega)]
        · rw [decide_eq_false q2, decide_eq_false (show ¬ x < k + 1 by omega)]
    rw [B_X2_beginWinter_11, r.f7, hwk.w7, if_neg (nI_ge (by omega) (by omega)), px_gB (show k < 20 by omega) (by decide), nI_clamp (by omega)]
    rcases (hw.boat hkK).1 with ⟨h3, b0, hb0, h4⟩ | ⟨h3, h4⟩
    · have h4k : bo (wv w k) k 4 = nI b0 := (ek 4 (by decide)).trans h4
      rw [c2_berthOf1 r hwk hkK hb0 h4k]
      simp only [px_cI, px_cIx, px_cV, px_cVx, px_cL, px_cLx, px_cR0, px_cR1, px_cRx, px_lI, px_lL, px_up, px_gZ0, px_gZ1, px_gZb, px_g0, px_g1, px_g2, px_g3, px_g4, px_g5, px_g6, px_g7, px_g8, px_g9, px_g10, px_g11, px_g12, px_g13, px_g14, px_c0, px_c1, px_c2, px_c3, px_c4, px_c5, px_c6, px_c7, px_c8, px_c9, px_c10, px_c11, px_c12, px_c13, px_c14, nI_1]
      have et : bt (wv w k) b0 2 = bt w b0 2 := by
        show wv w k (26 + 4 * b0 + 2) = w (26 + 4 * b0 + 2)
        rw [wv_lo w k _ (by omega), if_neg (by omega)]
      rw [(r.t hb0).2.2.1, et]
      by_cases q : bt w b0 2 = 0
      · rw [if_pos q]
        refine hskip ?_
        unfold mvr
        rw [h4, nI_clamp (by omega), q]
        simp
      · rw [if_neg q]
        have q1 : bt w b0 2 = 1 := (hw.ex hb0).resolve_left q
        have hm : mvr w k = true := by
          unfold mvr
          rw [h3, h4, nI_clamp (by omega), q1]; rfl
        have h34 : h.1 3 o k 4 = bo w k 4 := (r.q hkK).2.2.2.2.1.trans (ek 4 (by decide))
        have ewv : wv w (k + 1) = wb (wb (wb (wv w k) k 7 (bo w k 4)) k 3 3) k 4 (-1) := by rw [wv, hm]; rfl
        have hw2 := wv_W hw (n := k + 1) (by omega)
        have r1 : mb_RM (mb_sI h 3 o k 5 (bo w k 4)) o (wb (wv w k) k 7 (bo w k 4)) B K T := by
          obtain ⟨q0, q1, q2, q3, q4, q5, q6⟩ := r.q hkK
          refine r.boat1 hB hT (k0 := k) (fun j h1 _ => by rw [wb_lo _ _ _ _ h1]) ?_ (fun k2 _ hk2 j hj => by rw [wb_other _ _ _ _ (by decide) hk2 hj]) (fun j _ => by rw [mb_sI_o _ _ _ _ _ _ (by decide)]) (by rw [mb_sI_o _ _ _ _ _ _ (by decide)]) (fun k2 hk2 => ?_) (by rw [mb_sI_o _ _ _ _ _ _ (by decide)]) rfl ?_
          · rw [mb_sI_o _ _ _ _ _ _ (by decide), r.f9, wb_lo _ _ _ _ (by decide)]
          · funext j
            simp [mb_sI, hk2]
          · unfold cp_b
            have e : ∀ j, j < 9 → bo (wb (wv w k) k 7 (bo w k 4)) k j = if j = 7 then bo w k 4 else bo (wv w k) k j := fun j hj => by
              rw [wb_bo _ _ _ _ (by decide) hj]
              by_cases z : j = 7
              · rw [if_pos ⟨rfl, z⟩, if_pos z]
              · rw [if_neg (fun u => z u.2), if_neg z]
            rw [e 0 (by decide), e 1 (by decide), e 2 (by decide), e 3 (by decide), e 4 (by decide), e 7 (by decide), e 8 (by decide)]
            refine ⟨?_, fun z => ?_⟩
            · simp [mb_sI, q0, q1, q2, q3, q4, q6]
            · have z : bo (wv w k) k 3 = 2 := z
              rw [ek 3 (by decide), h3] at z
              exact absurd z (by decide)
        have r2 := r1.mv2 hB hT hkK 3 (-1) (by decide)
        rw [← ewv] at r2
        obtain ⟨s, s1, s2⟩ := c2_sh_loop r2 hw2 hkK B 0 mb_fu 0 (by omega) (by unfold mb_fu; omega)
        have fr : mb_Fw o h (mb_sI (mb_sI (mb_sI h 3 o k 5 (bo w k 4)) 3 o k 3 3) 3 o k 4 (-1)) := mb_Fw.fr (((mb_Fr.wI h k 5 _ (by decide)).tr (mb_Fr.wI _ k 3 _ (by decide))).tr (mb_Fr.wI _ k 4 _ (by decide)))
        have e14 : (mb_sI (mb_sI (mb_sI h 3 o k 5 (bo w k 4)) 3 o k 3 3) 3 o k 4 (-1)).1 14 = h.1 14 := by rw [mb_sI_o _ _ _ _ _ _ (by decide), mb_sI_o _ _ _ _ _ _ (by decide), mb_sI_o _ _ _ _ _ _ (by decide)]
        have e4 : (mb_sI (mb_sI (mb_sI h 3 o k 5 (bo w k 4)) 3 o k 3 3) 3 o k 4 (-1)).1 4 = h.1 4 := by rw [mb_sI_o _ _ _ _ _ _ (by decide), mb_sI_o _ _ _ _ _ _ (by decide), mb_sI_o _ _ _ _ _ _ (by decide)]
        have emv : F_X1_move o k 3 (-1) (mb_sI h 3 o k 5 (bo w k 4)) = mb_rV (mb_sI (mb_sI (mb_sI h 3 o k 5 (bo w k 4)) 3 o k 3 3) 3 o k 4 (-1)) := rfl
        rw [px_gB (show k < 20 by omega) (by decide), px_gB (show k < 20 by omega) (by decide), h34, px_gB (show k < 20 by omega) (by decide), emv]
        simp only [px_cI, px_cIx, px_cV, px_cVx, px_cL, px_cLx, px_cR0, px_cR1, px_cRx, px_lI, px_lL, px_up, px_gZ0, px_gZ1, px_gZb, px_g0, px_g1, px_g2, px_g3, px_g4, px_g5, px_g6, px_g7, px_g8, px_g9, px_g10, px_g11, px_g12, px_g13, px_g14, px_c0, px_c1, px_c2, px_c3, px_c4, px_c5, px_c6, px_c7, px_c8, px_c9, px_c10, px_c11, px_c12, px_c13, px_c14]
        generalize mb_sI (mb_sI (mb_sI h 3 o k 5 (bo w k 4)) 3 o k 3 3) 3 o k 4 (-1) = h2 at r2 s1 fr e14 e4 ⊢
        have s1 : F_X2_shelterFor o o k h2 = mb_rI s h2 := s1
        rw [px_gB (show k < 20 by omega) (by decide), s1]
        simp only [px_cI, px_cIx, px_cV, px_cVx, px_cL, px_cLx, px_cR0, px_cR1, px_cRx, px_lI, px_lL, px_up, px_gZ0, px_gZ1, px_gZb, px_g0, px_g1, px_g2, px_g3, px_g4, px_g5, px_g6, px_g7, px_g8, px_g9, px_g10, px_g11, px_g12, px_g13, px_g14, px_c0, px_c1, px_c2, px_c3, px_c4, px_c5, px_c6, px_c7, px_c8, px_c9, px_c10, px_c11, px_c12, px_c13, px_c14]
        unfold F_X4_ask
        rw [px_gB (show k < 20 by omega) (by decide), nI_clamp (by omega)]
        simp only [px_cI, px_cIx, px_cV, px_cVx, px_cL, px_cLx, px_cR0, px_cR1, px_cRx, px_lI, px_lL, px_up, px_gZ0, px_gZ1, px_gZb, px_g0, px_g1, px_g2, px_g3, px_g4, px_g5, px_g6, px_g7, px_g8, px_g9, px_g10, px_g11, px_g12, px_g13, px_g14, px_c0, px_c1, px_c2, px_c3, px_c4, px_c5, px_c6, px_c7, px_c8, px_c9, px_c10, px_c11, px_c12, px_c13, px_c14]
        obtain ⟨g, g1, g2, g3, g4, g5⟩ := ih (k + 1) f (mb_sI h2 14 0 0 k s) (by omega) (by omega) (r2.w14 k s) (fun x b hx hb => by
          show xb ((mb_sI h2 14 0 0 k s).1 14 0 0 x) b = _
          by_cases z : x = k
          · subst z
            rw [mb_sI_s, s2 b hb, xb_0, decide_eq_true (Nat.zero_le b), decide_eq_true (show x < x + 1 by omega), wv_shb hw, wv_fit hT1 hT _ _ _ hb]
            unfold wis
            rw [decide_eq_true hkK, hm]; simp
          · rw [mb_sI_j _ _ _ _ _ _ z, e14]
            have := hwi x b hx hb
            have this : xb (h.1 14 0 0 x) b = _ := this
            rw [this]
            by_cases z2 : x < k
            · rw [decide_eq_true z2, decide_eq_true (show x < k + 1 by omega)]
            · rw [decide_eq_false z2, decide_eq_false (show ¬ x < k + 1 by omega)])
        exact ⟨g, g1, (fr.tr (mb_Fw.w14 _ _ _)).tr g2, g3, g4, by rw [g5, mb_sI_o _ _ _ _ _ _ (by decide), e4]⟩
    · have h4k : bo (wv w k) k 4 = -1 := (ek 4 (by decide)).trans h4
      rw [c2_berthOf0 r hkK h4k]
      simp only [px_cI, px_cIx, px_cV, px_cVx, px_cL, px_cLx, px_cR0, px_cR1, px_cRx, px_lI, px_lL, px_up, px_gZ0, px_gZ1, px_gZb, px_g0, px_g1, px_g2, px_g3, px_g4, px_g5, px_g6, px_g7, px_g8, px_g9, px_g10, px_g11, px_g12, px_g13, px_g14, px_c0, px_c1, px_c2, px_c3, px_c4, px_c5, px_c6, px_c7, px_c8, px_c9, px_c10, px_c11, px_c12, px_c13, px_c14, nI_1]
      refine hskip ?_
      unfold mvr
      rw [decide_eq_false (sp_ne1 h3)]; rfl
theorem wu_7 (hw : mb_W w B K T D U) (wi : Nat → Nat → Bool) (n : Nat) : wu w K wi n 7 = nI K := by
  rw [wu_lo w K wi n 7 (by decide), if_neg (by decide)]
  exact hw.w7
theorem c2_bw93 (hw : mb_W w B K T D U) (wi : Nat → Nat → Bool) : ∀ (m k f : Nat) (h : mb_AH), k + m = K → m < f → mb_RM h o (wu w K wi k) B K T → (∀ x b, x < 20 → b < 16 → pl_wi h x b = wi x b) → (∀ b, b < 16 → pl_op h b = opk wi k b) → ∃ g, B_X2_beginWinter_93 f o (nI k) h = mb_rV g ∧ mb_Fw o h g ∧ mb_RM g o (wu w K wi K) B K T := by
  have hB := hw.B16; have hK := hw.K20; have hT := hw.T14
  intro m
  induction m with
  | zero =>
    intro k f h hk hf r hwi hop
    obtain ⟨f, rfl⟩ : ∃ g, f = g + 1 := ⟨f - 1, by omega⟩
    have : k = K := by omega
    subst this
    refine ⟨h, ?_, mb_Fw.rf _ _, r⟩
    rw [B_X2_beginWinter_93, r.f7, wu_7 hw, if_pos (nI_le (by omega) (by omega))]
  | succ m ih =>
    intro k f h hk hf r hwi hop
    obtain ⟨f, rfl⟩ : ∃ g, f = g + 1 := ⟨f - 1, by omega⟩
    have hk20 : k < 20 := by omega
    obtain ⟨g, e1, fg, eo⟩ := c4_giveTo hk20 h
    have ea : gv (pl_wi h) k (pl_op h) = asg wi k := gv_cg hwi (fun b hb _ => hop b hb) hk20
    rw [ea] at e1 eo
    have hop2 : ∀ b, b < 16 → pl_op g b = opk wi (k + 1) b := fun b hb => by
      rw [eo b hb]
      show gv_o (asg wi k) (pl_op h) b = gv_o (asg wi k) (opk wi k) b
      cases asg wi k with
      | none => exact hop b hb
      | some c =>
        show rm (pl_op h) c b = rm (opk wi k) c b
        unfold rm
        rw [hop b hb]
    have rg := r.pg fg
    have hwi2 : ∀ x b, x < 20 → b < 16 → pl_wi g x b = wi x b := fun x b hx hb => by rw [fg.wi]; exact hwi x b hx hb
    rw [B_X2_beginWinter_93, r.f7, wu_7 hw, if_neg (nI_ge (by omega) (by omega)), e1]
    simp only [px_cI, px_cIx, px_cV, px_cVx, px_cL, px_cLx, px_cR0, px_cR1, px_cRx, px_lI, px_lL, px_up, px_gZ0, px_gZ1, px_gZb, px_g0, px_g1, px_g2, px_g3, px_g4, px_g5, px_g6, px_g7, px_g8, px_g9, px_g10, px_g11, px_g12, px_g13, px_g14, px_c0, px_c1, px_c2, px_c3, px_c4, px_c5, px_c6, px_c7, px_c8, px_c9, px_c10, px_c11, px_c12, px_c13, px_c14, nI_1]
    cases ha : asg wi k with
    | none =>
      rw [show mb_oi none = -1 from rfl, if_pos rfl]
      have ewu : wu w K wi (k + 1) = wu w K wi k := by rw [wu, ha]
      obtain ⟨g2, p1, p2, p3⟩ := ih (k + 1) f g (by omega) (by omega) (by rw [ewu]; exact rg) hwi2 hop2
      exact ⟨g2, p1, (mb_Fw.pg fg).tr p2, p3⟩
    | some b =>
      have hb := (asg_some ha).1
      rw [show mb_oi (some b) = nI b from rfl, if_neg (px_neg1 (by omega)), px_gB hk20 (by decide), nI_clamp (by omega)]
      have ewu : wu w K wi (k + 1) = wb (wb (wu w K wi k) k 3 1) k 4 (nI b) := by rw [wu, ha]
      have emv : F_X1_move o k 1 (nI b) g = mb_rV (mb_sI (mb_sI g 3 o k 3 1) 3 o k 4 (nI b)) := rfl
      rw [emv]
      simp only [px_cI, px_cIx, px_cV, px_cVx, px_cL, px_cLx, px_cR0, px_cR1, px_cRx, px_lI, px_lL, px_up, px_gZ0, px_gZ1, px_gZb, px_g0, px_g1, px_g2, px_g3, px_g4, px_g5, px_g6, px_g7, px_g8, px_g9, px_g10, px_g11, px_g12, px_g13, px_g14, px_c0, px_c1, px_c2, px_c3, px_c4, px_c5, px_c6, px_c7, px_c8, px_c9, px_c10, px_c11, px_c12, px_c13, px_c14]
      have r2 := rg.mv2 hB hT (show k < K by omega) 1 (nI b) (by decide)
      rw [← ewu] at r2
      obtain ⟨g2, p1, p2, p3⟩ := ih (k + 1) f (mb_sI (mb_sI g 3 o k 3 1) 3 o k 4 (nI b)) (by omega) (by omega) r2 (fun x c hx hc => by
        show xb ((mb_sI (mb_sI g 3 o k 3 1) 3 o k 4 (nI b)).1 14 0 0 x) c = wi x c
        rw [mb_sI_o _ _ _ _ _ _ (by decide), mb_sI_o _ _ _ _ _ _ (by decide)]
        exact hwi2 x c hx hc) (fun c hc => by
        show xb ((mb_sI (mb_sI g 3 o k 3 1) 3 o k 4 (nI b)).1 4 0 0 2) c = _
        rw [mb_sI_o _ _ _ _ _ _ (by decide), mb_sI_o _ _ _ _ _ _ (by decide)]
        exact hop2 c hc)
      exact ⟨g2, p1, ((mb_Fw.pg fg).tr (mb_Fw.fr ((mb_Fr.wI g k 3 _ (by decide)).tr (mb_Fr.wI _ k 4 _ (by decide))))).tr p2, p3⟩
theorem c2_beginWinter (hw : mb_W w B K T D U) (r : mb_RM h o w B K T) : ∃ g, F_X2_beginWinter o h = mb_rV g ∧ mb_Fw o h g ∧ mb_RM g o (winw w B K T) B K T := by
  have hB := hw.B16; have hK := hw.K20; have hT := hw.T14
  have r1 : mb_RM (mb_sI h 1 o 0 12 1) o (wv w 0) B K T := by
    have ev : ∀ j, j ≠ 5 → wv w 0 j = w j := fun j hj => wr_o _ _ _ hj
    refine r.gen hB hT (fun j _ _ h5 _ => ev j h5) (by rw [mb_sI_j _ _ _ _ _ _ (by decide), ev 4 (by decide)]; exact r.f4) (by rw [mb_sI_s]; exact (wr_s _ _ _).symm) (by rw [mb_sI_j _ _ _ _ _ _ (by decide), ev 9 (by decide)]; exact r.f9) (fun j _ h12 _ => mb_sI_j _ _ _ _ _ _ h12 _ _ _) (by rw [mb_sI_o _ _ _ _ _ _ (by decide)]) (by rw [mb_sI_o _ _ _ _ _ _ (by decide)]) rfl (fun k hk => ?_)
    have eb : ∀ j, bo (wv w 0) k j = bo w k j := fun j => ev _ (by omega)
    unfold cp_b
    simp only [eb]
    rw [mb_sI_o _ _ _ _ _ _ (by decide), ev 4 (by decide)]
    exact r.2.2.2.2.2 k hk
  obtain ⟨g1, e1, f1, f2, f3, f4⟩ := c4_clear (mb_sI h 1 o 0 12 1)
  have fw1 : mb_Fw o h g1 := by
    refine (mb_Fw.fr (mb_Fr.wI (k := 1) h 0 12 1 (by decide))).tr ⟨fun k h4 h14 _ _ => f1 k h4 h14, fun k a hk _ => by rw [f1 k (by omega) (by omega)], fun k _ => by rw [f2], fun a _ => by rw [f2], by rw [f2]⟩
  have r2 : mb_RM g1 o (wv w 0) B K T := r1.cg (by rw [f1 1 (by decide) (by decide)]) (by rw [f1 2 (by decide) (by decide)]) (by rw [f1 3 (by decide) (by decide)]) (by rw [f1 12 (by decide) (by decide)]) (by rw [f2])
  obtain ⟨g2, p1, p2, p3, p4, p5⟩ := c2_bw11 hw K 0 mb_fu g1 (by omega) (by unfold mb_fu; omega) r2 (fun x b hx hb => by
    show xb (g1.1 14 0 0 x) b = _
    rw [f4 x hx, xb_0, decide_eq_false (Nat.not_lt_zero x)]; rfl)
  have hwi : ∀ x b, x < 20 → b < 16 → pl_wi g2 x b = wis w B K T x b := fun x b hx hb => by
    rw [p4 x b hx hb]
    by_cases q : x < K
    · rw [decide_eq_true q]; rfl
    · rw [decide_eq_false q]
      unfold wis
      rw [decide_eq_false q]; rfl
  obtain ⟨g3, q1, q2, q3⟩ := c2_bw93 hw (wis w B K T) K 0 mb_fu g2 (by omega) (by unfold mb_fu; omega) p3 hwi (fun b hb => by
    show xb (g2.1 4 0 0 2) b = true
    rw [p5, f3, xb_all hb])
  refine ⟨g3, ?_, (fw1.tr p2).tr q2, q3⟩
  unfold F_X2_beginWinter
  simp only [px_cI, px_cIx, px_cV, px_cVx, px_cL, px_cLx, px_cR0, px_cR1, px_cRx, px_lI, px_lL, px_up, px_gZ0, px_gZ1, px_gZb, px_g0, px_g1, px_g2, px_g3, px_g4, px_g5, px_g6, px_g7, px_g8, px_g9, px_g10, px_g11, px_g12, px_g13, px_g14, px_c0, px_c1, px_c2, px_c3, px_c4, px_c5, px_c6, px_c7, px_c8, px_c9, px_c10, px_c11, px_c12, px_c13, px_c14]
  rw [e1]
  simp only [px_cI, px_cIx, px_cV, px_cVx, px_cL, px_cLx, px_cR0, px_cR1, px_cRx, px_lI, px_lL, px_up, px_gZ0, px_gZ1, px_gZb, px_g0, px_g1, px_g2, px_g3, px_g4, px_g5, px_g6, px_g7, px_g8, px_g9, px_g10, px_g11, px_g12, px_g13, px_g14, px_c0, px_c1, px_c2, px_c3, px_c4, px_c5, px_c6, px_c7, px_c8, px_c9, px_c10, px_c11, px_c12, px_c13, px_c14]
  have p1 : B_X2_beginWinter_11 mb_fu o 0 g1 = B_X2_beginWinter_93 mb_fu o 0 g2 := p1
  rw [p1]
  exact q1
end
