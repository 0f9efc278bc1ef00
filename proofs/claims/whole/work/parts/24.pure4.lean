/-! ===== pure: the relation that every call keeps ===== -/
/-- marina o stands for the row w, after n calls -/
def mb_J (n : Nat) (h : mb_AH) (o : Nat) (w : Nat → Int32) : Prop := ∃ B K T D U : Nat, mb_W w B K T D U ∧ mb_RM h o w B K T ∧ D ≤ 400 * n ∧ U ≤ 8000 * n ∧ (∃ p : Nat, w 10 = nI p ∧ p ≤ 3 * n) ∧ mb_H w K
def mb_tx (h : mb_AH) (tl : Nat) : Prop := tl ≤ 70 ∧ h.1 5 0 0 1 = nI tl ∧ h.1 6 0 0 6 = nI tl ∧ ∀ k, k < tl → h.1 16 0 0 k = h.1 23 0 0 k ∧ ∃ c : Nat, h.1 23 0 0 k = nI c ∧ 32 ≤ c ∧ c ≤ 126
def mb_rc (n : Nat) (h : mb_AH) (rc : Nat) : Prop := rc ≤ 4 ∧ h.1 0 0 0 3 = nI rc ∧ h.1 6 0 0 3 = nI rc ∧ (∀ i, i < 4 → 2 ≤ h.2.2 i ∧ h.2.2 i < 6) ∧ (∀ i j, i < 4 → j < 4 → h.2.2 i = h.2.2 j → i = j) ∧ ∀ i, i < rc → mb_J n h (h.2.2 i) (fun j => h.1 21 0 0 (270 * i + j))
def mb_S (n : Nat) (h : mb_AH) : Prop := (∃ tl, mb_tx h tl) ∧ (∃ rc, mb_rc n h rc) ∧ mb_J n h 0 (h.1 20 0 0)
theorem mb_RM.cg {h g : mb_AH} {o : Nat} {w : Nat → Int32} {B K T : Nat} (r : mb_RM h o w B K T) (e1 : g.1 1 o = h.1 1 o) (e2 : g.1 2 o = h.1 2 o) (e3 : g.1 3 o = h.1 3 o) (e4 : g.1 12 o = h.1 12 o) (e5 : g.2.1 1 o = h.2.1 1 o) : mb_RM g o w B K T := by
  unfold mb_RM at r ⊢
  rw [e1, e2, e3, e4, e5]
  exact r
theorem mb_J.cg {n : Nat} {h g : mb_AH} {o : Nat} {w : Nat → Int32} (r : mb_J n h o w) (e1 : g.1 1 o = h.1 1 o) (e2 : g.1 2 o = h.1 2 o) (e3 : g.1 3 o = h.1 3 o) (e4 : g.1 12 o = h.1 12 o) (e5 : g.2.1 1 o = h.2.1 1 o) : mb_J n g o w := by
  obtain ⟨B, K, T, D, U, a, b, c⟩ := r
  exact ⟨B, K, T, D, U, a, b.cg e1 e2 e3 e4 e5, c⟩
theorem mb_J.up {n m : Nat} {h : mb_AH} {o : Nat} {w : Nat → Int32} (r : mb_J n h o w) (hm : n ≤ m) : mb_J m h o w := by
  obtain ⟨B, K, T, D, U, a, b, c, d, ⟨p, e, f⟩, hH⟩ := r
  exact ⟨B, K, T, D, U, a, b, by omega, by omega, ⟨p, e, by omega⟩, hH⟩
theorem mb_rc.cg {n : Nat} {h g : mb_AH} {rc : Nat} (r : mb_rc n h rc) (e0 : g.1 0 0 0 3 = h.1 0 0 0 3) (e6 : g.1 6 0 0 3 = h.1 6 0 0 3) (e21 : g.1 21 = h.1 21) (eR : g.2.2 = h.2.2) (e1 : g.1 1 = h.1 1) (e2 : g.1 2 = h.1 2) (e3 : g.1 3 = h.1 3) (e4 : g.1 12 = h.1 12) (e5 : g.2.1 1 = h.2.1 1) : mb_rc n g rc := by
  obtain ⟨a, b, c, d, e, f⟩ := r
  refine ⟨a, by rw [e0]; exact b, by rw [e6]; exact c, by rw [eR]; exact d, by rw [eR]; exact e, fun i hi => ?_⟩
  rw [e21, eR]
  exact (f i hi).cg (by rw [e1]) (by rw [e2]) (by rw [e3]) (by rw [e4]) (by rw [e5])
theorem mb_rc.up {n m : Nat} {h : mb_AH} {rc : Nat} (r : mb_rc n h rc) (hm : n ≤ m) : mb_rc m h rc := ⟨r.1, r.2.1, r.2.2.1, r.2.2.2.1, r.2.2.2.2.1, fun i hi => (r.2.2.2.2.2 i hi).up hm⟩
theorem mb_tx.cg {h g : mb_AH} {tl : Nat} (r : mb_tx h tl) (e1 : g.1 5 0 0 1 = h.1 5 0 0 1) (e2 : g.1 6 0 0 6 = h.1 6 0 0 6) (e3 : g.1 16 = h.1 16) (e4 : g.1 23 = h.1 23) : mb_tx g tl := by
  obtain ⟨a, b, c, d⟩ := r
  refine ⟨a, by rw [e1]; exact b, by rw [e2]; exact c, ?_⟩
  rw [e3, e4]
  exact d
theorem mb_S.up {n m : Nat} {h : mb_AH} (r : mb_S n h) (hm : n ≤ m) : mb_S m h := by
  obtain ⟨a, ⟨rc, b⟩, c⟩ := r
  exact ⟨a, ⟨rc, b.up hm⟩, c.up hm⟩
theorem mb_sI_o (h : mb_AH) (k a b j : Nat) (x : Int32) {k2 : Nat} (hk : k2 ≠ k) : (mb_sI h k a b j x).1 k2 = h.1 k2 := by
  funext a2 b2 j2
  simp [mb_sI, hk]
theorem mb_sI_j (h : mb_AH) (k a b j : Nat) (x : Int32) {j2 : Nat} (hj : j2 ≠ j) (k2 a2 b2 : Nat) : (mb_sI h k a b j x).1 k2 a2 b2 j2 = h.1 k2 a2 b2 j2 := by
  simp [mb_sI, hj]
theorem mb_sI_s (h : mb_AH) (k a b j : Nat) (x : Int32) : (mb_sI h k a b j x).1 k a b j = x := by simp [mb_sI]
/-- a change of what stands outside the relation: the refusal, out, scratch -/
theorem mb_S.cg {n : Nat} {h g : mb_AH} (r : mb_S n h) (e0 : g.1 0 0 0 3 = h.1 0 0 0 3) (e6 : g.1 6 0 0 3 = h.1 6 0 0 3) (e66 : g.1 6 0 0 6 = h.1 6 0 0 6) (e5 : g.1 5 0 0 1 = h.1 5 0 0 1) (e21 : g.1 21 = h.1 21) (e20 : g.1 20 = h.1 20) (e16 : g.1 16 = h.1 16) (e23 : g.1 23 = h.1 23) (eR : g.2.2 = h.2.2) (e1 : g.1 1 = h.1 1) (e2 : g.1 2 = h.1 2) (e3 : g.1 3 = h.1 3) (e4 : g.1 12 = h.1 12) (eL : g.2.1 1 = h.2.1 1) : mb_S n g := by
  obtain ⟨⟨tl, a⟩, ⟨rc, b⟩, c⟩ := r
  refine ⟨⟨tl, a.cg e5 e66 e16 e23⟩, ⟨rc, b.cg e0 e6 e21 eR e1 e2 e3 e4 eL⟩, ?_⟩
  rw [e20]
  exact c.cg (by rw [e1]) (by rw [e2]) (by rw [e3]) (by rw [e4]) (by rw [eL])
theorem mb_S.ref {n : Nat} {h : mb_AH} (r : mb_S n h) (x : Int32) : mb_S n (mb_sI h 6 0 0 4 x) :=
  r.cg (by rw [mb_sI_o _ _ _ _ _ _ (by decide)]) (mb_sI_j _ _ _ _ _ _ (by decide) _ _ _) (mb_sI_j _ _ _ _ _ _ (by decide) _ _ _) (by rw [mb_sI_o _ _ _ _ _ _ (by decide)]) (mb_sI_o _ _ _ _ _ _ (by decide)) (mb_sI_o _ _ _ _ _ _ (by decide)) (mb_sI_o _ _ _ _ _ _ (by decide)) (mb_sI_o _ _ _ _ _ _ (by decide)) rfl (mb_sI_o _ _ _ _ _ _ (by decide)) (mb_sI_o _ _ _ _ _ _ (by decide)) (mb_sI_o _ _ _ _ _ _ (by decide)) (mb_sI_o _ _ _ _ _ _ (by decide)) rfl
theorem mb_S.out {n : Nat} {h : mb_AH} (r : mb_S n h) (x : Int64) : mb_S n (mb_sL h 30 0 0 0 x) :=
  r.cg rfl rfl rfl rfl rfl rfl rfl rfl rfl rfl rfl rfl rfl (by funext a b j; simp [mb_sL])
theorem px_s20 (g : mb_AH) (x : Int32) : (mb_sI g 6 0 0 4 x).1 20 = g.1 20 := mb_sI_o _ _ _ _ _ _ (by decide)
/-! questions: nothing changes but the refusal and out -/
theorem q_ret {es : List String} {f5 : Option mb_RS} {f6 : mb_AH → Option mb_RS} {n : Nat} {h : mb_AH} {v : Int32} (hS : mb_S n h) (h5 : f5 = mb_rI v h) (h6 : ∀ g : mb_AH, g.1 = h.1 → f6 g = mb_rI v (mb_sI g 6 0 0 4 0)) : mb_PI es f5 f6 (mb_S (n + 1)) :=
  Or.inl ⟨v, h, mb_sI (mb_sL h 30 0 0 0 v.toInt64) 6 0 0 4 0, h5, h6 _ rfl, mb_sI_s _ _ _ _ _ _, by simp [mb_sI, mb_sL], ((hS.up (Nat.le_succ n)).out _).ref _⟩
theorem q_thr {es : List String} {f5 : Option mb_RS} {f6 : mb_AH → Option mb_RS} {n j : Nat} {E : String} {h : mb_AH} {b : Int32} (hS : mb_S n h) (he : es[j]? = some E) (h5 : f5 = mb_rX E h) (h6 : f6 h = mb_rI b (mb_sI h 6 0 0 4 (nI (j + 1)))) : mb_PI es f5 f6 (mb_S (n + 1)) :=
  Or.inr ⟨j, E, h, b, _, he, h5, h6, mb_sI_s _ _ _ _ _ _, (hS.up (Nat.le_succ n)).ref _⟩
theorem q_pp {f5 : Option mb_RS} {f6 : mb_AH → Option mb_RS} {n : Nat} {h : mb_AH} {v : Int32} (hS : mb_S n h) (h5 : f5 = mb_rI v h) (h6 : f6 h = mb_rI v (mb_sI h 6 0 0 4 0)) : mb_PP f5 f6 (mb_S (n + 1)) := ⟨v, h, _, h5, h6, (hS.up (Nat.le_succ n)).ref _⟩
theorem q_pl {f5 : Option mb_RS} {f6 : mb_AH → Option mb_RS} {n : Nat} {h : mb_AH} {v : Int64} (hS : mb_S n h) (h5 : f5 = mb_rL v h) (h6 : f6 h = mb_rL v (mb_sI h 6 0 0 4 0)) : mb_PL f5 f6 (mb_S (n + 1)) := ⟨v, h, _, h5, h6, (hS.up (Nat.le_succ n)).ref _⟩
section
variable {h : mb_AH} {w : Nat → Int32} {B K T D U n : Nat}
theorem c5_checkBoat (r : mb_RM h 0 w B K T) (hw : mb_W w B K T D U) (x : Int32) : F_X5_checkBoat x h = if mb_ix x K = true then mb_rV h else mb_rX "java/lang/IndexOutOfBoundsException" h := by
  unfold F_X5_checkBoat mb_ix
  rw [r.f7, hw.w7]
  by_cases q : x < 0
  · rw [if_pos q, decide_eq_false (Int32.not_le.mpr q)]; rfl
  · rw [if_neg q, decide_eq_true (Int32.not_lt.mp q)]
    by_cases q2 : x < nI K
    · rw [if_pos q2, decide_eq_true q2]; rfl
    · rw [if_neg q2, decide_eq_false q2]; rfl
theorem c5_checkBerth (r : mb_RM h 0 w B K T) (hw : mb_W w B K T D U) (x : Int32) : F_X5_checkBerth x h = if mb_ix x B = true then mb_rV h else mb_rX "java/lang/IndexOutOfBoundsException" h := by
  unfold F_X5_checkBerth mb_ix
  rw [r.f6, hw.w6]
  by_cases q : x < 0
  · rw [if_pos q, decide_eq_false (Int32.not_le.mpr q)]; rfl
  · rw [if_neg q, decide_eq_true (Int32.not_lt.mp q)]
    by_cases q2 : x < nI B
    · rw [if_pos q2, decide_eq_true q2]; rfl
    · rw [if_neg q2, decide_eq_false q2]; rfl
theorem c5_checkDays (x : Int32) (h : mb_AH) : F_X5_isWithin x 1 400 h = mb_rI (mb_b (decide (1 ≤ x) && decide (x ≤ 400))) h := m6_within x 1 400 h
theorem c5_isWithin (x lo hi : Int32) (h : mb_AH) : F_X5_isWithin x lo hi h = mb_rI (mb_b (decide (lo ≤ x) && decide (x ≤ hi))) h := m6_within x lo hi h
theorem c5_info (r : mb_RM h 0 w B K T) (hw : mb_W w B K T D U) {c : Nat} (hc : c < 14) : F_X5_info (nI c) h = mb_rI (sp_info w B K T D c) h := by
  unfold F_X5_info sp_info
  simp only [px_cI, px_cIx, px_cV, px_cVx, px_cL, px_cLx, px_cR0, px_cR1, px_cRx, px_lI, px_lL, px_up, px_gZ0, px_gZ1, px_gZb, px_g0, px_g1, px_g2, px_g3, px_g4, px_g5, px_g6, px_g7, px_g8, px_g9, px_g10, px_g11, px_g12, px_g13, px_g14, px_c0, px_c1, px_c2, px_c3, px_c4, px_c5, px_c6, px_c7, px_c8, px_c9, px_c10, px_c11, px_c12, px_c13, px_c14, c2_countIn r hw, c2_countAground r hw, r.f0, r.f1, r.f2, r.f3, r.f4, r.f5, r.f6, r.f7, r.f8, r.low, hw.w6]
  have hwin : (if w 5 = 0 then mb_rI 0 h else mb_rI 1 h) = mb_rI (w 5) h := by rcases hw.wi with e | e <;> rw [e] <;> rfl
  rw [hwin]
  rcases (show c = 0 ∨ c = 1 ∨ c = 2 ∨ c = 3 ∨ c = 4 ∨ c = 5 ∨ c = 6 ∨ c = 7 ∨ c = 8 ∨ c = 9 ∨ c = 10 ∨ c = 11 ∨ c = 12 ∨ c = 13 by omega) with rfl | rfl | rfl | rfl | rfl | rfl | rfl | rfl | rfl | rfl | rfl | rfl | rfl | rfl
  · rfl
  · rfl
  · rfl
  · rfl
  · rfl
  · rfl
  · show mb_rI (nI B) h = mb_rI (w 6) h
    rw [hw.w6]
  · rfl
  · rfl
  · rfl
  · rfl
  · rfl
  · rfl
  · rfl
theorem c5_infox (x : Int32) (hx : mb_ix x 14 = false) (h : mb_AH) : F_X5_info x h = mb_rX "java/lang/IllegalArgumentException" h := by
  have hne : ∀ k : Nat, k < 14 → ¬ x = nI k := fun k hk e => by rw [e, px_ixt hk (by decide)] at hx; cases hx
  unfold F_X5_info
  rw [if_neg (show ¬ x = 0 from hne 0 (by decide)), if_neg (show ¬ x = 1 from hne 1 (by decide)), if_neg (show ¬ x = 2 from hne 2 (by decide)), if_neg (show ¬ x = 3 from hne 3 (by decide)), if_neg (show ¬ x = 4 from hne 4 (by decide)), if_neg (show ¬ x = 5 from hne 5 (by decide)), if_neg (show ¬ x = 6 from hne 6 (by decide)), if_neg (show ¬ x = 7 from hne 7 (by decide)), if_neg (show ¬ x = 8 from hne 8 (by decide)), if_neg (show ¬ x = 9 from hne 9 (by decide)), if_neg (show ¬ x = 10 from hne 10 (by decide)), if_neg (show ¬ x = 11 from hne 11 (by decide)), if_neg (show ¬ x = 12 from hne 12 (by decide)), if_neg (show ¬ x = 13 from hne 13 (by decide))]
theorem c5_berth (r : mb_RM h 0 w B K T) (hw : mb_W w B K T D U) {b c : Nat} (hb : b < B) (hc : c < 7) : F_X5_berth (nI b) (nI c) h = mb_rI (sp_berth w K T b c) h := by
  have hB := hw.B16
  unfold F_X5_berth sp_berth
  rw [c5_checkBerth r hw, px_ixt hb (by omega), if_pos rfl]
  simp only [px_cI, px_cIx, px_cV, px_cVx, px_cL, px_cLx, px_cR0, px_cR1, px_cRx, px_lI, px_lL, px_up, px_gZ0, px_gZ1, px_gZb, px_g0, px_g1, px_g2, px_g3, px_g4, px_g5, px_g6, px_g7, px_g8, px_g9, px_g10, px_g11, px_g12, px_g13, px_g14, px_c0, px_c1, px_c2, px_c3, px_c4, px_c5, px_c6, px_c7, px_c8, px_c9, px_c10, px_c11, px_c12, px_c13, px_c14]
  rw [px_gB (show b < 16 by omega) (by decide), nI_clamp (by omega), c2_boatIn r hw (by omega), c2_countFitting r hw hb]
  simp only [px_cI, px_cIx, px_cV, px_cVx, px_cL, px_cLx, px_cR0, px_cR1, px_cRx, px_lI, px_lL, px_up, px_gZ0, px_gZ1, px_gZb, px_g0, px_g1, px_g2, px_g3, px_g4, px_g5, px_g6, px_g7, px_g8, px_g9, px_g10, px_g11, px_g12, px_g13, px_g14, px_c0, px_c1, px_c2, px_c3, px_c4, px_c5, px_c6, px_c7, px_c8, px_c9, px_c10, px_c11, px_c12, px_c13, px_c14]
  rw [(r.t hb).1, (r.t hb).2.1, (r.t hb).2.2.1, (r.t hb).2.2.2, r.low]
  have hex : (if bt w b 2 = 0 then mb_rI 0 h else mb_rI 1 h) = mb_rI (bt w b 2) h := by rcases hw.ex hb with e | e <;> rw [e] <;> rfl
  rw [hex]
  rcases (show c = 0 ∨ c = 1 ∨ c = 2 ∨ c = 3 ∨ c = 4 ∨ c = 5 ∨ c = 6 by omega) with rfl | rfl | rfl | rfl | rfl | rfl | rfl <;> rfl
theorem px_ixne {x : Int32} {N : Nat} (hx : mb_ix x N = false) (hN : N < 2 ^ 31) {k : Nat} (hk : k < N) : ¬ x = nI k := fun e => by rw [e, px_ixt hk hN] at hx; cases hx
theorem c5_berthx (r : mb_RM h 0 w B K T) (hw : mb_W w B K T D U) {b : Nat} (hb : b < B) (x : Int32) (hx : mb_ix x 7 = false) : F_X5_berth (nI b) x h = mb_rX "java/lang/IllegalArgumentException" h := by
  have hB := hw.B16
  have hne : ∀ k : Nat, k < 7 → ¬ x = nI k := fun k hk => px_ixne hx (by decide) hk
  unfold F_X5_berth
  rw [c5_checkBerth r hw, px_ixt hb (by omega), if_pos rfl, px_cV, px_gB (show b < 16 by omega) (by decide)]
  rw [if_neg (show ¬ x = 0 from hne 0 (by decide)), if_neg (show ¬ x = 1 from hne 1 (by decide)), if_neg (show ¬ x = 2 from hne 2 (by decide)), if_neg (show ¬ x = 3 from hne 3 (by decide)), if_neg (show ¬ x = 4 from hne 4 (by decide)), if_neg (show ¬ x = 5 from hne 5 (by decide)), if_neg (show ¬ x = 6 from hne 6 (by decide))]
theorem c5_boat (r : mb_RM h 0 w B K T) (hw : mb_W w B K T D U) {k c : Nat} (hk : k < K) (hc : c < 10) : F_X5_boat (nI k) (nI c) h = mb_rI (sp_boat w T D k c) h := by
  have hK := hw.K20
  unfold F_X5_boat sp_boat
  rw [c5_checkBoat r hw, px_ixt hk (by omega), if_pos rfl]
  simp only [px_cI, px_cIx, px_cV, px_cVx, px_cL, px_cLx, px_cR0, px_cR1, px_cRx, px_lI, px_lL, px_up, px_gZ0, px_gZ1, px_gZb, px_g0, px_g1, px_g2, px_g3, px_g4, px_g5, px_g6, px_g7, px_g8, px_g9, px_g10, px_g11, px_g12, px_g13, px_g14, px_c0, px_c1, px_c2, px_c3, px_c4, px_c5, px_c6, px_c7, px_c8, px_c9, px_c10, px_c11, px_c12, px_c13, px_c14]
  rw [px_gB (show k < 20 by omega) (by decide), nI_clamp (by omega), c2_isAground r hw hk, c2_isWhereItFits r hw hk]
  simp only [px_cI, px_cIx, px_cV, px_cVx, px_cL, px_cLx, px_cR0, px_cR1, px_cRx, px_lI, px_lL, px_up, px_gZ0, px_gZ1, px_gZb, px_g0, px_g1, px_g2, px_g3, px_g4, px_g5, px_g6, px_g7, px_g8, px_g9, px_g10, px_g11, px_g12, px_g13, px_g14, px_c0, px_c1, px_c2, px_c3, px_c4, px_c5, px_c6, px_c7, px_c8, px_c9, px_c10, px_c11, px_c12, px_c13, px_c14]
  obtain ⟨a0, a1, a2, a3, a4, a5, a6⟩ := r.q hk
  rw [a0, a1, a2, a3, a4, a5, a6]
  have hp : (if bo w k 3 = 2 then mb_cI (F_X2_points 0 0 k h) fun y103 h102 => mb_rI y103 h102 else mb_rI (-1) h) = mb_rI (if bo w k 3 = 2 then sp_pt w k else -1) h := by
    by_cases q : bo w k 3 = 2
    · rw [if_pos q, if_pos q, c2_points r hk q]; rfl
    · rw [if_neg q, if_neg q]
  have hag : ∀ p : Bool, (if mb_b p = 0 then mb_rI 0 h else mb_rI 1 h) = mb_rI (mb_b p) h := fun p => by cases p <;> rfl
  rw [hp, hag, hag]
  rcases (show c = 0 ∨ c = 1 ∨ c = 2 ∨ c = 3 ∨ c = 4 ∨ c = 5 ∨ c = 6 ∨ c = 7 ∨ c = 8 ∨ c = 9 by omega) with rfl | rfl | rfl | rfl | rfl | rfl | rfl | rfl | rfl | rfl <;> rfl
theorem c5_boatx (r : mb_RM h 0 w B K T) (hw : mb_W w B K T D U) {k : Nat} (hk : k < K) (x : Int32) (hx : mb_ix x 10 = false) : F_X5_boat (nI k) x h = mb_rX "java/lang/IllegalArgumentException" h := by
  have hK := hw.K20
  have hne : ∀ k : Nat, k < 10 → ¬ x = nI k := fun k hk => px_ixne hx (by decide) hk
  unfold F_X5_boat
  rw [c5_checkBoat r hw, px_ixt hk (by omega), if_pos rfl, px_cV, px_gB (show k < 20 by omega) (by decide)]
  rw [if_neg (show ¬ x = 0 from hne 0 (by decide)), if_neg (show ¬ x = 1 from hne 1 (by decide)), if_neg (show ¬ x = 2 from hne 2 (by decide)), if_neg (show ¬ x = 3 from hne 3 (by decide)), if_neg (show ¬ x = 4 from hne 4 (by decide)), if_neg (show ¬ x = 5 from hne 5 (by decide)), if_neg (show ¬ x = 6 from hne 6 (by decide)), if_neg (show ¬ x = 7 from hne 7 (by decide)), if_neg (show ¬ x = 8 from hne 8 (by decide)), if_neg (show ¬ x = 9 from hne 9 (by decide))]
end
