/-! ===== pure: winter begins, the reference's side ===== -/
theorem sp_find_min {P : Nat → Bool} {x : Nat} : ∀ {m j : Nat}, sp_find P j m = some x → ∀ y, j ≤ y → y < x → P y = false := by
  intro m
  induction m with
  | zero => intro j h; cases h
  | succ m ih =>
    intro j h y h1 h2
    have h : cond (P j) (some j) (sp_find P (j + 1) m) = some x := h
    cases hp : P j with
    | true => rw [hp] at h; cases h; omega
    | false =>
      rw [hp] at h
      by_cases q : y = j
      · subst q; exact hp
      · exact ih h y (by omega) h2
theorem sp_find_last {P : Nat → Bool} : ∀ (m j : Nat), sp_find P j (m + 1) = match sp_find P j m with
    | none => cond (P (j + m)) (some (j + m)) none
    | some x => some x := by
  intro m
  induction m with
  | zero => intro j; rfl
  | succ m ih =>
    intro j
    show cond (P j) (some j) (sp_find P (j + 1) (m + 1)) = match cond (P j) (some j) (sp_find P (j + 1) m) with
      | none => cond (P (j + (m + 1))) (some (j + (m + 1))) none
      | some x => some x
    rw [ih (j + 1), show j + 1 + m = j + (m + 1) by omega]
    cases P j <;> rfl
def lowf (c : Nat → Bool) : Nat → Option Nat → Option Nat
  | 0, o => o
  | n + 1, o => lowf c n (cond (c n) (some n) o)
theorem lowf_eq (c : Nat → Bool) : ∀ (n : Nat) (o : Option Nat), lowf c n o = match sp_find c 0 n with
    | none => o
    | some x => some x := by
  intro n
  induction n with
  | zero => intro o; rfl
  | succ n ih =>
    intro o
    show lowf c n (cond (c n) (some n) o) = _
    rw [ih, sp_find_last, Nat.zero_add]
    cases sp_find c 0 n with
    | none => cases c n <;> rfl
    | some x => rfl
section
variable {h g : mb_AH} {w v : Nat → Int32} {B K T D U n o : Nat}
theorem ws_ok.cg (a : ws_ok w B K T h) (e20 : g.1 20 = h.1 20) (e24 : g.1 24 = h.1 24) (e25 : g.1 25 = h.1 25) : ws_ok w B K T g := by
  unfold ws_ok at a ⊢
  rw [e20, e24, e25]
  exact a
theorem vb_at {i k : Nat} (hw : mb_W w B K T D U) (op : Nat → Bool) (hi : i < w_many w K) (hk : k ≤ 20) (e : rkk (mvk w K) k = i) : k ≤ nth (mvk w K) 20 i ∧ (∀ x, k ≤ x → x < nth (mvk w K) 20 i → mvk w K x = false) ∧ vb (wis w B K T) (20 - k) k op = vb (wis w B K T) (20 - nth (mvk w K) 20 i) (nth (mvk w K) 20 i) op := by
  obtain ⟨x1, x2, x3⟩ := nth_spec (show i < rkk (mvk w K) 20 from hi)
  have h1 : k ≤ nth (mvk w K) 20 i := Classical.byContradiction fun z => by
    have := rkk_lt (show nth (mvk w K) 20 i < k by omega) x2
    omega
  have h2 := rkk_gap (show rkk (mvk w K) k = rkk (mvk w K) (nth (mvk w K) 20 i) by rw [e, x3])
  exact ⟨h1, h2, vb_skips h1 (by omega) (fun x a b => wis_f (h2 x a b))⟩
theorem vb_end {k : Nat} (op : Nat → Bool) (hk : k ≤ 20) (e : rkk (mvk w K) k = w_many w K) : vb (wis w B K T) (20 - k) k op = 0 := by
  have h2 := rkk_gap e
  rw [vb_skips hk (Nat.le_refl 20) (fun x a b => wis_f (h2 x a b))]
  rfl
theorem m6_l89 (hw : mb_W w B K T D U) (K2 : Int32 → Int32 → Int32 → mb_AH → Option mb_RS) (K9 : Int32 → Int32 → Int32 → Int32 → mb_AH → Option mb_RS) {i t : Nat} (hi : i ≤ w_many w K) (ht : t < 2 ^ w_pl w B K) (v5 : Int32) (h : mb_AH) : B_X6_lays_89 K2 K9 (nI (w_many w K)) (nI (w_pl w B K)) (nI i) (nI t) v5 h = K9 (nI (w_many w K)) (nI (w_pl w B K)) (nI i) (nI (t + 1)) (mb_sI h 26 0 0 (i * 2 ^ w_pl w B K + t) v5) := by
  have h16 := w_fit16 hw
  have hid := idx_lt hi ht (w_room hw)
  unfold B_X6_lays_89
  rw [px_shl (show w_pl w B K < 32 by omega) (by omega), nI_add, px_gB hid (by decide), nI_clamp (by omega)]
  simp only [px_cI, px_cIx, px_cV, px_cVx, px_cL, px_cLx, px_cR0, px_cR1, px_cRx, px_lI, px_lL, px_up, px_gZ0, px_gZ1, px_gZb, px_g0, px_g1, px_g2, px_g3, px_g4, px_g5, px_g6, px_g7, px_g8, px_g9, px_g10, px_g11, px_g12, px_g13, px_g14, px_c0, px_c1, px_c2, px_c3, px_c4, px_c5, px_c6, px_c7, px_c8, px_c9, px_c10, px_c11, px_c12, px_c13, px_c14, nI_1]
theorem m6_l44 (hw : mb_W w B K T D U) (K2 : Int32 → Int32 → Int32 → mb_AH → Option mb_RS) (K9 : Int32 → Int32 → Int32 → Int32 → mb_AH → Option mb_RS) {i t : Nat} (hi : i < w_many w K) (ht : t < 2 ^ w_pl w B K) (ws : ws_ok w B K T h) (lb : lb_ok w B K T h (i + 1)) : ∀ (m j f c : Nat), j + m = w_pl w B K → m < f → c ≤ 20 → B_X6_lays_44 K2 K9 f (nI (w_many w K)) (nI (w_pl w B K)) (nI i) (nI t) (nI c) (nI j) h = B_X6_lays_89 K2 K9 (nI (w_many w K)) (nI (w_pl w B K)) (nI i) (nI t) (nI (max c (mxf (its (wis w B K T) (shb w B K) (sp_fit w T) (nth (mvk w K) 20 i) t) j m))) h := by
  have h16 := w_fit16 hw
  intro m
  induction m with
  | zero =>
    intro j f c hj hf hc
    obtain ⟨f, rfl⟩ : ∃ g, f = g + 1 := ⟨f - 1, by omega⟩
    rw [B_X6_lays_44, if_pos (nI_le (by omega) (by omega))]
    show _ = B_X6_lays_89 K2 K9 _ _ _ _ (nI (max c 0)) h
    rw [Nat.max_zero]
  | succ m ih =>
    intro j f c hj hf hc
    obtain ⟨f, rfl⟩ : ∃ g, f = g + 1 := ⟨f - 1, by omega⟩
    have hle := its_le (wis w B K T) (shb w B K) (sp_fit w T) (nth (mvk w K) 20 i) t j
    rw [B_X6_lays_44, if_neg (nI_ge (show j < w_pl w B K by omega) (by omega)), if_neg (nI_ge hi (by omega)), m6_withShelter hw ws hi (show j < w_pl w B K by omega) ht lb]
    simp only [px_cI, px_cIx, px_cV, px_cVx, px_cL, px_cLx, px_cR0, px_cR1, px_cRx, px_lI, px_lL, px_up, px_gZ0, px_gZ1, px_gZb, px_g0, px_g1, px_g2, px_g3, px_g4, px_g5, px_g6, px_g7, px_g8, px_g9, px_g10, px_g11, px_g12, px_g13, px_g14, px_c0, px_c1, px_c2, px_c3, px_c4, px_c5, px_c6, px_c7, px_c8, px_c9, px_c10, px_c11, px_c12, px_c13, px_c14, nI_1]
    rw [mxf]
    by_cases q : its (wis w B K T) (shb w B K) (sp_fit w T) (nth (mvk w K) 20 i) t j ≤ c
    · rw [if_pos (nI_le q (by omega)), ih (j + 1) f c (by omega) (by omega) hc]
      rw [show max c (max (its (wis w B K T) (shb w B K) (sp_fit w T) (nth (mvk w K) 20 i) t j) (mxf (its (wis w B K T) (shb w B K) (sp_fit w T) (nth (mvk w K) 20 i) t) (j + 1) m)) = max c (mxf (its (wis w B K T) (shb w B K) (sp_fit w T) (nth (mvk w K) 20 i) t) (j + 1) m) by omega]
    · rw [if_neg (nI_ge (by omega) (by omega)), ih (j + 1) f _ (by omega) (by omega) hle]
      rw [show max c (max (its (wis w B K T) (shb w B K) (sp_fit w T) (nth (mvk w K) 20 i) t j) (mxf (its (wis w B K T) (shb w B K) (sp_fit w T) (nth (mvk w K) 20 i) t) (j + 1) m)) = max (its (wis w B K T) (shb w B K) (sp_fit w T) (nth (mvk w K) 20 i) t j) (mxf (its (wis w B K T) (shb w B K) (sp_fit w T) (nth (mvk w K) 20 i) t) (j + 1) m) by omega]
theorem lb_ok.wr9 (lb : lb_ok w B K T h (n + 1)) {t : Nat} (ht : t < 2 ^ w_pl w B K) (x : Int32) : lb_ok w B K T (mb_sI h 26 0 0 (n * 2 ^ w_pl w B K + t) x) (n + 1) := by
  intro i h1 h2 t2 ht2 k hk e
  rw [mb_sI_j _ _ _ _ _ _ (fun z => idx_ne (show n < i by omega) ht z.symm)]
  exact lb i h1 h2 t2 ht2 k hk e
theorem m6_l9 (hw : mb_W w B K T D U) (K2 : Int32 → Int32 → Int32 → mb_AH → Option mb_RS) {i : Nat} (hi : i ≤ w_many w K) : ∀ (m t f : Nat) (h : mb_AH), t + m = 2 ^ w_pl w B K → m < f → ws_ok w B K T h → lb_ok w B K T h (i + 1) → (∀ t2, t2 < t → ∀ k, k ≤ 20 → rkk (mvk w K) k = i → h.1 26 0 0 (i * 2 ^ w_pl w B K + t2) = nI (vb (wis w B K T) (20 - k) k (opt (shb w B K) t2))) →
    ∃ g, B_X6_lays_9 K2 f (nI (w_many w K)) (nI (w_pl w B K)) (nI i) (nI t) h = K2 (nI (w_many w K)) (nI (w_pl w B K)) (nI i - 1) g ∧ (∀ k, k ≠ 26 → g.1 k = h.1 k) ∧ g.2 = h.2 ∧ lb_ok w B K T g i := by
  have h16 := w_fit16 hw
  have hpw := pw_le (show w_pl w B K ≤ 16 by omega)
  have hone : (1 : Int32) <<< (nI (w_pl w B K) &&& 31) = nI (2 ^ w_pl w B K) := by
    rw [show (1 : Int32) = nI 1 from rfl, px_shl (by omega) (by omega), Nat.one_mul]
  intro m
  induction m with
  | zero =>
    intro t f h ht hf ws lb hc
    obtain ⟨f, rfl⟩ : ∃ g, f = g + 1 := ⟨f - 1, by omega⟩
    refine ⟨h, ?_, fun _ _ => rfl, rfl, fun i2 h1 h2 t2 ht2 k hk e => ?_⟩
    · rw [B_X6_lays_9, hone, if_pos (nI_le (by omega) (by omega)), px_m1]
      simp only [px_cI, px_cIx, px_cV, px_cVx, px_cL, px_cLx, px_cR0, px_cR1, px_cRx, px_lI, px_lL, px_up, px_gZ0, px_gZ1, px_gZb, px_g0, px_g1, px_g2, px_g3, px_g4, px_g5, px_g6, px_g7, px_g8, px_g9, px_g10, px_g11, px_g12, px_g13, px_g14, px_c0, px_c1, px_c2, px_c3, px_c4, px_c5, px_c6, px_c7, px_c8, px_c9, px_c10, px_c11, px_c12, px_c13, px_c14]
    · by_cases q : i2 = i
      · subst q; exact hc t2 (by omega) k hk e
      · exact lb i2 (by omega) h2 t2 ht2 k hk e
  | succ m ih =>
    intro t f h ht hf ws lb hc
    obtain ⟨f, rfl⟩ : ∃ g, f = g + 1 := ⟨f - 1, by omega⟩
    have htP : t < 2 ^ w_pl w B K := by omega
    have goal : ∀ V : Nat, (∀ k, k ≤ 20 → rkk (mvk w K) k = i → V = vb (wis w B K T) (20 - k) k (opt (shb w B K) t)) → ∃ g, B_X6_lays_9 K2 f (nI (w_many w K)) (nI (w_pl w B K)) (nI i) (nI (t + 1)) (mb_sI h 26 0 0 (i * 2 ^ w_pl w B K + t) (nI V)) = K2 (nI (w_many w K)) (nI (w_pl w B K)) (nI i - 1) g ∧ (∀ k, k ≠ 26 → g.1 k = h.1 k) ∧ g.2 = h.2 ∧ lb_ok w B K T g i := fun V hV => by
      obtain ⟨g, e1, e2, e3, e4⟩ := ih (t + 1) f (mb_sI h 26 0 0 (i * 2 ^ w_pl w B K + t) (nI V)) (by omega) (by omega) (ws.cg (mb_sI_o _ _ _ _ _ _ (by decide)) (mb_sI_o _ _ _ _ _ _ (by decide)) (mb_sI_o _ _ _ _ _ _ (by decide))) (lb_ok.wr9 lb htP _) (fun t2 ht2 k hk e => by
        by_cases q : t2 = t
        · subst q; rw [mb_sI_s, hV k hk e]
        · rw [mb_sI_j _ _ _ _ _ _ (by omega)]; exact hc t2 (by omega) k hk e)
      exact ⟨g, e1, fun k hk => by rw [e2 k hk, mb_sI_o _ _ _ _ _ _ hk], e3, e4⟩
    rw [B_X6_lays_9, hone, if_neg (nI_ge htP (by omega))]
    by_cases q : i = w_many w K
    · rw [if_pos (by rw [q])]
      obtain ⟨g, e1, e2⟩ := goal 0 (fun k hk e => (vb_end _ hk (by rw [e, q])).symm)
      refine ⟨g, ?_, e2⟩
      have h44 : B_X6_lays_44 K2 (B_X6_lays_9 K2 f) mb_fu (nI (w_many w K)) (nI (w_pl w B K)) (nI i) (nI t) 0 0 h = B_X6_lays_89 K2 (B_X6_lays_9 K2 f) (nI (w_many w K)) (nI (w_pl w B K)) (nI i) (nI t) 0 h := by
        show B_X6_lays_44 K2 (B_X6_lays_9 K2 f) (69999 + 1) _ _ _ _ _ _ _ = _
        rw [B_X6_lays_44]
        by_cases z : nI (w_pl w B K) ≤ 0
        · rw [if_pos z]
        · rw [if_neg z, if_pos (nI_le (by omega) (by omega))]
      rw [h44, m6_l89 hw K2 _ hi htP]
      exact e1
    · have hi2 : i < w_many w K := by omega
      obtain ⟨x1, x2, x3⟩ := nth_spec (show i < rkk (mvk w K) 20 from hi2)
      have hid := idx_lt (show i + 1 ≤ w_many w K by omega) htP (w_room hw)
      rw [if_neg (px_ne (by omega) (by omega) q), nI_1, px_shl (show w_pl w B K < 32 by omega) (by omega), nI_add, px_gB hid (by decide), nI_clamp (by omega), lb (i + 1) (Nat.le_refl _) (by omega) t htP (nth (mvk w K) 20 i + 1) (by omega) (by rw [rkk_t x2, x3])]
      simp only [px_cI, px_cIx, px_cV, px_cVx, px_cL, px_cLx, px_cR0, px_cR1, px_cRx, px_lI, px_lL, px_up, px_gZ0, px_gZ1, px_gZb, px_g0, px_g1, px_g2, px_g3, px_g4, px_g5, px_g6, px_g7, px_g8, px_g9, px_g10, px_g11, px_g12, px_g13, px_g14, px_c0, px_c1, px_c2, px_c3, px_c4, px_c5, px_c6, px_c7, px_c8, px_c9, px_c10, px_c11, px_c12, px_c13, px_c14]
      have hv := vb_le (wis w B K T) (20 - (nth (mvk w K) 20 i + 1)) (nth (mvk w K) 20 i + 1) (opt (shb w B K) t)
      have h44 : B_X6_lays_44 K2 (B_X6_lays_9 K2 f) mb_fu (nI (w_many w K)) (nI (w_pl w B K)) (nI i) (nI t) (nI (vb (wis w B K T) (20 - (nth (mvk w K) 20 i + 1)) (nth (mvk w K) 20 i + 1) (opt (shb w B K) t))) 0 h = _ := m6_l44 hw K2 (B_X6_lays_9 K2 f) hi2 htP ws lb (w_pl w B K) 0 mb_fu _ (by omega) (by unfold mb_fu; omega) (by omega)
      rw [h44, m6_l89 hw K2 _ hi htP, show 20 - (nth (mvk w K) 20 i + 1) = 19 - nth (mvk w K) 20 i by omega, its_max hw x2]
      exact goal _ (fun k hk e => (vb_at hw _ hi2 hk e).2.2.symm)
theorem m6_l2 (hw : mb_W w B K T D U) : ∀ (n f : Nat) (h : mb_AH), n ≤ w_many w K + 1 → n < f → ws_ok w B K T h → lb_ok w B K T h n → ∃ g, B_X6_lays_2 f (nI (w_many w K)) (nI (w_pl w B K)) (nI n - 1) h = mb_rV g ∧ (∀ k, k ≠ 26 → g.1 k = h.1 k) ∧ g.2 = h.2 ∧ lb_ok w B K T g 0 := by
  have h16 := w_fit16 hw
  have hpw := pw_le (show w_pl w B K ≤ 16 by omega)
  intro n
  induction n with
  | zero =>
    intro f h _ hf ws lb
    obtain ⟨f, rfl⟩ : ∃ g, f = g + 1 := ⟨f - 1, by omega⟩
    refine ⟨h, ?_, fun _ _ => rfl, rfl, lb⟩
    rw [B_X6_lays_2, if_pos (by decide)]
  | succ n ih =>
    intro f h hn hf ws lb
    obtain ⟨f, rfl⟩ : ∃ g, f = g + 1 := ⟨f - 1, by omega⟩
    have e9 := m6_l9 hw (B_X6_lays_2 f) (show n ≤ w_many w K by omega) (2 ^ w_pl w B K) 0 mb_fu h (by omega) (by unfold mb_fu; omega) ws lb (fun t2 h2 => absurd h2 (Nat.not_lt_zero t2))
    obtain ⟨g, e1, e2, e3, e4⟩ := e9
    obtain ⟨g2, p1, p2, p3, p4⟩ := ih f g (by omega) (by omega) (ws.cg (e2 20 (by decide)) (e2 24 (by decide)) (e2 25 (by decide))) e4
    refine ⟨g2, ?_, fun k hk => by rw [p2 k hk, e2 k hk], p3.trans e3, p4⟩
    have e1 : B_X6_lays_9 (B_X6_lays_2 f) mb_fu (nI (w_many w K)) (nI (w_pl w B K)) (nI n) 0 h = _ := e1
    rw [B_X6_lays_2, nI_pred, if_neg (show ¬ nI n < 0 from Int32.not_lt.mpr (nI_pos' (by omega))), e1]
    exact p1
theorem m6_lays (hw : mb_W w B K T D U) (ws : ws_ok w B K T h) : ∃ g, F_X6_lays (nI (w_many w K)) (nI (w_pl w B K)) h = mb_rV g ∧ (∀ k, k ≠ 26 → g.1 k = h.1 k) ∧ g.2 = h.2 ∧ lb_ok w B K T g 0 := by
  have h16 := w_fit16 hw
  obtain ⟨g, e1, e2⟩ := m6_l2 hw (w_many w K + 1) mb_fu h (Nat.le_refl _) (by unfold mb_fu; omega) ws (fun i h1 h2 => by omega)
  rw [nI_pred] at e1
  exact ⟨g, e1, e2⟩
/-! the rows on the way -/
def wh (w : Nat → Int32) : Nat → Nat → Int32
  | 0 => w
  | n + 1 => cond (mvr w n) (wb (wh w n) n 7 (bo w n 4)) (wh w n)
theorem wh_lo (w : Nat → Int32) : ∀ (n i : Nat), i < 90 → wh w n i = w i := by
  intro n
  induction n with
  | zero => intro i _; rfl
  | succ n ih =>
    intro i hi
    rw [wh]
    cases mvr w n with
    | false => exact ih i hi
    | true =>
      show wb (wh w n) n 7 (bo w n 4) i = _
      rw [wb_lo _ _ _ _ hi]
      exact ih i hi
theorem wh_bo (w : Nat → Int32) : ∀ (n k j : Nat), j < 9 → bo (wh w n) k j = if (k < n ∧ mvr w k = true) ∧ j = 7 then bo w k 4 else bo w k j := by
  intro n
  induction n with
  | zero => intro k j hj; rw [if_neg (by omega)]; rfl
  | succ n ih =>
    intro k j hj
    rw [wh]
    cases hm : mvr w n with
    | false =>
      show bo (wh w n) k j = _
      rw [ih k j hj]
      by_cases q : k = n
      · subst q
        rw [if_neg (show ¬ ((k < k ∧ mvr w k = true) ∧ j = 7) by omega), if_neg (show ¬ ((k < k + 1 ∧ mvr w k = true) ∧ j = 7) by rw [hm]; simp)]
      · by_cases q2 : (k < n ∧ mvr w k = true) ∧ j = 7
        · rw [if_pos q2, if_pos (show (k < n + 1 ∧ mvr w k = true) ∧ j = 7 from ⟨⟨by omega, q2.1.2⟩, q2.2⟩)]
        · rw [if_neg q2, if_neg (fun z => q2 ⟨⟨by omega, z.1.2⟩, z.2⟩)]
    | true =>
      show bo (wb (wh w n) n 7 (bo w n 4)) k j = _
      rw [wb_bo _ _ _ _ (by decide) hj, ih k j hj]
      by_cases q : k = n
      · subst q
        by_cases q2 : j = 7
        · rw [if_pos ⟨rfl, q2⟩, if_pos (show (k < k + 1 ∧ mvr w k = true) ∧ j = 7 from ⟨⟨by omega, hm⟩, q2⟩)]
        · rw [if_neg (fun z => q2 z.2), if_neg (fun z => q2 z.2), if_neg (fun z => q2 z.2)]
      · rw [if_neg (fun z => q z.1)]
        by_cases q2 : (k < n ∧ mvr w k = true) ∧ j = 7
        · rw [if_pos q2, if_pos (show (k < n + 1 ∧ mvr w k = true) ∧ j = 7 from ⟨⟨by omega, q2.1.2⟩, q2.2⟩)]
        · rw [if_neg q2, if_neg (fun z => q2 ⟨⟨by omega, z.1.2⟩, z.2⟩)]
def wz (w : Nat → Int32) (K : Nat) (wi : Nat → Nat → Bool) : Nat → Nat → Int32
  | 0 => wh w K
  | n + 1 => cond (mvk w K n) (wb (wb (wb (wz w K wi n) n 3 (if (asg wi n).isNone = true then 3 else 1)) n 4 (mb_oi (asg wi n))) n 5 0) (wz w K wi n)
theorem wz_lo (w : Nat → Int32) (K : Nat) (wi : Nat → Nat → Bool) : ∀ (n i : Nat), i < 90 → wz w K wi n i = w i := by
  intro n
  induction n with
  | zero => intro i hi; exact wh_lo w K i hi
  | succ n ih =>
    intro i hi
    rw [wz]
    cases mvk w K n with
    | false => exact ih i hi
    | true =>
      show wb (wb (wb (wz w K wi n) n 3 _) n 4 _) n 5 0 i = _
      rw [wb_lo _ _ _ _ hi, wb_lo _ _ _ _ hi, wb_lo _ _ _ _ hi]
      exact ih i hi
theorem wz_bo (w : Nat → Int32) (K : Nat) (wi : Nat → Nat → Bool) : ∀ (n k j : Nat), j < 9 → bo (wz w K wi n) k j = if k < n ∧ mvk w K k = true then (if j = 5 then 0 else if j = 4 then mb_oi (asg wi k) else if j = 3 then (if (asg wi k).isNone = true then 3 else 1) else bo (wh w K) k j) else bo (wh w K) k j := by
  intro n
  induction n with
  | zero => intro k j hj; rw [if_neg (by omega)]; rfl
  | succ n ih =>
    intro k j hj
    rw [wz]
    cases hm : mvk w K n with
    | false =>
      show bo (wz w K wi n) k j = _
      rw [ih k j hj]
      by_cases q : k = n
      · subst q
        rw [if_neg (show ¬ (k < k ∧ mvk w K k = true) by omega), if_neg (show ¬ (k < k + 1 ∧ mvk w K k = true) by rw [hm]; simp)]
      · by_cases q2 : k < n ∧ mvk w K k = true
        · rw [if_pos q2, if_pos (show k < n + 1 ∧ mvk w K k = true from ⟨by omega, q2.2⟩)]
        · rw [if_neg q2, if_neg (fun z => q2 ⟨by omega, z.2⟩)]
    | true =>
      show bo (wb (wb (wb (wz w K wi n) n 3 (if (asg wi n).isNone = true then 3 else 1)) n 4 (mb_oi (asg wi n))) n 5 0) k j = _
      rw [wb_bo _ _ _ _ (by decide) hj, wb_bo _ _ _ _ (by decide) hj, wb_bo _ _ _ _ (by decide) hj, ih k j hj]
      by_cases q : k = n
      · subst q
        rw [if_neg (show ¬ (k < k ∧ mvk w K k = true) by omega), if_pos (show k < k + 1 ∧ mvk w K k = true from ⟨by omega, hm⟩)]
        by_cases j5 : j = 5
        · rw [if_pos ⟨rfl, j5⟩, if_pos j5]
        · rw [if_neg (fun z => j5 z.2), if_neg j5]
          by_cases j4 : j = 4
          · rw [if_pos ⟨rfl, j4⟩, if_pos j4]
          · rw [if_neg (fun z => j4 z.2), if_neg j4]
            by_cases j3 : j = 3
            · rw [if_pos ⟨rfl, j3⟩, if_pos j3]
            · rw [if_neg (fun z => j3 z.2), if_neg j3]
      · rw [if_neg (fun z => q z.1), if_neg (fun z => q z.1), if_neg (fun z => q z.1)]
        by_cases q2 : k < n ∧ mvk w K k = true
        · rw [if_pos q2, if_pos (show k < n + 1 ∧ mvk w K k = true from ⟨by omega, q2.2⟩)]
        · rw [if_neg q2, if_neg (fun z => q2 ⟨by omega, z.2⟩)]
theorem wz_skip {wi : Nat → Nat → Bool} {a b : Nat} (hab : a ≤ b) (h : ∀ x, a ≤ x → x < b → mvk w K x = false) : wz w K wi b = wz w K wi a := by
  obtain ⟨d, rfl⟩ : ∃ d, b = a + d := ⟨b - a, by omega⟩
  induction d with
  | zero => rfl
  | succ d ih =>
    rw [← ih (by omega) (fun x h1 h2 => h x h1 (by omega))]
    show cond (mvk w K (a + d)) _ (wz w K wi (a + d)) = _
    rw [h (a + d) (by omega) (by omega)]
    rfl
theorem wz_end (hw : mb_W w B K T D U) : wr (wz w K (wis w B K T) 20) 5 1 = winw w B K T := by
  have hK := hw.K20
  refine row_ext (fun i hi => ?_) (fun k j hj => ?_)
  · rw [win_lo w B K T hi]
    by_cases q : i = 5
    · subst q; rw [wr_s, if_pos rfl]
    · rw [wr_o _ _ _ q, if_neg q, wz_lo _ _ _ _ _ hi]
  · rw [win_bo w B K T hj]
    have e : bo (wr (wz w K (wis w B K T) 20) 5 1) k j = bo (wz w K (wis w B K T) 20) k j := wr_o _ _ _ (by omega)
    rw [e, wz_bo w K _ 20 k j hj, wh_bo w K k j hj]
    by_cases q : k < K ∧ mvr w k = true
    · obtain ⟨b, b1, b2, b3, b4⟩ := mvr_in hw q.1 q.2
      have h5 : bo w k 5 = 0 := (hw.boat q.1).2.2.1.2 (by rw [b2]; decide)
      rw [if_pos (show k < 20 ∧ mvk w K k = true from ⟨by omega, mvk_t.mpr q⟩), if_pos q]
      by_cases j5 : j = 5
      · subst j5
        rw [if_pos rfl, if_neg (by decide), if_neg (by decide), if_neg (by decide), h5]
      · rw [if_neg j5]
        by_cases j4 : j = 4
        · subst j4
          rw [if_pos rfl, if_neg (by decide), if_pos rfl]
        · rw [if_neg j4]
          by_cases j3 : j = 3
          · subst j3
            rw [if_pos rfl, if_pos rfl]
          · rw [if_neg j3, if_neg j3, if_neg j4]
            by_cases j7 : j = 7
            · rw [if_pos ⟨q, j7⟩, if_pos j7]
            · rw [if_neg (fun z => j7 z.2), if_neg j7]
    · rw [if_neg (fun z => q (mvk_t.mp z.2)), if_neg q, if_neg (fun z => q z.1)]
theorem wz_W0 (hw : mb_W w B K T D U) (wi : Nat → Nat → Bool) (n : Nat) : mb_W0 (wz w K wi n) B K T := by
  have := hw.z
  unfold mb_W0 at this ⊢
  rw [wz_lo _ _ _ _ _ (show 6 < 90 by decide), wz_lo _ _ _ _ _ (show 7 < 90 by decide), wz_lo _ _ _ _ _ (show 8 < 90 by decide)]
  exact this
theorem wz_fit (hw : mb_W w B K T D U) (wi : Nat → Nat → Bool) (n x b : Nat) (hb : b < 16) : sp_fit (wz w K wi n) T x b = sp_fit w T x b := by
  have hT := hw.T14; have hT1 := hw.T1
  have e : ∀ i, i < 90 → wz w K wi n i = w i := fun i hi => wz_lo _ _ _ _ _ hi
  have et : ∀ j, j < 4 → bt (wz w K wi n) b j = bt w b j := fun j hj => e _ (by omega)
  have eo : ∀ j, j = 0 ∨ j = 1 → bo (wz w K wi n) x j = bo w x j := fun j hj => by
    rw [wz_bo w K wi n x j (by omega), wh_bo w K x j (by omega), if_neg (show ¬ ((x < K ∧ mvr w x = true) ∧ j = 7) by omega)]
    by_cases q : x < n ∧ mvk w K x = true
    · rw [if_pos q, if_neg (by omega), if_neg (by omega), if_neg (by omega)]
    · rw [if_neg q]
  unfold sp_fit
  rw [eo 0 (Or.inl rfl), eo 1 (Or.inr rfl), et 1 (by decide), et 0 (by decide), e 0 (by decide), sp_low_cg2 (fun j h1 h2 => e j (by omega)) (T - 1) (by omega)]
end
