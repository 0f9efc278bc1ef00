/-! ===== pure: places in the waiting list, offer ===== -/
theorem sp_cnt_mono {P Q : Nat → Bool} : ∀ {m j : Nat}, (∀ k, j ≤ k → k < j + m → P k = true → Q k = true) → sp_cnt P j m ≤ sp_cnt Q j m := by
  intro m
  induction m with
  | zero => intro j _; exact Nat.le_refl _
  | succ m ih =>
    intro j h
    have h1 := ih (j := j + 1) (fun k a b => h k (by omega) (by omega))
    have h2 := h j (Nat.le_refl _) (by omega)
    show (cond (P j) 1 0) + sp_cnt P (j + 1) m ≤ (cond (Q j) 1 0) + sp_cnt Q (j + 1) m
    cases hp : P j with
    | false => simp only [cond_false]; omega
    | true => rw [h2 hp]; simp only [cond_true]; omega
theorem sp_cnt_lt {P Q : Nat → Bool} {x : Nat} (px : P x = false) (qx : Q x = true) : ∀ {m j : Nat}, (∀ k, j ≤ k → k < j + m → P k = true → Q k = true) → j ≤ x → x < j + m → sp_cnt P j m < sp_cnt Q j m := by
  intro m
  induction m with
  | zero => intro j _ h1 h2; omega
  | succ m ih =>
    intro j h h1 h2
    show (cond (P j) 1 0) + sp_cnt P (j + 1) m < (cond (Q j) 1 0) + sp_cnt Q (j + 1) m
    by_cases q : x = j
    · subst q
      have h3 := sp_cnt_mono (m := m) (j := x + 1) (P := P) (Q := Q) (fun k a b => h k (by omega) (by omega))
      rw [px, qx]
      simp only [cond_true, cond_false]
      omega
    · have h3 := ih (j := j + 1) (fun k a b => h k (by omega) (by omega)) (by omega) (by omega)
      have h4 := h j (Nat.le_refl _) (by omega)
      cases hp : P j with
      | false => simp only [cond_false]; omega
      | true => rw [h4 hp]; simp only [cond_true]; omega
theorem sp_cnt_one {P Q : Nat → Bool} : ∀ {m j : Nat}, (∀ a b, j ≤ a → a < j + m → j ≤ b → b < j + m → Q a = true → P a = false → Q b = true → P b = false → a = b) → sp_cnt Q j m ≤ sp_cnt P j m + 1 := by
  intro m
  induction m with
  | zero => intro j _; exact Nat.zero_le _
  | succ m ih =>
    intro j h
    show (cond (Q j) 1 0) + sp_cnt Q (j + 1) m ≤ (cond (P j) 1 0) + sp_cnt P (j + 1) m + 1
    have h1 := ih (j := j + 1) (fun a b x1 x2 y1 y2 => h a b (by omega) (by omega) (by omega) (by omega))
    cases hq : Q j with
    | false => simp only [cond_false]; omega
    | true =>
      cases hp : P j with
      | true => simp only [cond_true]; omega
      | false =>
        have h2 := sp_cnt_mono (m := m) (j := j + 1) (P := Q) (Q := P) (fun k a b hk => by
          cases hz : P k with
          | true => rfl
          | false =>
            have := h j k (Nat.le_refl _) (by omega) (by omega) (by omega) hq hp hk hz
            omega)
        simp only [cond_true, cond_false]
        omega
theorem sp_bst_spec {ok : Nat → Bool} {lt : Nat → Nat → Bool} {K : Nat} (tr : ∀ a b c, a < K → b < K → c < K → ok a = true → ok b = true → ok c = true → lt a b = true → lt b c = true → lt a c = true) (tot : ∀ a b, a < K → b < K → ok a = true → ok b = true → a ≠ b → lt a b = true ∨ lt b a = true) :
    ∀ (m j : Nat) (o : Option Nat), j + m = K → (o = none → ∀ i, i < j → ok i = false) → (∀ x, o = some x → x < j ∧ ok x = true ∧ ∀ i, i < j → ok i = true → i ≠ x → lt x i = true) →
      (sp_bst ok lt o j m = none → ∀ i, i < K → ok i = false) ∧ (∀ x, sp_bst ok lt o j m = some x → x < K ∧ ok x = true ∧ ∀ i, i < K → ok i = true → i ≠ x → lt x i = true) := by
  intro m
  induction m with
  | zero =>
    intro j o hj h1 h2
    have : j = K := by omega
    subst this
    exact ⟨h1, h2⟩
  | succ m ih =>
    intro j o hj h1 h2
    rw [sp_bst_s]
    refine ih (j + 1) _ (by omega) ?_ ?_
    · intro e i hi
      cases hc : (ok j && sp_win lt o j) with
      | true => rw [hc] at e; cases e
      | false =>
        rw [hc] at e
        have e : o = none := e
        subst e
        by_cases q : i = j
        · subst q
          cases ho : ok i with
          | false => rfl
          | true => rw [ho] at hc; cases hc
        · exact h1 rfl i (by omega)
    · intro x e
      cases hc : (ok j && sp_win lt o j) with
      | true =>
        rw [hc] at e
        cases e
        rw [Bool.and_eq_true] at hc
        refine ⟨by omega, hc.1, fun i hi hoi hne => ?_⟩
        cases o with
        | none => rw [h1 rfl i (by omega)] at hoi; cases hoi
        | some y =>
          obtain ⟨y1, y2, y3⟩ := h2 y rfl
          have hw : lt j y = true := hc.2
          by_cases q : i = y
          · subst q; exact hw
          · exact tr j y i (by omega) (by omega) (by omega) hc.1 y2 hoi hw (y3 i (by omega) hoi q)
      | false =>
        rw [hc] at e
        have e : o = some x := e
        subst e
        obtain ⟨y1, y2, y3⟩ := h2 x rfl
        refine ⟨by omega, y2, fun i hi hoi hne => ?_⟩
        by_cases q : i = j
        · subst q
          rcases tot i x (by omega) (by omega) hoi y2 hne with z | z
          · rw [hoi] at hc
            have hc : lt i x = false := hc
            rw [z] at hc; cases hc
          · exact z
        · exact y3 i (by omega) hoi hne
section
variable {h g : mb_AH} {w : Nat → Int32} {B K T D U n o : Nat}
theorem sp_bf_iff (w : Nat → Int32) (k j : Nat) : sp_bf w k j = true ↔ ((sp_pt w j).toInt < (sp_pt w k).toInt ∨ ((sp_pt w k).toInt = (sp_pt w j).toInt ∧ (bo w k 6).toInt < (bo w j 6).toInt)) := by
  unfold sp_bf
  rw [Bool.or_eq_true, Bool.and_eq_true, decide_eq_true_iff, decide_eq_true_iff, decide_eq_true_iff, Int32.lt_iff_toInt_lt, Int32.lt_iff_toInt_lt, ← Int32.toInt_inj]
theorem sp_bf_tr (w : Nat → Int32) (a b c : Nat) (h1 : sp_bf w a b = true) (h2 : sp_bf w b c = true) : sp_bf w a c = true := by
  rw [sp_bf_iff] at h1 h2 ⊢
  omega
theorem sp_bf_tot (hw : mb_W w B K T D U) {a b : Nat} (ha : a < K) (hb : b < K) (wa : bo w a 3 = 2) (wb : bo w b 3 = 2) (hne : a ≠ b) : sp_bf w a b = true ∨ sp_bf w b a = true := by
  rw [sp_bf_iff, sp_bf_iff]
  have h6 : (bo w a 6).toInt ≠ (bo w b 6).toInt := fun e => hne (hw.2.2.2.2.2.2.1 a b ha hb wa wb (Int32.toInt_inj.mp e))
  omega
theorem sp_ah_lt {x y : Nat} (hx : x < K) (wx : bo w x 3 = 2) (hxy : x ≠ y) (hb : sp_bf w x y = true) : sp_ah w K x < sp_ah w K y := by
  unfold sp_ah
  refine sp_cnt_lt (x := x) ?_ ?_ (fun k _ _ hk => ?_) (Nat.zero_le _) (by omega)
  · simp
  · rw [decide_eq_true wx, decide_eq_false hxy, hb]; rfl
  · rw [Bool.and_eq_true, Bool.and_eq_true] at hk ⊢
    refine ⟨⟨hk.1.1, ?_⟩, sp_bf_tr w k x y hk.2 hb⟩
    cases hz : decide (k = y) with
    | false => rfl
    | true =>
      rw [decide_eq_true_iff] at hz
      subst hz
      have h1 := (sp_bf_iff w k x).mp hk.2
      have h2 := (sp_bf_iff w x k).mp hb
      omega
theorem sp_ah_inj (hw : mb_W w B K T D U) {a b : Nat} (ha : a < K) (hb : b < K) (wa : bo w a 3 = 2) (wb : bo w b 3 = 2) (e : sp_ah w K a = sp_ah w K b) : a = b := by
  by_cases q : a = b
  · exact q
  · rcases sp_bf_tot hw ha hb wa wb q with z | z
    · have := sp_ah_lt ha wa q z; omega
    · have := sp_ah_lt hb wb (Ne.symm q) z; omega
theorem sp_ah_st {x : Nat} (hx : x < K) (wx : bo w x 3 = 2) : sp_ah w K x < sp_st w K 2 := by
  unfold sp_ah sp_st
  refine sp_cnt_lt (x := x) ?_ (decide_eq_true wx) (fun k _ _ hk => ?_) (Nat.zero_le _) (by omega)
  · simp
  · rw [Bool.and_eq_true, Bool.and_eq_true] at hk
    exact hk.1.1
def sp_rk (w : Nat → Int32) (K p : Nat) : Nat := sp_cnt (fun k => decide (bo w k 3 = 2) && decide (sp_ah w K k < p)) 0 K
theorem sp_rk_s (hw : mb_W w B K T D U) (p : Nat) : sp_rk w K (p + 1) ≤ sp_rk w K p + 1 := by
  unfold sp_rk
  refine sp_cnt_one (fun a b _ ha _ hb qa pa qb pb => ?_)
  rw [Bool.and_eq_true, decide_eq_true_iff, decide_eq_true_iff] at qa qb
  rw [decide_eq_true qa.1, Bool.true_and, decide_eq_false_iff_not] at pa
  rw [decide_eq_true qb.1, Bool.true_and, decide_eq_false_iff_not] at pb
  exact sp_ah_inj hw (by omega) (by omega) qa.1 qb.1 (by omega)
theorem sp_rk_d (hw : mb_W w B K T D U) (p d : Nat) : sp_rk w K (p + d) ≤ sp_rk w K p + d := by
  induction d with
  | zero => exact Nat.le_refl _
  | succ d ih =>
    have := sp_rk_s hw (p + d)
    rw [show p + (d + 1) = p + d + 1 from rfl]
    omega
theorem sp_rk_0 : sp_rk w K 0 = 0 := by
  unfold sp_rk
  have : ∀ m j, sp_cnt (fun k => decide (bo w k 3 = 2) && decide (sp_ah w K k < 0)) j m = 0 := by
    intro m
    induction m with
    | zero => intro j; rfl
    | succ m ih =>
      intro j
      show (cond _ 1 0) + sp_cnt _ (j + 1) m = 0
      rw [ih]
      simp
  exact this K 0
theorem sp_rk_all : sp_rk w K (sp_st w K 2) = sp_st w K 2 := by
  show sp_cnt _ 0 K = sp_cnt _ 0 K
  refine sp_cnt_congr (fun k _ hk => ?_)
  cases hz : decide (bo w k 3 = 2) with
  | false => rfl
  | true =>
    rw [decide_eq_true_iff] at hz
    have := sp_ah_st (w := w) (K := K) (by omega) hz
    rw [decide_eq_true this]; rfl
theorem sp_at_ex (hw : mb_W w B K T D U) {p : Nat} (hp : p < sp_st w K 2) : ∃ x, x < K ∧ bo w x 3 = 2 ∧ sp_ah w K x = p := by
  refine Classical.byContradiction fun hne => ?_
  have h1 : sp_rk w K (p + 1) ≤ sp_rk w K p := by
    refine sp_cnt_mono (fun k _ hk q => ?_)
    rw [Bool.and_eq_true, decide_eq_true_iff, decide_eq_true_iff] at q
    rw [Bool.and_eq_true, decide_eq_true_iff, decide_eq_true_iff]
    refine ⟨q.1, ?_⟩
    have : sp_ah w K k ≠ p := fun e => hne ⟨k, by omega, q.1, e⟩
    omega
  have h2 := sp_rk_d hw 0 p
  have h3 := sp_rk_d hw (p + 1) (sp_st w K 2 - (p + 1))
  rw [show p + 1 + (sp_st w K 2 - (p + 1)) = sp_st w K 2 by omega, sp_rk_all] at h3
  rw [sp_rk_0, Nat.zero_add] at h2
  omega
theorem sp_wa_spec (hw : mb_W w B K T D U) {p : Nat} (hp : p < sp_st w K 2) : ∃ x, sp_wa w K (nI p) = some x ∧ x < K ∧ bo w x 3 = 2 ∧ sp_ah w K x = p := by
  have hK := hw.K20
  have hst : sp_st w K 2 ≤ K := sp_cnt_le _ _ _
  cases e : sp_wa w K (nI p) with
  | none =>
    obtain ⟨y, hy, wy, ey⟩ := sp_at_ex hw hp
    have := sp_find_none e y (Nat.zero_le _) (by omega)
    rw [decide_eq_true wy, ey, decide_eq_true rfl] at this
    cases this
  | some x =>
    obtain ⟨-, h1, h2⟩ := sp_find_some e
    rw [Bool.and_eq_true, decide_eq_true_iff, decide_eq_true_iff] at h2
    have h3 := sp_ah_st (w := w) (K := K) (x := x) (by omega) h2.1
    exact ⟨x, rfl, by omega, h2.1, (nI_eq (by omega) (by omega)).mp h2.2⟩
/-- the first waiting boat that fits -/
def sp_fw (w : Nat → Int32) (K T b : Nat) : Option Nat := sp_bst (fun k => decide (bo w k 3 = 2) && sp_fit w T k b) (sp_bf w) none 0 K
theorem c2_fw_loop (r : mb_RM h o w B K T) (hw : mb_W w B K T D U) {b : Nat} (hb : b < B) : ∀ (m j f : Nat) (b9 : Option Nat), (∀ i, b9 = some i → i < j ∧ bo w i 3 = 2) → j + m = K → m < f → B_X2_firstWaitingFor_4 f o o b (mb_oi b9) (nI j) h = mb_rI (mb_oi (sp_bst (fun k => decide (bo w k 3 = 2) && sp_fit w T k b) (sp_bf w) b9 j m)) h := by
  have h7 := hw.w7; have hK := hw.K20
  intro m
  induction m with
  | zero =>
    intro j f b9 ho hj hf
    obtain ⟨f, rfl⟩ : ∃ g, f = g + 1 := ⟨f - 1, by omega⟩
    rw [B_X2_firstWaitingFor_4, r.f7, h7, if_pos (nI_le (by omega) (by omega))]
    rfl
  | succ m ih =>
    intro j f b9 ho hj hf
    obtain ⟨f, rfl⟩ : ∃ g, f = g + 1 := ⟨f - 1, by omega⟩
    have hjK : j < K := by omega
    have hskip := ih (j + 1) f b9 (fun i hi => ⟨by have := (ho i hi).1; omega, (ho i hi).2⟩) (by omega) (by omega)
    rw [B_X2_firstWaitingFor_4, r.f7, h7, if_neg (nI_ge (by omega) (by omega)), px_gB (show j < 20 by omega) (by decide), nI_clamp (by omega), (r.q hjK).2.2.2.1, sp_bst_s]
    simp only [px_cI, px_cIx, px_cV, px_cVx, px_cL, px_cLx, px_cR0, px_cR1, px_cRx, px_lI, px_lL, px_up, px_gZ0, px_gZ1, px_gZb, px_g0, px_g1, px_g2, px_g3, px_g4, px_g5, px_g6, px_g7, px_g8, px_g9, px_g10, px_g11, px_g12, px_g13, px_g14, px_c0, px_c1, px_c2, px_c3, px_c4, px_c5, px_c6, px_c7, px_c8, px_c9, px_c10, px_c11, px_c12, px_c13, px_c14, nI_1]
    by_cases q1 : bo w j 3 = 2
    · have htake : B_X2_firstWaitingFor_4 f o o b (nI j) (nI (j + 1)) h = _ := ih (j + 1) f (some j) (fun i hi => by cases hi; exact ⟨by omega, q1⟩) (by omega) (by omega)
      rw [if_pos q1, decide_eq_true q1, px_gB (show j < 20 by omega) (by decide), c2_suits r hjK hb]
      simp only [px_cI, px_cIx, px_cV, px_cVx, px_cL, px_cLx, px_cR0, px_cR1, px_cRx, px_lI, px_lL, px_up, px_gZ0, px_gZ1, px_gZb, px_g0, px_g1, px_g2, px_g3, px_g4, px_g5, px_g6, px_g7, px_g8, px_g9, px_g10, px_g11, px_g12, px_g13, px_g14, px_c0, px_c1, px_c2, px_c3, px_c4, px_c5, px_c6, px_c7, px_c8, px_c9, px_c10, px_c11, px_c12, px_c13, px_c14]
      cases q2 : sp_fit w T j b with
      | false => rw [if_pos (by rfl)]; exact hskip
      | true =>
        rw [if_neg (by decide)]
        cases b9 with
        | none => rw [show mb_oi none = -1 from rfl, if_pos rfl]; exact htake
        | some i =>
          obtain ⟨hi, hi2⟩ := ho i rfl
          rw [show mb_oi (some i) = nI i from rfl, if_neg (fun e => by have := (px_oi (some i) (fun z hz => by cases hz; omega)).mp e; cases this), px_gB (show j < 20 by omega) (by decide), px_gB (show i < 20 by omega) (by decide), nI_clamp (show i < 2 ^ 31 by omega), c2_isAhead r hw hjK (show i < K by omega) q1 hi2]
          simp only [px_cI, px_cIx, px_cV, px_cVx, px_cL, px_cLx, px_cR0, px_cR1, px_cRx, px_lI, px_lL, px_up, px_gZ0, px_gZ1, px_gZb, px_g0, px_g1, px_g2, px_g3, px_g4, px_g5, px_g6, px_g7, px_g8, px_g9, px_g10, px_g11, px_g12, px_g13, px_g14, px_c0, px_c1, px_c2, px_c3, px_c4, px_c5, px_c6, px_c7, px_c8, px_c9, px_c10, px_c11, px_c12, px_c13, px_c14]
          show _ = mb_rI (mb_oi (sp_bst _ _ (cond (sp_bf w j i) (some j) (some i)) (j + 1) m)) h
          cases sp_bf w j i with
          | false => rw [if_pos (by rfl)]; exact hskip
          | true => rw [if_neg (by decide)]; exact htake
    · rw [if_neg q1, decide_eq_false q1]
      exact hskip
theorem c2_firstWaitingFor (r : mb_RM h o w B K T) (hw : mb_W w B K T D U) {b : Nat} (hb : b < B) : F_X2_firstWaitingFor o o b h = mb_rI (mb_oi (sp_fw w K T b)) h := by
  unfold F_X2_firstWaitingFor
  have := hw.K20
  exact c2_fw_loop r hw hb K 0 mb_fu none (fun i hi => by cases hi) (by omega) (by unfold mb_fu; omega)
theorem sp_fw_spec (hw : mb_W w B K T D U) (b : Nat) : (sp_fw w K T b = none → ∀ i, i < K → bo w i 3 = 2 → sp_fit w T i b = false) ∧ (∀ x, sp_fw w K T b = some x → x < K ∧ bo w x 3 = 2 ∧ sp_fit w T x b = true ∧ ∀ i, i < K → bo w i 3 = 2 → sp_fit w T i b = true → i ≠ x → sp_bf w x i = true) := by
  obtain ⟨h1, h2⟩ := sp_bst_spec (ok := fun k => decide (bo w k 3 = 2) && sp_fit w T k b) (lt := sp_bf w) (K := K) (fun a b c _ _ _ _ _ _ p q => sp_bf_tr w a b c p q) (fun x y hx hy ox oy ne => by
    have ox : (decide (bo w x 3 = 2) && sp_fit w T x b) = true := ox
    have oy : (decide (bo w y 3 = 2) && sp_fit w T y b) = true := oy
    rw [Bool.and_eq_true, decide_eq_true_iff] at ox oy
    exact sp_bf_tot hw hx hy ox.1 oy.1 ne) K 0 none (by omega) (fun _ i hi => absurd hi (Nat.not_lt_zero i)) (fun x hx => by cases hx)
  refine ⟨fun e i hi wi => ?_, fun x e => ?_⟩
  · have := h1 e i hi
    have this : (decide (bo w i 3 = 2) && sp_fit w T i b) = false := this
    rw [decide_eq_true wi] at this
    exact this
  · obtain ⟨a1, a2, a3⟩ := h2 x e
    have a2 : (decide (bo w x 3 = 2) && sp_fit w T x b) = true := a2
    rw [Bool.and_eq_true, decide_eq_true_iff] at a2
    refine ⟨a1, a2.1, a2.2, fun i hi wi fi ne => a3 i hi ?_ ne⟩
    show (decide (bo w i 3 = 2) && sp_fit w T i b) = true
    rw [decide_eq_true wi, fi]; rfl
theorem m6_of_step (hw : mb_W (h.1 20 0 0) B K T D U) {b p f : Nat} (hb : b < 16) (hp : p < sp_st (h.1 20 0 0) K 2) : ∃ y, y < K ∧ bo (h.1 20 0 0) y 3 = 2 ∧ sp_ah (h.1 20 0 0) K y = p ∧ B_X6_offer_46 (f + 1) (nI b) (nI (sp_st (h.1 20 0 0) K 2)) (nI p) h = if sp_fit (h.1 20 0 0) T y b = true then mb_cV (F_X6_puts (nI y) 1 (nI b) h) (fun h9 => mb_rI (nI y) h9) else B_X6_offer_46 f (nI b) (nI (sp_st (h.1 20 0 0) K 2)) (nI (p + 1)) h := by
  have hK := hw.K20
  have hst : sp_st (h.1 20 0 0) K 2 ≤ K := sp_cnt_le _ _ _
  obtain ⟨y, e1, e2, e3, e4⟩ := sp_wa_spec hw hp
  refine ⟨y, e2, e3, e4, ?_⟩
  rw [B_X6_offer_46, if_neg (nI_ge hp (by omega)), m6_waitingAt hw.z, e1]
  simp only [px_cI, px_cIx, px_cV, px_cVx, px_cL, px_cLx, px_cR0, px_cR1, px_cRx, px_lI, px_lL, px_up, px_gZ0, px_gZ1, px_gZb, px_g0, px_g1, px_g2, px_g3, px_g4, px_g5, px_g6, px_g7, px_g8, px_g9, px_g10, px_g11, px_g12, px_g13, px_g14, px_c0, px_c1, px_c2, px_c3, px_c4, px_c5, px_c6, px_c7, px_c8, px_c9, px_c10, px_c11, px_c12, px_c13, px_c14]
  rw [show mb_oi (some y) = nI y from rfl, m6_isFit hw.z (show y < 20 by omega) hb]
  simp only [px_cI, px_cIx, px_cV, px_cVx, px_cL, px_cLx, px_cR0, px_cR1, px_cRx, px_lI, px_lL, px_up, px_gZ0, px_gZ1, px_gZb, px_g0, px_g1, px_g2, px_g3, px_g4, px_g5, px_g6, px_g7, px_g8, px_g9, px_g10, px_g11, px_g12, px_g13, px_g14, px_c0, px_c1, px_c2, px_c3, px_c4, px_c5, px_c6, px_c7, px_c8, px_c9, px_c10, px_c11, px_c12, px_c13, px_c14, nI_1]
  cases sp_fit (h.1 20 0 0) T y b with
  | false => rw [if_pos (by rfl), if_neg (by decide)]
  | true => rw [if_neg (by decide), if_pos rfl]
theorem m6_of_none (hw : mb_W (h.1 20 0 0) B K T D U) {b : Nat} (hb : b < 16) (hn : ∀ i, i < K → bo (h.1 20 0 0) i 3 = 2 → sp_fit (h.1 20 0 0) T i b = false) : ∀ (m p f : Nat), p + m = sp_st (h.1 20 0 0) K 2 → m < f → B_X6_offer_46 f (nI b) (nI (sp_st (h.1 20 0 0) K 2)) (nI p) h = mb_rI (-1) h := by
  have hK := hw.K20
  have hst : sp_st (h.1 20 0 0) K 2 ≤ K := sp_cnt_le _ _ _
  intro m
  induction m with
  | zero =>
    intro p f hp hf
    obtain ⟨f, rfl⟩ : ∃ g, f = g + 1 := ⟨f - 1, by omega⟩
    rw [B_X6_offer_46, if_pos (nI_le (by omega) (by omega))]
  | succ m ih =>
    intro p f hp hf
    obtain ⟨f, rfl⟩ : ∃ g, f = g + 1 := ⟨f - 1, by omega⟩
    obtain ⟨y, y1, y2, y3, y4⟩ := m6_of_step (f := f) hw hb (show p < sp_st (h.1 20 0 0) K 2 by omega)
    rw [y4, hn y y1 y2, if_neg (by decide)]
    exact ih (p + 1) f (by omega) (by omega)
theorem m6_of_some (hw : mb_W (h.1 20 0 0) B K T D U) {b x : Nat} (hb : b < 16) (hx : x < K) (wx : bo (h.1 20 0 0) x 3 = 2) (fx : sp_fit (h.1 20 0 0) T x b = true) (hn : ∀ i, i < K → bo (h.1 20 0 0) i 3 = 2 → sp_fit (h.1 20 0 0) T i b = true → i ≠ x → sp_bf (h.1 20 0 0) x i = true) : ∀ (m p f : Nat), p + m = sp_ah (h.1 20 0 0) K x → m < f → B_X6_offer_46 f (nI b) (nI (sp_st (h.1 20 0 0) K 2)) (nI p) h = mb_cV (F_X6_puts (nI x) 1 (nI b) h) (fun h9 => mb_rI (nI x) h9) := by
  have hK := hw.K20
  have hst : sp_st (h.1 20 0 0) K 2 ≤ K := sp_cnt_le _ _ _
  have hax := sp_ah_st hx wx
  intro m
  induction m with
  | zero =>
    intro p f hp hf
    obtain ⟨f, rfl⟩ : ∃ g, f = g + 1 := ⟨f - 1, by omega⟩
    obtain ⟨y, y1, y2, y3, y4⟩ := m6_of_step (f := f) hw hb (show p < sp_st (h.1 20 0 0) K 2 by omega)
    have : y = x := sp_ah_inj hw y1 hx y2 wx (by omega)
    subst this
    rw [y4, fx, if_pos rfl]
  | succ m ih =>
    intro p f hp hf
    obtain ⟨f, rfl⟩ : ∃ g, f = g + 1 := ⟨f - 1, by omega⟩
    obtain ⟨y, y1, y2, y3, y4⟩ := m6_of_step (f := f) hw hb (show p < sp_st (h.1 20 0 0) K 2 by omega)
    have hne : y ≠ x := fun e => by subst e; omega
    have hnf : ¬ sp_fit (h.1 20 0 0) T y b = true := fun e => by
      have := sp_ah_lt (K := K) hx wx (Ne.symm hne) (hn y y1 y2 e hne)
      omega
    rw [y4, if_neg hnf]
    exact ih (p + 1) f (by omega) (by omega)
theorem s_offer (hS : mb_S n h) (x : Int32) : mb_PI ["java/lang/IndexOutOfBoundsException", "java/lang/IllegalStateException"] (F_X5_offer x h) (F_X6_offer x) (mb_S (n + 1)) := by
  obtain ⟨-, -, B, K, T, D, U, hw, r, lD, lU, ⟨p, ep, lp⟩, hH⟩ := id hS
  have hK := hw.K20; have hB := hw.B16
  rcases px_ix x (N := B) (by omega) with q | ⟨b, hb, rfl⟩
  · refine q_thr (j := 0) (b := 0) (E := "java/lang/IndexOutOfBoundsException") hS rfl ?_ ?_
    · unfold F_X5_offer
      rw [c5_checkBerth r hw, q, if_neg (by decide)]; rfl
    · unfold F_X6_offer B_X6_offer_26
      rw [m6_isBerth hw.z, q]
      simp only [px_cI, px_cIx, px_cV, px_cVx, px_cL, px_cLx, px_cR0, px_cR1, px_cRx, px_lI, px_lL, px_up, px_gZ0, px_gZ1, px_gZb, px_g0, px_g1, px_g2, px_g3, px_g4, px_g5, px_g6, px_g7, px_g8, px_g9, px_g10, px_g11, px_g12, px_g13, px_g14, px_c0, px_c1, px_c2, px_c3, px_c4, px_c5, px_c6, px_c7, px_c8, px_c9, px_c10, px_c11, px_c12, px_c13, px_c14]
      rw [if_pos (by rfl), m6_refused1 1 (by decide)]; rfl
  · have h5 : F_X5_offer (nI b) h = if sp_open (h.1 20 0 0) K b = true then mb_cV (F_X5_remember h) (fun h104 => mb_cI (F_X2_firstWaitingFor 0 0 b h104) fun y106 h105 => (if y106 = (-1) then (some (.inl (some (.inl y106)), h105)) else (mb_gB y106 20 (mb_cV (F_X1_moveForGood 0 y106.toNatClampNeg (1 : Int32) (nI b) h105) fun h107 => (some (.inl (some (.inl y106)), h107)))))) else mb_rX "java/lang/IllegalStateException" h := by
      unfold F_X5_offer
      rw [c5_checkBerth r hw, px_ixt hb (by omega), if_pos (by rfl)]
      simp only [px_cI, px_cIx, px_cV, px_cVx, px_cL, px_cLx, px_cR0, px_cR1, px_cRx, px_lI, px_lL, px_up, px_gZ0, px_gZ1, px_gZb, px_g0, px_g1, px_g2, px_g3, px_g4, px_g5, px_g6, px_g7, px_g8, px_g9, px_g10, px_g11, px_g12, px_g13, px_g14, px_c0, px_c1, px_c2, px_c3, px_c4, px_c5, px_c6, px_c7, px_c8, px_c9, px_c10, px_c11, px_c12, px_c13, px_c14]
      rw [c2_isOpen r hw hb]
      simp only [px_cI, px_cIx, px_cV, px_cVx, px_cL, px_cLx, px_cR0, px_cR1, px_cRx, px_lI, px_lL, px_up, px_gZ0, px_gZ1, px_gZb, px_g0, px_g1, px_g2, px_g3, px_g4, px_g5, px_g6, px_g7, px_g8, px_g9, px_g10, px_g11, px_g12, px_g13, px_g14, px_c0, px_c1, px_c2, px_c3, px_c4, px_c5, px_c6, px_c7, px_c8, px_c9, px_c10, px_c11, px_c12, px_c13, px_c14, px_gB (show b < 16 by omega) (show 16 < 2 ^ 31 by decide), nI_clamp (show b < 2 ^ 31 by omega)]
      cases sp_open (h.1 20 0 0) K b <;> rfl
    have h6 : ∀ g : mb_AH, g.1 20 = h.1 20 → F_X6_offer (nI b) g = if sp_open (h.1 20 0 0) K b = true then B_X6_offer_26 (nI b) 0 g else B_X6_offer_26 (nI b) 2 g := by
      intro g hg
      have e : g.1 20 0 0 = h.1 20 0 0 := by rw [hg]
      have hzg : mb_W0 (g.1 20 0 0) B K T := by rw [e]; exact hw.z
      unfold F_X6_offer
      rw [m6_isBerth hzg, px_ixt hb (by omega)]
      simp only [px_cI, px_cIx, px_cV, px_cVx, px_cL, px_cLx, px_cR0, px_cR1, px_cRx, px_lI, px_lL, px_up, px_gZ0, px_gZ1, px_gZb, px_g0, px_g1, px_g2, px_g3, px_g4, px_g5, px_g6, px_g7, px_g8, px_g9, px_g10, px_g11, px_g12, px_g13, px_g14, px_c0, px_c1, px_c2, px_c3, px_c4, px_c5, px_c6, px_c7, px_c8, px_c9, px_c10, px_c11, px_c12, px_c13, px_c14, m6_isOpen hzg (show b < 16 by omega)]
      rw [e]
      cases sp_open (h.1 20 0 0) K b <;> rfl
    by_cases q : sp_open (h.1 20 0 0) K b = true
    · rw [if_pos q] at h5
      obtain ⟨f1, f2⟩ := sp_fw_spec hw b
      have h6b : ∀ g9 g1 : mb_AH, g9.1 20 = h.1 20 → g1.1 20 = h.1 20 → F_X6_saves (mb_sI g9 6 0 0 4 0) = mb_rV g1 → F_X6_offer (nI b) g9 = B_X6_offer_46 mb_fu (nI b) (nI (sp_st (g1.1 20 0 0) K 2)) (nI 0) g1 := by
        intro g9 g1 z9 z1 e1
        rw [h6 g9 z9, if_pos q]
        unfold B_X6_offer_26
        rw [m6_refused0]
        simp only [px_cI, px_cIx, px_cV, px_cVx, px_cL, px_cLx, px_cR0, px_cR1, px_cRx, px_lI, px_lL, px_up, px_gZ0, px_gZ1, px_gZb, px_g0, px_g1, px_g2, px_g3, px_g4, px_g5, px_g6, px_g7, px_g8, px_g9, px_g10, px_g11, px_g12, px_g13, px_g14, px_c0, px_c1, px_c2, px_c3, px_c4, px_c5, px_c6, px_c7, px_c8, px_c9, px_c10, px_c11, px_c12, px_c13, px_c14, if_true]
        rw [e1]
        simp only [px_cI, px_cIx, px_cV, px_cVx, px_cL, px_cLx, px_cR0, px_cR1, px_cRx, px_lI, px_lL, px_up, px_gZ0, px_gZ1, px_gZb, px_g0, px_g1, px_g2, px_g3, px_g4, px_g5, px_g6, px_g7, px_g8, px_g9, px_g10, px_g11, px_g12, px_g13, px_g14, px_c0, px_c1, px_c2, px_c3, px_c4, px_c5, px_c6, px_c7, px_c8, px_c9, px_c10, px_c11, px_c12, px_c13, px_c14]
        rw [m6_countIn (h := g1) (B := B) (K := K) (T := T) (by rw [z1]; exact hw.z)]
        simp only [px_cI, px_cIx, px_cV, px_cVx, px_cL, px_cLx, px_cR0, px_cR1, px_cRx, px_lI, px_lL, px_up, px_gZ0, px_gZ1, px_gZb, px_g0, px_g1, px_g2, px_g3, px_g4, px_g5, px_g6, px_g7, px_g8, px_g9, px_g10, px_g11, px_g12, px_g13, px_g14, px_c0, px_c1, px_c2, px_c3, px_c4, px_c5, px_c6, px_c7, px_c8, px_c9, px_c10, px_c11, px_c12, px_c13, px_c14]
        rfl
      cases e : sp_fw (h.1 20 0 0) K T b with
      | none =>
        refine s_mut (v := -1) (w2 := h.1 20 0 0) hS r (fun g e1 rg fx => ⟨g, ?_, mb_Fr.rf _ _, rg⟩) hw (by omega) (by omega) ⟨p, ep, by omega⟩ hH (fun g9 g1 z9 z1 e1 => ⟨g1, ?_, fun _ _ => rfl, rfl, fun j _ => by rw [z1]⟩)
        · rw [h5, e1]
          simp only [px_cI, px_cIx, px_cV, px_cVx, px_cL, px_cLx, px_cR0, px_cR1, px_cRx, px_lI, px_lL, px_up, px_gZ0, px_gZ1, px_gZb, px_g0, px_g1, px_g2, px_g3, px_g4, px_g5, px_g6, px_g7, px_g8, px_g9, px_g10, px_g11, px_g12, px_g13, px_g14, px_c0, px_c1, px_c2, px_c3, px_c4, px_c5, px_c6, px_c7, px_c8, px_c9, px_c10, px_c11, px_c12, px_c13, px_c14]
          rw [c2_firstWaitingFor rg hw hb, e]
          simp only [px_cI, px_cIx, px_cV, px_cVx, px_cL, px_cLx, px_cR0, px_cR1, px_cRx, px_lI, px_lL, px_up, px_gZ0, px_gZ1, px_gZb, px_g0, px_g1, px_g2, px_g3, px_g4, px_g5, px_g6, px_g7, px_g8, px_g9, px_g10, px_g11, px_g12, px_g13, px_g14, px_c0, px_c1, px_c2, px_c3, px_c4, px_c5, px_c6, px_c7, px_c8, px_c9, px_c10, px_c11, px_c12, px_c13, px_c14]
          rw [show mb_oi none = -1 from rfl, if_pos rfl]
        · have hw1 : mb_W (g1.1 20 0 0) B K T D U := by rw [z1]; exact hw
          have hst : sp_st (g1.1 20 0 0) K 2 ≤ K := sp_cnt_le _ _ _
          rw [h6b g9 g1 z9 z1 e1]
          exact m6_of_none hw1 (by omega) (fun i hi wi => by rw [z1] at wi ⊢; exact f1 e i hi wi) _ 0 mb_fu (Nat.zero_add _) (by unfold mb_fu; omega)
      | some k =>
        obtain ⟨hk, wk, fk, bk⟩ := f2 k e
        have h7 : bo (h.1 20 0 0) k 7 = -1 := Classical.byContradiction fun z => by
          rcases ((hH k hk).1 z).2 with z2 | z2 <;> rw [wk] at z2 <;> exact absurd z2 (by decide)
        have ok : ((1 : Int32) = 1 ∧ ∃ b2, b2 < B ∧ nI b = nI b2 ∧ sp_in (h.1 20 0 0) K (nI b2) = none ∧ bo (h.1 20 0 0) k 0 ≤ bt (h.1 20 0 0) b2 1) ∨ ((1 : Int32) = 0 ∧ nI b = -1) := Or.inl ⟨rfl, b, hb, rfl, sp_open_in q, sp_fit_len fk⟩
        refine s_mut (v := nI k) (w2 := vm (h.1 20 0 0) k 1 (nI b)) hS r (fun g e1 rg fx => ?_) (mv_W hw hk ok) (by omega) (by omega) ⟨p, by rw [vm_lo _ _ _ _ (by decide)]; exact ep, by omega⟩ (mv_H hw hH (Or.inl ⟨rfl, b, hb, rfl, sp_fit_len fk⟩)) (fun g9 g1 z9 z1 e1 => ?_)
        · obtain ⟨g5, e2, fr, o3, o2, o1⟩ := c1_move 0 k 1 (nI b) g
          refine ⟨g5, ?_, fr, mv_RM rg hB hw.T14 hk (by decide) o3 o2 o1⟩
          rw [h5, e1]
          simp only [px_cI, px_cIx, px_cV, px_cVx, px_cL, px_cLx, px_cR0, px_cR1, px_cRx, px_lI, px_lL, px_up, px_gZ0, px_gZ1, px_gZb, px_g0, px_g1, px_g2, px_g3, px_g4, px_g5, px_g6, px_g7, px_g8, px_g9, px_g10, px_g11, px_g12, px_g13, px_g14, px_c0, px_c1, px_c2, px_c3, px_c4, px_c5, px_c6, px_c7, px_c8, px_c9, px_c10, px_c11, px_c12, px_c13, px_c14]
          rw [c2_firstWaitingFor rg hw hb, e]
          simp only [px_cI, px_cIx, px_cV, px_cVx, px_cL, px_cLx, px_cR0, px_cR1, px_cRx, px_lI, px_lL, px_up, px_gZ0, px_gZ1, px_gZb, px_g0, px_g1, px_g2, px_g3, px_g4, px_g5, px_g6, px_g7, px_g8, px_g9, px_g10, px_g11, px_g12, px_g13, px_g14, px_c0, px_c1, px_c2, px_c3, px_c4, px_c5, px_c6, px_c7, px_c8, px_c9, px_c10, px_c11, px_c12, px_c13, px_c14]
          rw [show mb_oi (some k) = nI k from rfl, if_neg (px_neg1 (by omega)), px_gB (show k < 20 by omega) (by decide), nI_clamp (by omega), e2]
          simp only [px_cI, px_cIx, px_cV, px_cVx, px_cL, px_cLx, px_cR0, px_cR1, px_cRx, px_lI, px_lL, px_up, px_gZ0, px_gZ1, px_gZb, px_g0, px_g1, px_g2, px_g3, px_g4, px_g5, px_g6, px_g7, px_g8, px_g9, px_g10, px_g11, px_g12, px_g13, px_g14, px_c0, px_c1, px_c2, px_c3, px_c4, px_c5, px_c6, px_c7, px_c8, px_c9, px_c10, px_c11, px_c12, px_c13, px_c14]
        · have hw1 : mb_W (g1.1 20 0 0) B K T D U := by rw [z1]; exact hw
          obtain ⟨g6, p1, p2, p3, p4, p5⟩ := m6_move (k := k) (by omega) 1 (nI b) g1
          have hax := sp_ah_st (w := g1.1 20 0 0) (K := K) hk (by rw [z1]; exact wk)
          have hst : sp_st (g1.1 20 0 0) K 2 ≤ K := sp_cnt_le _ _ _
          refine ⟨mb_sI (mb_sI (mb_sI g1 20 0 0 (90 + 9 * k + 3) 1) 20 0 0 (90 + 9 * k + 4) (nI b)) 20 0 0 (90 + 9 * k + 5) 0, ?_, fun i hi => by rw [mb_sI_o _ _ _ _ _ _ hi, mb_sI_o _ _ _ _ _ _ hi, mb_sI_o _ _ _ _ _ _ hi], rfl, fun j hj => ?_⟩
          · rw [h6b g9 g1 z9 z1 e1, m6_of_some hw1 (show b < 16 by omega) hk (by rw [z1]; exact wk) (by rw [z1]; exact fk) (fun i hi wi fi ne => by rw [z1] at wi fi ⊢; exact bk i hi wi fi ne) _ 0 mb_fu (Nat.zero_add _) (by unfold mb_fu; omega), p1]
            simp only [px_cI, px_cIx, px_cV, px_cVx, px_cL, px_cLx, px_cR0, px_cR1, px_cRx, px_lI, px_lL, px_up, px_gZ0, px_gZ1, px_gZb, px_g0, px_g1, px_g2, px_g3, px_g4, px_g5, px_g6, px_g7, px_g8, px_g9, px_g10, px_g11, px_g12, px_g13, px_g14, px_c0, px_c1, px_c2, px_c3, px_c4, px_c5, px_c6, px_c7, px_c8, px_c9, px_c10, px_c11, px_c12, px_c13, px_c14]
          · rw [(m6_setsw (show k < 20 by omega) (j := 5) (y := 5) (by decide) rfl 0 _).2, (m6_setsw (show k < 20 by omega) (j := 4) (y := 4) (by decide) rfl (nI b) _).2, (m6_setsw (show k < 20 by omega) (j := 3) (y := 3) (by decide) rfl 1 g1).2, z1]
            show _ = wb (wb (wb (wb (h.1 20 0 0) k 3 1) k 4 (nI b)) k 5 0) k 7 (-1) j
            by_cases z : j = 90 + 9 * k + 7
            · subst z
              rw [show wb (wb (wb (wb (h.1 20 0 0) k 3 1) k 4 (nI b)) k 5 0) k 7 (-1) (90 + 9 * k + 7) = -1 from if_pos rfl]
              have e2 : bo (wb (wb (wb (h.1 20 0 0) k 3 1) k 4 (nI b)) k 5 0) k 7 = bo (h.1 20 0 0) k 7 := by
                rw [wb_bo _ _ _ _ (by decide) (by decide), if_neg (by omega), wb_bo _ _ _ _ (by decide) (by decide), if_neg (by omega), wb_bo _ _ _ _ (by decide) (by decide), if_neg (by omega)]
              exact e2.trans h7
            · exact (if_neg z).symm
    · rw [if_neg q] at h5
      refine q_thr (j := 1) (b := 0) (E := "java/lang/IllegalStateException") hS rfl h5 ?_
      rw [h6 h rfl, if_neg q]
      unfold B_X6_offer_26
      rw [m6_refused1 2 (by decide)]; rfl
end
