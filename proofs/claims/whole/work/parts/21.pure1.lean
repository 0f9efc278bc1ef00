/-! ===== pure: the reference's questions, on a row w ===== -/
def bo (w : Nat → Int32) (k j : Nat) : Int32 := w (90 + 9 * k + j)
def bt (w : Nat → Int32) (b j : Nat) : Int32 := w (26 + 4 * b + j)
def mb_at9 (w : Nat → Int32) (B k : Nat) : Prop := (bo w k 3 = 1 ∧ ∃ b : Nat, b < B ∧ bo w k 4 = nI b) ∨ ((bo w k 3 = 0 ∨ bo w k 3 = 2 ∨ bo w k 3 = 3) ∧ bo w k 4 = -1)
def mb_hm9 (w : Nat → Int32) (B k : Nat) : Prop := bo w k 7 = -1 ∨ ∃ b : Nat, b < B ∧ bo w k 7 = nI b
/-- what binds homes to the winter, and lengths to berths -/
def mb_h9 (w : Nat → Int32) (k : Nat) : Prop := (bo w k 7 ≠ -1 → w 5 = 1 ∧ (bo w k 3 = 1 ∨ bo w k 3 = 3)) ∧ (bo w k 3 = 3 → bo w k 7 ≠ -1) ∧ (bo w k 3 = 1 → bo w k 0 ≤ bt w (bo w k 4).toNatClampNeg 1)
def mb_H (w : Nat → Int32) (K : Nat) : Prop := ∀ k, k < K → mb_h9 w k
def mb_wt9 (w : Nat → Int32) (D U k : Nat) : Prop := (bo w k 3 = 2 → ∃ a s : Nat, bo w k 5 = nI a ∧ a ≤ D ∧ bo w k 6 = nI s ∧ s < U) ∧ (bo w k 3 ≠ 2 → bo w k 5 = 0)
def mb_nu9 (w : Nat → Int32) (k : Nat) : Prop := ∃ a b c o : Nat, bo w k 0 = nI a ∧ 30 ≤ a ∧ a ≤ 400 ∧ bo w k 1 = nI b ∧ 20 ≤ b ∧ b ≤ 500 ∧ bo w k 2 = nI c ∧ c ≤ 99 ∧ bo w k 8 = nI o ∧ o < 2 ^ 31
def mb_nb9 (w : Nat → Int32) (b : Nat) : Prop := ∃ x y z : Nat, bt w b 0 = nI x ∧ 50 ≤ x ∧ x ≤ 900 ∧ bt w b 1 = nI y ∧ 30 ≤ y ∧ y ≤ 400 ∧ (bt w b 2 = 0 ∨ bt w b 2 = 1) ∧ bt w b 3 = nI z ∧ z ≤ 9999999
/-- a row that keeps the document's bounds: B berths, K boats, T numbers in the table, day D, U times that a boat began to wait -/
def mb_W (w : Nat → Int32) (B K T D U : Nat) : Prop :=
  mb_W0 w B K T ∧ (w 4 = nI D ∧ D ≤ 300000) ∧ (w 9 = nI U ∧ U ≤ 5000000) ∧ (∀ k, k < K → mb_at9 w B k ∧ mb_hm9 w B k ∧ mb_wt9 w D U k ∧ mb_nu9 w k) ∧ (∀ b, b < B → mb_nb9 w b) ∧
  (∀ k j, k < K → j < K → bo w k 3 = 1 → bo w j 3 = 1 → bo w k 4 = bo w j 4 → k = j) ∧ (∀ k j, k < K → j < K → bo w k 3 = 2 → bo w j 3 = 2 → bo w k 6 = bo w j 6 → k = j) ∧
  (∀ k, k < T → -300 ≤ (w (12 + k)).toInt ∧ (w (12 + k)).toInt ≤ 300) ∧ (∃ c r x y : Nat, w 0 = nI c ∧ c ≤ 100 ∧ w 1 = nI r ∧ r ≤ 9999999 ∧ w 2 = nI x ∧ x < 360 ∧ w 3 = nI y ∧ y < 360 ∧ x ≠ y) ∧ (w 5 = 0 ∨ w 5 = 1) ∧
  (∃ p q : Nat, w 10 = nI p ∧ p ≤ 100000 ∧ w 11 = nI q ∧ q < 1000000000)
section
variable {w : Nat → Int32} {B K T D U : Nat}
theorem mb_W.z (h : mb_W w B K T D U) : mb_W0 w B K T := h.1
theorem mb_W.dy (h : mb_W w B K T D U) : w 4 = nI D := h.2.1.1
theorem mb_W.dl (h : mb_W w B K T D U) : D ≤ 300000 := h.2.1.2
theorem mb_W.boat (h : mb_W w B K T D U) {k : Nat} (hk : k < K) : mb_at9 w B k ∧ mb_hm9 w B k ∧ mb_wt9 w D U k ∧ mb_nu9 w k := h.2.2.2.1 k hk
theorem mb_W.berth (h : mb_W w B K T D U) {b : Nat} (hb : b < B) : mb_nb9 w b := h.2.2.2.2.1 b hb
theorem mb_W.B16 (h : mb_W w B K T D U) : B ≤ 16 := h.1.2.1
theorem mb_W.K20 (h : mb_W w B K T D U) : K ≤ 20 := h.1.2.2.2.1
theorem mb_W.T1 (h : mb_W w B K T D U) : 1 ≤ T := h.1.2.2.2.2.2.1
theorem mb_W.T14 (h : mb_W w B K T D U) : T ≤ 14 := h.1.2.2.2.2.2.2
theorem mb_W.w6 (h : mb_W w B K T D U) : w 6 = nI B := h.1.1
theorem mb_W.w7 (h : mb_W w B K T D U) : w 7 = nI K := h.1.2.2.1
theorem mb_W.w8 (h : mb_W w B K T D U) : w 8 = nI T := h.1.2.2.2.2.1
end
theorem mb_h9.cg {w v : Nat → Int32} {B k : Nat} (h : mb_h9 w k) (ha : mb_at9 w B k) (hB : B ≤ 16) (e5 : v 5 = w 5) (et : ∀ b, b < B → bt v b 1 = bt w b 1) (eo : ∀ j, j < 9 → bo v k j = bo w k j) : mb_h9 v k := by
  unfold mb_h9 at h ⊢
  rw [eo 7 (by decide), eo 3 (by decide), eo 0 (by decide), eo 4 (by decide), e5]
  refine ⟨h.1, h.2.1, fun q => ?_⟩
  rcases ha with ⟨h3, b, hb, h4⟩ | ⟨h3, h4⟩
  · have := h.2.2 q
    rw [h4, nI_clamp (by omega)] at this ⊢
    rw [et b hb]
    exact this
  · exfalso
    rcases h3 with z | z | z <;> rw [z] at q <;> exact absurd q (by decide)
/-! what is counted, found, summed -/
def sp_cnt (P : Nat → Bool) : Nat → Nat → Nat
  | _, 0 => 0
  | j, m + 1 => (cond (P j) 1 0) + sp_cnt P (j + 1) m
def sp_find (P : Nat → Bool) : Nat → Nat → Option Nat
  | _, 0 => none
  | j, m + 1 => cond (P j) (some j) (sp_find P (j + 1) m)
def sp_sum (f : Nat → Int64) : Nat → Nat → Int64
  | _, 0 => 0
  | j, m + 1 => f j + sp_sum f (j + 1) m
def mb_oi (o : Option Nat) : Int32 := match o with
  | none => -1
  | some k => nI k
theorem sp_cnt_le (P : Nat → Bool) : ∀ (m j : Nat), sp_cnt P j m ≤ m := by
  intro m
  induction m with
  | zero => intro j; exact Nat.le_refl _
  | succ m ih =>
    intro j
    have := ih (j + 1)
    show (cond (P j) 1 0) + sp_cnt P (j + 1) m ≤ m + 1
    cases P j <;> simp <;> omega
theorem sp_find_some {P : Nat → Bool} : ∀ {m j k : Nat}, sp_find P j m = some k → j ≤ k ∧ k < j + m ∧ P k = true := by
  intro m
  induction m with
  | zero => intro j k h; cases h
  | succ m ih =>
    intro j k h
    have h : cond (P j) (some j) (sp_find P (j + 1) m) = some k := h
    cases hp : P j with
    | true =>
      rw [hp] at h
      cases h
      exact ⟨Nat.le_refl _, by omega, hp⟩
    | false =>
      rw [hp] at h
      obtain ⟨a, b, c⟩ := ih h
      exact ⟨by omega, by omega, c⟩
theorem sp_find_none {P : Nat → Bool} : ∀ {m j : Nat}, sp_find P j m = none → ∀ k, j ≤ k → k < j + m → P k = false := by
  intro m
  induction m with
  | zero => intro j h k h1 h2; omega
  | succ m ih =>
    intro j h k h1 h2
    have h : cond (P j) (some j) (sp_find P (j + 1) m) = none := h
    cases hp : P j with
    | true => rw [hp] at h; cases h
    | false =>
      rw [hp] at h
      rcases Nat.eq_or_lt_of_le h1 with rfl | q
      · exact hp
      · exact ih h k q (by omega)
theorem sp_find_congr {P Q : Nat → Bool} : ∀ {m j : Nat}, (∀ k, j ≤ k → k < j + m → P k = Q k) → sp_find P j m = sp_find Q j m := by
  intro m
  induction m with
  | zero => intro j _; rfl
  | succ m ih =>
    intro j h
    show cond (P j) (some j) (sp_find P (j + 1) m) = cond (Q j) (some j) (sp_find Q (j + 1) m)
    rw [h j (Nat.le_refl _) (by omega), ih (fun k a b => h k (by omega) (by omega))]
theorem sp_cnt_congr {P Q : Nat → Bool} : ∀ {m j : Nat}, (∀ k, j ≤ k → k < j + m → P k = Q k) → sp_cnt P j m = sp_cnt Q j m := by
  intro m
  induction m with
  | zero => intro j _; rfl
  | succ m ih =>
    intro j h
    show (cond (P j) 1 0) + sp_cnt P (j + 1) m = (cond (Q j) 1 0) + sp_cnt Q (j + 1) m
    rw [h j (Nat.le_refl _) (by omega), ih (fun k a b => h k (by omega) (by omega))]
theorem px_a0 (x : Int32) : x + 0 = x := Int32.add_zero x
theorem px_an (x : Int32) (c : Nat) : x + 1 + nI c = x + nI (1 + c) := by
  rw [Int32.add_assoc, show (1 : Int32) = nI 1 from rfl, nI_add]
/-! the specs -/
def sp_fit (w : Nat → Int32) (T k b : Nat) : Bool := decide (bo w k 0 ≤ bt w b 1) && decide (bo w k 1 + w 0 - bt w b 0 - sp_low w (T - 1) ≤ 0)
def sp_in (w : Nat → Int32) (K : Nat) (x : Int32) : Option Nat := sp_find (fun k => decide (bo w k 3 = 1) && decide (bo w k 4 = x)) 0 K
def sp_open (w : Nat → Int32) (K b : Nat) : Bool := (sp_in w K (nI b)).isNone && !(decide (bt w b 2 = 1) && decide (w 5 = 1))
def sp_lw (w : Nat → Int32) (T d : Nat) : Int32 := w (12 + d % T)
def sp_ag (w : Nat → Int32) (T d k : Nat) : Bool := decide (bo w k 3 = 1) && decide (bt w (bo w k 4).toNatClampNeg 0 + sp_lw w T d < bo w k 1)
def sp_st (w : Nat → Int32) (K : Nat) (s : Int32) : Nat := sp_cnt (fun k => decide (bo w k 3 = s)) 0 K
def sp_pt (w : Nat → Int32) (k : Nat) : Int32 := bo w k 5 + bo w k 2
def sp_bf (w : Nat → Int32) (k j : Nat) : Bool := decide (sp_pt w j < sp_pt w k) || (decide (sp_pt w k = sp_pt w j) && decide (bo w k 6 < bo w j 6))
def sp_ah (w : Nat → Int32) (K j : Nat) : Nat := sp_cnt (fun k => (decide (bo w k 3 = 2) && !decide (k = j)) && sp_bf w k j) 0 K
def sp_wa (w : Nat → Int32) (K : Nat) (x : Int32) : Option Nat := sp_find (fun k => decide (bo w k 3 = 2) && decide (nI (sp_ah w K k) = x)) 0 K
section
variable {h : mb_AH} {B K T D U : Nat}
theorem m6_oB {k j : Nat} (hk : k < 20) (hj : j < 9) {y : Int32} (hy : y = nI j) (h : mb_AH) : F_X6_ofBoat (nI k) y h = mb_rI (bo (h.1 20 0 0) k j) h := m6_ofBoat hk hj _ _ rfl hy
theorem m6_oT {b j : Nat} (hb : b < 16) (hj : j < 4) {y : Int32} (hy : y = nI j) (h : mb_AH) : F_X6_ofBerth (nI b) y h = mb_rI (bt (h.1 20 0 0) b j) h := m6_ofBerth hb hj _ _ rfl hy
theorem m6_isLong {k b : Nat} (hk : k < 20) (hb : b < 16) (h : mb_AH) : F_X6_isLongEnough (nI k) (nI b) h = mb_rI (mb_b (decide (bo (h.1 20 0 0) k 0 ≤ bt (h.1 20 0 0) b 1))) h := by
  unfold F_X6_isLongEnough
  simp only [px_cI, px_cIx, px_cV, px_cVx, px_cL, px_cLx, px_cR0, px_cR1, px_cRx, px_lI, px_lL, px_up, px_gZ0, px_gZ1, px_gZb, px_g0, px_g1, px_g2, px_g3, px_g4, px_g5, px_g6, px_g7, px_g8, px_g9, px_g10, px_g11, px_g12, px_g13, px_g14, px_c0, px_c1, px_c2, px_c3, px_c4, px_c5, px_c6, px_c7, px_c8, px_c9, px_c10, px_c11, px_c12, px_c13, px_c14, m6_oB hk (j := 0) (by decide) (y := 0) rfl, m6_oT hb (j := 1) (by decide) (y := 1) rfl]
  by_cases q : bt (h.1 20 0 0) b 1 < bo (h.1 20 0 0) k 0
  · rw [if_pos q, decide_eq_false (Int32.not_le.mpr q)]; rfl
  · rw [if_neg q, decide_eq_true (Int32.not_lt.mp q)]; rfl
theorem m6_missing (hz : mb_W0 (h.1 20 0 0) B K T) {k b : Nat} (hk : k < 20) (hb : b < 16) : F_X6_missing (nI k) (nI b) h = mb_rI (if bo (h.1 20 0 0) k 1 + h.1 20 0 0 0 - bt (h.1 20 0 0) b 0 - sp_low (h.1 20 0 0) (T - 1) ≤ 0 then 0 else bo (h.1 20 0 0) k 1 + h.1 20 0 0 0 - bt (h.1 20 0 0) b 0 - sp_low (h.1 20 0 0) (T - 1)) h := by
  unfold F_X6_missing
  simp only [px_cI, px_cIx, px_cV, px_cVx, px_cL, px_cLx, px_cR0, px_cR1, px_cRx, px_lI, px_lL, px_up, px_gZ0, px_gZ1, px_gZb, px_g0, px_g1, px_g2, px_g3, px_g4, px_g5, px_g6, px_g7, px_g8, px_g9, px_g10, px_g11, px_g12, px_g13, px_g14, px_c0, px_c1, px_c2, px_c3, px_c4, px_c5, px_c6, px_c7, px_c8, px_c9, px_c10, px_c11, px_c12, px_c13, px_c14, m6_oB hk (j := 1) (by decide) (y := 1) rfl, m6_oT hb (j := 0) (by decide) (y := 0) rfl, m6_lowest hz]
  split <;> rfl
theorem m6_isFit (hz : mb_W0 (h.1 20 0 0) B K T) {k b : Nat} (hk : k < 20) (hb : b < 16) : F_X6_isFit (nI k) (nI b) h = mb_rI (mb_b (sp_fit (h.1 20 0 0) T k b)) h := by
  unfold F_X6_isFit sp_fit
  simp only [px_cI, px_cIx, px_cV, px_cVx, px_cL, px_cLx, px_cR0, px_cR1, px_cRx, px_lI, px_lL, px_up, px_gZ0, px_gZ1, px_gZb, px_g0, px_g1, px_g2, px_g3, px_g4, px_g5, px_g6, px_g7, px_g8, px_g9, px_g10, px_g11, px_g12, px_g13, px_g14, px_c0, px_c1, px_c2, px_c3, px_c4, px_c5, px_c6, px_c7, px_c8, px_c9, px_c10, px_c11, px_c12, px_c13, px_c14, m6_isLong hk hb, m6_missing hz hk hb]
  by_cases q : bo (h.1 20 0 0) k 0 ≤ bt (h.1 20 0 0) b 1
  · rw [decide_eq_true q, if_neg (by decide)]
    by_cases q2 : bo (h.1 20 0 0) k 1 + h.1 20 0 0 0 - bt (h.1 20 0 0) b 0 - sp_low (h.1 20 0 0) (T - 1) ≤ 0
    · rw [if_pos q2, if_pos rfl, decide_eq_true q2]; rfl
    · rw [if_neg q2, if_neg (fun e => q2 (by rw [e]; decide)), decide_eq_false q2]; rfl
  · rw [decide_eq_false q, if_pos (by rfl)]; rfl
theorem m6_boatIn_loop (hz : mb_W0 (h.1 20 0 0) B K T) (x : Int32) : ∀ (m j f : Nat), j + m = K → m < f → B_X6_boatIn_2 f x (nI j) h = mb_rI (mb_oi (sp_find (fun k => decide (bo (h.1 20 0 0) k 3 = 1) && decide (bo (h.1 20 0 0) k 4 = x)) j m)) h := by
  obtain ⟨-, -, h7, hK, -⟩ := hz
  intro m
  induction m with
  | zero =>
    intro j f hj hf
    obtain ⟨f, rfl⟩ : ∃ g, f = g + 1 := ⟨f - 1, by omega⟩
    rw [B_X6_boatIn_2]
    simp only [px_cI, px_cIx, px_cV, px_cVx, px_cL, px_cLx, px_cR0, px_cR1, px_cRx, px_lI, px_lL, px_up, px_gZ0, px_gZ1, px_gZb, px_g0, px_g1, px_g2, px_g3, px_g4, px_g5, px_g6, px_g7, px_g8, px_g9, px_g10, px_g11, px_g12, px_g13, px_g14, px_c0, px_c1, px_c2, px_c3, px_c4, px_c5, px_c6, px_c7, px_c8, px_c9, px_c10, px_c11, px_c12, px_c13, px_c14]
    rw [h7, if_pos (nI_le (by omega) (by omega))]
    rfl
  | succ m ih =>
    intro j f hj hf
    obtain ⟨f, rfl⟩ : ∃ g, f = g + 1 := ⟨f - 1, by omega⟩
    have hj20 : j < 20 := by omega
    have ih2 := ih (j + 1) f (by omega) (by omega)
    rw [B_X6_boatIn_2]
    simp only [px_cI, px_cIx, px_cV, px_cVx, px_cL, px_cLx, px_cR0, px_cR1, px_cRx, px_lI, px_lL, px_up, px_gZ0, px_gZ1, px_gZb, px_g0, px_g1, px_g2, px_g3, px_g4, px_g5, px_g6, px_g7, px_g8, px_g9, px_g10, px_g11, px_g12, px_g13, px_g14, px_c0, px_c1, px_c2, px_c3, px_c4, px_c5, px_c6, px_c7, px_c8, px_c9, px_c10, px_c11, px_c12, px_c13, px_c14, m6_oB hj20 (j := 3) (by decide) (y := 3) rfl, m6_oB hj20 (j := 4) (by decide) (y := 4) rfl, nI_1, ih2]
    rw [h7, if_neg (nI_ge (by omega) (by omega))]
    rw [sp_find]
    by_cases q : bo (h.1 20 0 0) j 3 = 1
    · rw [if_pos q, decide_eq_true q]
      by_cases q2 : bo (h.1 20 0 0) j 4 = x
      · rw [if_pos q2, decide_eq_true q2]; rfl
      · rw [if_neg q2, decide_eq_false q2]; rfl
    · rw [if_neg q, decide_eq_false q]; rfl
theorem m6_boatIn (hz : mb_W0 (h.1 20 0 0) B K T) (x : Int32) : F_X6_boatIn x h = mb_rI (mb_oi (sp_in (h.1 20 0 0) K x)) h := by
  unfold F_X6_boatIn
  have := hz.2.2.2.1
  exact m6_boatIn_loop hz x K 0 mb_fu (by omega) (by unfold mb_fu; omega)
theorem px_oi (o : Option Nat) (ho : ∀ k, o = some k → k < 2 ^ 31) : (mb_oi o = -1) ↔ o.isNone = true := by
  cases o with
  | none => simp [mb_oi]
  | some k =>
    simp only [mb_oi, Option.isNone_some, Bool.false_eq_true, iff_false]
    intro e
    have h1 := ho k rfl
    have := congrArg Int32.toInt e
    rw [nI_toInt h1] at this
    have h2 : (-1 : Int32).toInt = -1 := by decide
    omega
theorem sp_in_lt {w : Nat → Int32} {K : Nat} {x : Int32} (hK : K ≤ 20) : ∀ k, sp_in w K x = some k → k < 2 ^ 31 := fun k hk => by
  have := (sp_find_some hk).2.1
  omega
theorem m6_isOpen (hz : mb_W0 (h.1 20 0 0) B K T) {b : Nat} (hb : b < 16) : F_X6_isOpen (nI b) h = mb_rI (mb_b (sp_open (h.1 20 0 0) K b)) h := by
  unfold F_X6_isOpen sp_open
  simp only [px_cI, px_cIx, px_cV, px_cVx, px_cL, px_cLx, px_cR0, px_cR1, px_cRx, px_lI, px_lL, px_up, px_gZ0, px_gZ1, px_gZb, px_g0, px_g1, px_g2, px_g3, px_g4, px_g5, px_g6, px_g7, px_g8, px_g9, px_g10, px_g11, px_g12, px_g13, px_g14, px_c0, px_c1, px_c2, px_c3, px_c4, px_c5, px_c6, px_c7, px_c8, px_c9, px_c10, px_c11, px_c12, px_c13, px_c14, m6_boatIn hz, m6_oT hb (j := 2) (by decide) (y := 2) rfl]
  have e := px_oi (sp_in (h.1 20 0 0) K (nI b)) (sp_in_lt hz.2.2.2.1)
  by_cases q : mb_oi (sp_in (h.1 20 0 0) K (nI b)) = -1
  · rw [if_pos q, e.mp q]
    by_cases q2 : bt (h.1 20 0 0) b 2 = 1
    · rw [if_pos q2, decide_eq_true q2]
      by_cases q3 : h.1 20 0 0 5 = 1
      · rw [if_pos q3, decide_eq_true q3]; rfl
      · rw [if_neg q3, decide_eq_false q3]; rfl
    · rw [if_neg q2, decide_eq_false q2]; rfl
  · rw [if_neg q]
    have : (sp_in (h.1 20 0 0) K (nI b)).isNone = false := by
      cases hq : (sp_in (h.1 20 0 0) K (nI b)).isNone
      · rfl
      · exact absurd (e.mpr hq) q
    rw [this]; rfl
theorem m6_lowOn (hz : mb_W0 (h.1 20 0 0) B K T) {d : Nat} (hd : d < 2 ^ 31) : F_X6_lowOn (nI d) h = mb_rI (sp_lw (h.1 20 0 0) T d) h := by
  obtain ⟨-, -, -, -, h8, hT1, hT2⟩ := hz
  unfold F_X6_lowOn
  simp only [px_cI, px_cIx, px_cV, px_cVx, px_cL, px_cLx, px_cR0, px_cR1, px_cRx, px_lI, px_lL, px_up, px_gZ0, px_gZ1, px_gZb, px_g0, px_g1, px_g2, px_g3, px_g4, px_g5, px_g6, px_g7, px_g8, px_g9, px_g10, px_g11, px_g12, px_g13, px_g14, px_c0, px_c1, px_c2, px_c3, px_c4, px_c5, px_c6, px_c7, px_c8, px_c9, px_c10, px_c11, px_c12, px_c13, px_c14]
  have hm : d % T < T := Nat.mod_lt _ (by omega)
  rw [h8, pk_rem hd (by omega) (by omega), show (12 : Int32) + nI (d % T) = nI (12 + d % T) from nI_add 12 _, px_gB (by omega) (by omega), nI_clamp (by omega)]
  unfold mb_g0
  rw [if_neg (nI_ne0 (by omega) (by omega))]
  rfl
theorem m6_isAground (hz : mb_W0 (h.1 20 0 0) B K T) {k d : Nat} (hk : k < 20) (ha : mb_at9 (h.1 20 0 0) B k) (hd : d < 2 ^ 31) : F_X6_isAground (nI k) (nI d) h = mb_rI (mb_b (sp_ag (h.1 20 0 0) T d k)) h := by
  unfold F_X6_isAground sp_ag
  simp only [px_cI, px_cIx, px_cV, px_cVx, px_cL, px_cLx, px_cR0, px_cR1, px_cRx, px_lI, px_lL, px_up, px_gZ0, px_gZ1, px_gZb, px_g0, px_g1, px_g2, px_g3, px_g4, px_g5, px_g6, px_g7, px_g8, px_g9, px_g10, px_g11, px_g12, px_g13, px_g14, px_c0, px_c1, px_c2, px_c3, px_c4, px_c5, px_c6, px_c7, px_c8, px_c9, px_c10, px_c11, px_c12, px_c13, px_c14, m6_oB hk (j := 3) (by decide) (y := 3) rfl, m6_oB hk (j := 1) (by decide) (y := 1) rfl, m6_oB hk (j := 4) (by decide) (y := 4) rfl]
  have hB := hz.2.1
  rcases ha with ⟨h3, b, hb, h4⟩ | ⟨h3, h4⟩
  · rw [if_pos h3, decide_eq_true h3, h4, nI_clamp (by omega)]
    simp only [px_cI, px_cIx, px_cV, px_cVx, px_cL, px_cLx, px_cR0, px_cR1, px_cRx, px_lI, px_lL, px_up, px_gZ0, px_gZ1, px_gZb, px_g0, px_g1, px_g2, px_g3, px_g4, px_g5, px_g6, px_g7, px_g8, px_g9, px_g10, px_g11, px_g12, px_g13, px_g14, px_c0, px_c1, px_c2, px_c3, px_c4, px_c5, px_c6, px_c7, px_c8, px_c9, px_c10, px_c11, px_c12, px_c13, px_c14, m6_oT (show b < 16 by omega) (j := 0) (by decide) (y := 0) rfl, m6_lowOn hz hd]
    by_cases q : bo (h.1 20 0 0) k 1 ≤ bt (h.1 20 0 0) b 0 + sp_lw (h.1 20 0 0) T d
    · rw [if_pos q, decide_eq_false (Int32.not_lt.mpr q)]; rfl
    · rw [if_neg q, decide_eq_true (Int32.not_le.mp q)]; rfl
  · have : ¬ bo (h.1 20 0 0) k 3 = 1 := by rcases h3 with e | e | e <;> rw [e] <;> decide
    rw [if_neg this, decide_eq_false this]; rfl
theorem m6_countIn_loop (hz : mb_W0 (h.1 20 0 0) B K T) (s : Int32) : ∀ (m j f : Nat) (a : Int32), j + m = K → m < f → B_X6_countIn_4 f s a (nI j) h = mb_rI (a + nI (sp_cnt (fun k => decide (bo (h.1 20 0 0) k 3 = s)) j m)) h := by
  obtain ⟨-, -, h7, hK, -⟩ := hz
  intro m
  induction m with
  | zero =>
    intro j f a hj hf
    obtain ⟨f, rfl⟩ : ∃ g, f = g + 1 := ⟨f - 1, by omega⟩
    rw [B_X6_countIn_4]
    simp only [px_cI, px_cIx, px_cV, px_cVx, px_cL, px_cLx, px_cR0, px_cR1, px_cRx, px_lI, px_lL, px_up, px_gZ0, px_gZ1, px_gZb, px_g0, px_g1, px_g2, px_g3, px_g4, px_g5, px_g6, px_g7, px_g8, px_g9, px_g10, px_g11, px_g12, px_g13, px_g14, px_c0, px_c1, px_c2, px_c3, px_c4, px_c5, px_c6, px_c7, px_c8, px_c9, px_c10, px_c11, px_c12, px_c13, px_c14]
    rw [h7, if_pos (nI_le (by omega) (by omega)), sp_cnt, nI_0, px_a0]
  | succ m ih =>
    intro j f a hj hf
    obtain ⟨f, rfl⟩ : ∃ g, f = g + 1 := ⟨f - 1, by omega⟩
    have hj20 : j < 20 := by omega
    rw [B_X6_countIn_4]
    simp only [px_cI, px_cIx, px_cV, px_cVx, px_cL, px_cLx, px_cR0, px_cR1, px_cRx, px_lI, px_lL, px_up, px_gZ0, px_gZ1, px_gZb, px_g0, px_g1, px_g2, px_g3, px_g4, px_g5, px_g6, px_g7, px_g8, px_g9, px_g10, px_g11, px_g12, px_g13, px_g14, px_c0, px_c1, px_c2, px_c3, px_c4, px_c5, px_c6, px_c7, px_c8, px_c9, px_c10, px_c11, px_c12, px_c13, px_c14, m6_oB hj20 (j := 3) (by decide) (y := 3) rfl, nI_1, px_a0]
    rw [h7, if_neg (nI_ge (by omega) (by omega)), sp_cnt]
    by_cases q : bo (h.1 20 0 0) j 3 = s
    · rw [if_pos q, decide_eq_true q, ih (j + 1) f _ (by omega) (by omega), px_an]; rfl
    · rw [if_neg q, decide_eq_false q, ih (j + 1) f _ (by omega) (by omega)]
      show _ = mb_rI (a + nI (0 + _)) h
      rw [Nat.zero_add]
theorem m6_countIn (hz : mb_W0 (h.1 20 0 0) B K T) (s : Int32) : F_X6_countIn s h = mb_rI (nI (sp_st (h.1 20 0 0) K s)) h := by
  unfold F_X6_countIn
  have := hz.2.2.2.1
  rw [show (0 : Int32) = nI 0 from rfl, m6_countIn_loop hz s K 0 mb_fu _ (by omega) (by unfold mb_fu; omega), nI_add, Nat.zero_add]
  rfl
theorem m6_points {k : Nat} (hk : k < 20) (h : mb_AH) : F_X6_points (nI k) h = mb_rI (sp_pt (h.1 20 0 0) k) h := by
  unfold F_X6_points
  simp only [px_cI, px_cIx, px_cV, px_cVx, px_cL, px_cLx, px_cR0, px_cR1, px_cRx, px_lI, px_lL, px_up, px_gZ0, px_gZ1, px_gZb, px_g0, px_g1, px_g2, px_g3, px_g4, px_g5, px_g6, px_g7, px_g8, px_g9, px_g10, px_g11, px_g12, px_g13, px_g14, px_c0, px_c1, px_c2, px_c3, px_c4, px_c5, px_c6, px_c7, px_c8, px_c9, px_c10, px_c11, px_c12, px_c13, px_c14, m6_oB hk (j := 5) (by decide) (y := 5) rfl, m6_oB hk (j := 2) (by decide) (y := 2) rfl]
  rfl
theorem m6_ahead_loop (hz : mb_W0 (h.1 20 0 0) B K T) {x : Nat} (hx : x < K) : ∀ (m j f : Nat) (a : Int32), j + m = K → m < f → B_X6_ahead_4 f (nI x) a (nI j) h = mb_rI (a + nI (sp_cnt (fun k => (decide (bo (h.1 20 0 0) k 3 = 2) && !decide (k = x)) && sp_bf (h.1 20 0 0) k x) j m)) h := by
  obtain ⟨-, -, h7, hK, -⟩ := hz
  intro m
  induction m with
  | zero =>
    intro j f a hj hf
    obtain ⟨f, rfl⟩ : ∃ g, f = g + 1 := ⟨f - 1, by omega⟩
    rw [B_X6_ahead_4]
    simp only [px_cI, px_cIx, px_cV, px_cVx, px_cL, px_cLx, px_cR0, px_cR1, px_cRx, px_lI, px_lL, px_up, px_gZ0, px_gZ1, px_gZb, px_g0, px_g1, px_g2, px_g3, px_g4, px_g5, px_g6, px_g7, px_g8, px_g9, px_g10, px_g11, px_g12, px_g13, px_g14, px_c0, px_c1, px_c2, px_c3, px_c4, px_c5, px_c6, px_c7, px_c8, px_c9, px_c10, px_c11, px_c12, px_c13, px_c14]
    rw [h7, if_pos (nI_le (by omega) (by omega)), sp_cnt, nI_0, px_a0]
  | succ m ih =>
    intro j f a hj hf
    obtain ⟨f, rfl⟩ : ∃ g, f = g + 1 := ⟨f - 1, by omega⟩
    have hj20 : j < 20 := by omega
    have hx20 : x < 20 := by omega
    rw [B_X6_ahead_4]
    simp only [px_cI, px_cIx, px_cV, px_cVx, px_cL, px_cLx, px_cR0, px_cR1, px_cRx, px_lI, px_lL, px_up, px_gZ0, px_gZ1, px_gZb, px_g0, px_g1, px_g2, px_g3, px_g4, px_g5, px_g6, px_g7, px_g8, px_g9, px_g10, px_g11, px_g12, px_g13, px_g14, px_c0, px_c1, px_c2, px_c3, px_c4, px_c5, px_c6, px_c7, px_c8, px_c9, px_c10, px_c11, px_c12, px_c13, px_c14, m6_oB hj20 (j := 3) (by decide) (y := 3) rfl]
    rw [h7, if_neg (nI_ge (by omega) (by omega)), sp_cnt]
    have hno : ∀ (P : Bool), P = false → mb_rI (a + nI (sp_cnt (fun k => (decide (bo (h.1 20 0 0) k 3 = 2) && !decide (k = x)) && sp_bf (h.1 20 0 0) k x) (j + 1) m)) h = mb_rI (a + nI ((cond P 1 0) + sp_cnt (fun k => (decide (bo (h.1 20 0 0) k 3 = 2) && !decide (k = x)) && sp_bf (h.1 20 0 0) k x) (j + 1) m)) h := by
      intro P hP
      rw [hP]
      show _ = mb_rI (a + nI (0 + _)) h
      rw [Nat.zero_add]
    have hskip : B_X6_ahead_34 (B_X6_ahead_4 f) (nI x) a (nI j) h = mb_rI (a + nI (sp_cnt (fun k => (decide (bo (h.1 20 0 0) k 3 = 2) && !decide (k = x)) && sp_bf (h.1 20 0 0) k x) (j + 1) m)) h := by
      unfold B_X6_ahead_34 B_X6_ahead_35
      rw [if_pos rfl]
      simp only [px_cI, px_cIx, px_cV, px_cVx, px_cL, px_cLx, px_cR0, px_cR1, px_cRx, px_lI, px_lL, px_up, px_gZ0, px_gZ1, px_gZb, px_g0, px_g1, px_g2, px_g3, px_g4, px_g5, px_g6, px_g7, px_g8, px_g9, px_g10, px_g11, px_g12, px_g13, px_g14, px_c0, px_c1, px_c2, px_c3, px_c4, px_c5, px_c6, px_c7, px_c8, px_c9, px_c10, px_c11, px_c12, px_c13, px_c14, nI_1, px_a0]
      exact ih (j + 1) f a (by omega) (by omega)
    by_cases q : bo (h.1 20 0 0) j 3 = 2
    · rw [if_pos q, decide_eq_true q]
      by_cases qx : j = x
      · subst qx
        rw [if_pos rfl, hskip]
        exact hno _ (by simp)
      · rw [if_neg (fun e => qx ((nI_eq (by omega) (by omega)).mp e)), decide_eq_false qx]
        unfold B_X6_ahead_35 B_X6_ahead_86
        rw [if_neg (by decide)]
        simp only [px_cI, px_cIx, px_cV, px_cVx, px_cL, px_cLx, px_cR0, px_cR1, px_cRx, px_lI, px_lL, px_up, px_gZ0, px_gZ1, px_gZb, px_g0, px_g1, px_g2, px_g3, px_g4, px_g5, px_g6, px_g7, px_g8, px_g9, px_g10, px_g11, px_g12, px_g13, px_g14, px_c0, px_c1, px_c2, px_c3, px_c4, px_c5, px_c6, px_c7, px_c8, px_c9, px_c10, px_c11, px_c12, px_c13, px_c14, nI_1, px_a0, m6_points hj20, m6_points hx20, m6_oB hj20 (j := 6) (by decide) (y := 6) rfl, m6_oB hx20 (j := 6) (by decide) (y := 6) rfl]
        unfold sp_bf
        by_cases p1 : sp_pt (h.1 20 0 0) x < sp_pt (h.1 20 0 0) j
        · rw [if_pos p1, decide_eq_true p1, ih (j + 1) f _ (by omega) (by omega), px_an]; rfl
        · rw [if_neg p1, decide_eq_false p1]
          by_cases p2 : sp_pt (h.1 20 0 0) j = sp_pt (h.1 20 0 0) x
          · rw [if_pos p2, decide_eq_true p2]
            by_cases p3 : bo (h.1 20 0 0) x 6 ≤ bo (h.1 20 0 0) j 6
            · rw [if_pos p3, decide_eq_false (Int32.not_lt.mpr p3), ih (j + 1) f _ (by omega) (by omega)]
              exact hno _ (by rfl)
            · rw [if_neg p3, decide_eq_true (Int32.not_le.mp p3), ih (j + 1) f _ (by omega) (by omega), px_an]; rfl
          · rw [if_neg p2, decide_eq_false p2, ih (j + 1) f _ (by omega) (by omega)]
            exact hno _ (by rfl)
    · rw [if_neg q, decide_eq_false q, hskip]
      exact hno _ (by rfl)
theorem m6_ahead (hz : mb_W0 (h.1 20 0 0) B K T) {x : Nat} (hx : x < K) : F_X6_ahead (nI x) h = mb_rI (nI (sp_ah (h.1 20 0 0) K x)) h := by
  unfold F_X6_ahead
  have := hz.2.2.2.1
  rw [show (0 : Int32) = nI 0 from rfl, m6_ahead_loop hz hx K 0 mb_fu _ (by omega) (by unfold mb_fu; omega), nI_add, Nat.zero_add]
  rfl
theorem m6_waitingAt_loop (hz : mb_W0 (h.1 20 0 0) B K T) (x : Int32) : ∀ (m j f : Nat), j + m = K → m < f → B_X6_waitingAt_2 f x (nI j) h = mb_rI (mb_oi (sp_find (fun k => decide (bo (h.1 20 0 0) k 3 = 2) && decide (nI (sp_ah (h.1 20 0 0) K k) = x)) j m)) h := by
  have hz2 := hz
  obtain ⟨-, -, h7, hK, -⟩ := hz
  intro m
  induction m with
  | zero =>
    intro j f hj hf
    obtain ⟨f, rfl⟩ : ∃ g, f = g + 1 := ⟨f - 1, by omega⟩
    rw [B_X6_waitingAt_2]
    simp only [px_cI, px_cIx, px_cV, px_cVx, px_cL, px_cLx, px_cR0, px_cR1, px_cRx, px_lI, px_lL, px_up, px_gZ0, px_gZ1, px_gZb, px_g0, px_g1, px_g2, px_g3, px_g4, px_g5, px_g6, px_g7, px_g8, px_g9, px_g10, px_g11, px_g12, px_g13, px_g14, px_c0, px_c1, px_c2, px_c3, px_c4, px_c5, px_c6, px_c7, px_c8, px_c9, px_c10, px_c11, px_c12, px_c13, px_c14]
    rw [h7, if_pos (nI_le (by omega) (by omega))]
    rfl
  | succ m ih =>
    intro j f hj hf
    obtain ⟨f, rfl⟩ : ∃ g, f = g + 1 := ⟨f - 1, by omega⟩
    have hj20 : j < 20 := by omega
    have ih2 := ih (j + 1) f (by omega) (by omega)
    rw [B_X6_waitingAt_2]
    simp only [px_cI, px_cIx, px_cV, px_cVx, px_cL, px_cLx, px_cR0, px_cR1, px_cRx, px_lI, px_lL, px_up, px_gZ0, px_gZ1, px_gZb, px_g0, px_g1, px_g2, px_g3, px_g4, px_g5, px_g6, px_g7, px_g8, px_g9, px_g10, px_g11, px_g12, px_g13, px_g14, px_c0, px_c1, px_c2, px_c3, px_c4, px_c5, px_c6, px_c7, px_c8, px_c9, px_c10, px_c11, px_c12, px_c13, px_c14, m6_oB hj20 (j := 3) (by decide) (y := 3) rfl, m6_ahead hz2 (show j < K by omega), nI_1, ih2]
    rw [h7, if_neg (nI_ge (by omega) (by omega))]
    rw [sp_find]
    by_cases q : bo (h.1 20 0 0) j 3 = 2
    · rw [if_pos q, decide_eq_true q]
      by_cases q2 : nI (sp_ah (h.1 20 0 0) K j) = x
      · rw [if_pos q2, decide_eq_true q2]; rfl
      · rw [if_neg q2, decide_eq_false q2]; rfl
    · rw [if_neg q, decide_eq_false q]; rfl
theorem m6_waitingAt (hz : mb_W0 (h.1 20 0 0) B K T) (x : Int32) : F_X6_waitingAt x h = mb_rI (mb_oi (sp_wa (h.1 20 0 0) K x)) h := by
  unfold F_X6_waitingAt
  have := hz.2.2.2.1
  exact m6_waitingAt_loop hz x K 0 mb_fu (by omega) (by unfold mb_fu; omega)
end
