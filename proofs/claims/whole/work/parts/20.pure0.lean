/-! ===== pure: what the functions of the reference and of the class are, no machine ===== -/
abbrev mb_rI (x : Int32) (h : mb_AH) : Option mb_RS := some (.inl (some (.inl x)), h)
abbrev mb_rL (x : Int64) (h : mb_AH) : Option mb_RS := some (.inl (some (.inr (.inl x))), h)
abbrev mb_rV (h : mb_AH) : Option mb_RS := some (.inl none, h)
abbrev mb_rX (E : String) (h : mb_AH) : Option mb_RS := some (.inr E, h)
def mb_b (p : Bool) : Int32 := cond p 1 0
theorem px_cI (v : Int32) (h : mb_AH) (K : Int32 → mb_AH → Option mb_RS) : mb_cI (some (.inl (some (.inl v)), h)) K = K v h := id rfl
theorem px_cIx (E : String) (h : mb_AH) (K : Int32 → mb_AH → Option mb_RS) : mb_cI (some (.inr E, h)) K = some (.inr E, h) := id rfl
theorem px_cV (h : mb_AH) (K : mb_AH → Option mb_RS) : mb_cV (some (.inl none, h)) K = K h := id rfl
theorem px_cVx (E : String) (h : mb_AH) (K : mb_AH → Option mb_RS) : mb_cV (some (.inr E, h)) K = some (.inr E, h) := id rfl
theorem px_cL (v : Int64) (h : mb_AH) (K : Int64 → mb_AH → Option mb_RS) : mb_cL (some (.inl (some (.inr (.inl v))), h)) K = K v h := id rfl
theorem px_cLx (E : String) (h : mb_AH) (K : Int64 → mb_AH → Option mb_RS) : mb_cL (some (.inr E, h)) K = some (.inr E, h) := id rfl
theorem px_cR0 (kd : Nat) (h : mb_AH) (K0 : mb_AH → Option mb_RS) (K : Nat → Nat → mb_AH → Option mb_RS) : mb_cR kd (some (.inl (some mb_N), h)) K0 K = K0 h := id rfl
theorem px_cR1 (kd a b : Nat) (h : mb_AH) (K0 : mb_AH → Option mb_RS) (K : Nat → Nat → mb_AH → Option mb_RS) : mb_cR kd (some (.inl (some (mb_F kd a b)), h)) K0 K = K a b h := if_pos rfl
theorem px_cRx (kd : Nat) (E : String) (h : mb_AH) (K0 : mb_AH → Option mb_RS) (K : Nat → Nat → mb_AH → Option mb_RS) : mb_cR kd (some (.inr E, h)) K0 K = some (.inr E, h) := id rfl
theorem px_lI (e : Int32) (K : Int32 → Option mb_RS) : mb_lI e K = K e := id rfl
theorem px_lL (e : Int64) (K : Int64 → Option mb_RS) : mb_lL e K = K e := id rfl
theorem px_up (e : mb_AH) (K : mb_AH → Option mb_RS) : mb_up e K = K e := id rfl
theorem px_gZ0 (X : Option mb_RS) : mb_gZ 0 X = X := if_pos (Or.inl rfl)
theorem px_gZ1 (X : Option mb_RS) : mb_gZ 1 X = X := if_pos (Or.inr rfl)
theorem px_gZb (p : Bool) (X : Option mb_RS) : mb_gZ (mb_b p) X = X := by cases p <;> rfl
theorem px_gB {j n : Nat} (h : j < n) (hn : n < 2 ^ 31) (X : Option mb_RS) : mb_gB (nI j) n X = X := if_neg (nI_in h hn)
theorem px_gBo {x : Int32} {n : Nat} (h : ¬ vp_in x n) (X : Option mb_RS) : mb_gB x n X = none := if_pos (by unfold vp_in at h; exact Decidable.not_not.mp h)
theorem px_g0 (X : Option mb_RS) : mb_gB 0 270 X = X := if_neg (by decide)
theorem px_c0 : (0 : Int32).toNatClampNeg = 0 := by decide
theorem px_g1 (X : Option mb_RS) : mb_gB 1 270 X = X := if_neg (by decide)
theorem px_c1 : (1 : Int32).toNatClampNeg = 1 := by decide
theorem px_g2 (X : Option mb_RS) : mb_gB 2 270 X = X := if_neg (by decide)
theorem px_c2 : (2 : Int32).toNatClampNeg = 2 := by decide
theorem px_g3 (X : Option mb_RS) : mb_gB 3 270 X = X := if_neg (by decide)
theorem px_c3 : (3 : Int32).toNatClampNeg = 3 := by decide
theorem px_g4 (X : Option mb_RS) : mb_gB 4 270 X = X := if_neg (by decide)
theorem px_c4 : (4 : Int32).toNatClampNeg = 4 := by decide
theorem px_g5 (X : Option mb_RS) : mb_gB 5 270 X = X := if_neg (by decide)
theorem px_c5 : (5 : Int32).toNatClampNeg = 5 := by decide
theorem px_g6 (X : Option mb_RS) : mb_gB 6 270 X = X := if_neg (by decide)
theorem px_c6 : (6 : Int32).toNatClampNeg = 6 := by decide
theorem px_g7 (X : Option mb_RS) : mb_gB 7 270 X = X := if_neg (by decide)
theorem px_c7 : (7 : Int32).toNatClampNeg = 7 := by decide
theorem px_g8 (X : Option mb_RS) : mb_gB 8 270 X = X := if_neg (by decide)
theorem px_c8 : (8 : Int32).toNatClampNeg = 8 := by decide
theorem px_g9 (X : Option mb_RS) : mb_gB 9 270 X = X := if_neg (by decide)
theorem px_c9 : (9 : Int32).toNatClampNeg = 9 := by decide
theorem px_g10 (X : Option mb_RS) : mb_gB 10 270 X = X := if_neg (by decide)
theorem px_c10 : (10 : Int32).toNatClampNeg = 10 := by decide
theorem px_g11 (X : Option mb_RS) : mb_gB 11 270 X = X := if_neg (by decide)
theorem px_c11 : (11 : Int32).toNatClampNeg = 11 := by decide
theorem px_g12 (X : Option mb_RS) : mb_gB 12 270 X = X := if_neg (by decide)
theorem px_c12 : (12 : Int32).toNatClampNeg = 12 := by decide
theorem px_g13 (X : Option mb_RS) : mb_gB 13 270 X = X := if_neg (by decide)
theorem px_c13 : (13 : Int32).toNatClampNeg = 13 := by decide
theorem px_g14 (X : Option mb_RS) : mb_gB 14 270 X = X := if_neg (by decide)
theorem px_c14 : (14 : Int32).toNatClampNeg = 14 := by decide
theorem px_b0 (p : Bool) : (mb_b p = 0) ↔ p = false := by cases p <;> decide
theorem px_b1 (p : Bool) : (mb_b p = 1) ↔ p = true := by cases p <;> decide
theorem px_nI (k : Nat) : (OfNat.ofNat k : Int32) = nI k := rfl
/-- an index, or none -/
def mb_ix (x : Int32) (N : Nat) : Bool := decide (0 ≤ x) && decide (x < nI N)
theorem px_ixt {k N : Nat} (h : k < N) (hN : N < 2 ^ 31) : mb_ix (nI k) N = true := by
  unfold mb_ix
  rw [Bool.and_eq_true, decide_eq_true_iff, decide_eq_true_iff]
  exact ⟨nI_pos' (by omega), nI_lt h (by omega)⟩
theorem px_ix (x : Int32) {N : Nat} (hN : N < 2 ^ 31) : mb_ix x N = false ∨ ∃ k : Nat, k < N ∧ x = nI k := by
  rcases pk_ix x hN with h | h | ⟨j, h1, h2⟩
  · left
    unfold mb_ix
    rw [show decide (0 ≤ x) = false from decide_eq_false (Int32.not_le.mpr h), Bool.false_and]
  · left
    unfold mb_ix
    rw [show decide (x < nI N) = false from decide_eq_false (Int32.not_lt.mpr h), Bool.and_false]
  · exact Or.inr ⟨j, h1, h2⟩
theorem px_nIm (n : Nat) (hn : 0 < n) : nI n - 1 = nI (n - 1) := by
  obtain ⟨m, rfl⟩ : ∃ m, n = m + 1 := ⟨n - 1, by omega⟩
  exact nI_pred m
/-- the sizes of a row -/
def mb_W0 (w : Nat → Int32) (B K T : Nat) : Prop := w 6 = nI B ∧ B ≤ 16 ∧ w 7 = nI K ∧ K ≤ 20 ∧ w 8 = nI T ∧ 1 ≤ T ∧ T ≤ 14
theorem px_le1 (x : Int32) (N : Nat) (hN : N < 2 ^ 31) : (0 ≤ x ∧ x ≤ nI N - 1) ↔ (0 ≤ x ∧ x < nI N) := by
  rcases Nat.eq_zero_or_pos N with rfl | h
  · constructor
    · rintro ⟨h1, h2⟩
      exact absurd (Int32.le_trans h1 h2) (by decide)
    · rintro ⟨h1, h2⟩
      exact absurd h2 (Int32.not_lt.mpr (by exact h1))
  · rw [px_nIm N h]
    rw [Int32.le_iff_toInt_le, Int32.le_iff_toInt_le, Int32.lt_iff_toInt_lt, nI_toInt (by omega), nI_toInt (by omega)]
    constructor
    · rintro ⟨h1, h2⟩; exact ⟨h1, by omega⟩
    · rintro ⟨h1, h2⟩; exact ⟨h1, by omega⟩
theorem m6_refused0 (h : mb_AH) : F_X6_refused 0 h = mb_rI 0 (mb_sI h 6 0 0 4 0) := by
  unfold F_X6_refused
  simp only [px_cI, px_cIx, px_cV, px_cVx, px_cL, px_cLx, px_cR0, px_cR1, px_cRx, px_lI, px_lL, px_up, px_gZ0, px_gZ1, px_gZb, px_g0, px_g1, px_g2, px_g3, px_g4, px_g5, px_g6, px_g7, px_g8, px_g9, px_g10, px_g11, px_g12, px_g13, px_g14, px_c0, px_c1, px_c2, px_c3, px_c4, px_c5, px_c6, px_c7, px_c8, px_c9, px_c10, px_c11, px_c12, px_c13, px_c14]
  rw [if_pos (by decide)]
theorem m6_refused1 (x : Int32) (hx : 0 < x) (h : mb_AH) : F_X6_refused x h = mb_rI 1 (mb_sI h 6 0 0 4 x) := by
  unfold F_X6_refused
  simp only [px_cI, px_cIx, px_cV, px_cVx, px_cL, px_cLx, px_cR0, px_cR1, px_cRx, px_lI, px_lL, px_up, px_gZ0, px_gZ1, px_gZb, px_g0, px_g1, px_g2, px_g3, px_g4, px_g5, px_g6, px_g7, px_g8, px_g9, px_g10, px_g11, px_g12, px_g13, px_g14, px_c0, px_c1, px_c2, px_c3, px_c4, px_c5, px_c6, px_c7, px_c8, px_c9, px_c10, px_c11, px_c12, px_c13, px_c14]
  rw [if_neg (Int32.not_le.mpr hx)]
theorem m6_within (x lo hi : Int32) (h : mb_AH) : F_X6_within x lo hi h = mb_rI (mb_b (decide (lo ≤ x) && decide (x ≤ hi))) h := by
  unfold F_X6_within
  by_cases h1 : x < lo
  · rw [if_pos h1, show decide (lo ≤ x) = false from decide_eq_false (Int32.not_le.mpr h1)]; rfl
  · rw [if_neg h1, show decide (lo ≤ x) = true from decide_eq_true (Int32.not_lt.mp h1)]
    by_cases h2 : hi < x
    · rw [if_pos h2, show decide (x ≤ hi) = false from decide_eq_false (Int32.not_le.mpr h2)]; rfl
    · rw [if_neg h2, show decide (x ≤ hi) = true from decide_eq_true (Int32.not_lt.mp h2)]; rfl
theorem px_ixw (x : Int32) (N : Nat) (hN : N < 2 ^ 31) : (decide (0 ≤ x) && decide (x ≤ nI N - 1)) = mb_ix x N := by
  unfold mb_ix
  rw [Bool.eq_iff_iff, Bool.and_eq_true, Bool.and_eq_true, decide_eq_true_iff, decide_eq_true_iff, decide_eq_true_iff]
  exact px_le1 x N hN
section
variable {h : mb_AH} {B K T : Nat}
theorem m6_isBerth (hz : mb_W0 (h.1 20 0 0) B K T) (x : Int32) : F_X6_isBerth x h = mb_rI (mb_b (mb_ix x B)) h := by
  unfold F_X6_isBerth
  simp only [px_cI, px_cIx, px_cV, px_cVx, px_cL, px_cLx, px_cR0, px_cR1, px_cRx, px_lI, px_lL, px_up, px_gZ0, px_gZ1, px_gZb, px_g0, px_g1, px_g2, px_g3, px_g4, px_g5, px_g6, px_g7, px_g8, px_g9, px_g10, px_g11, px_g12, px_g13, px_g14, px_c0, px_c1, px_c2, px_c3, px_c4, px_c5, px_c6, px_c7, px_c8, px_c9, px_c10, px_c11, px_c12, px_c13, px_c14, m6_within]
  rw [hz.1, px_ixw x B (by have := hz.2.1; omega)]
theorem m6_isBoat (hz : mb_W0 (h.1 20 0 0) B K T) (x : Int32) : F_X6_isBoat x h = mb_rI (mb_b (mb_ix x K)) h := by
  unfold F_X6_isBoat
  simp only [px_cI, px_cIx, px_cV, px_cVx, px_cL, px_cLx, px_cR0, px_cR1, px_cRx, px_lI, px_lL, px_up, px_gZ0, px_gZ1, px_gZb, px_g0, px_g1, px_g2, px_g3, px_g4, px_g5, px_g6, px_g7, px_g8, px_g9, px_g10, px_g11, px_g12, px_g13, px_g14, px_c0, px_c1, px_c2, px_c3, px_c4, px_c5, px_c6, px_c7, px_c8, px_c9, px_c10, px_c11, px_c12, px_c13, px_c14, m6_within]
  rw [hz.2.2.1, px_ixw x K (by have := hz.2.2.2.1; omega)]
theorem px_i26 (b j : Nat) : ((26 : Int32) + ((4 : Int32) * nI b)) + nI j = nI (26 + 4 * b + j) := by
  rw [show (26 : Int32) = nI 26 from rfl, show (4 : Int32) = nI 4 from rfl, pk_mul, nI_add, nI_add]
theorem px_i90 (b j : Nat) : ((90 : Int32) + ((9 : Int32) * nI b)) + nI j = nI (90 + 9 * b + j) := by
  rw [show (90 : Int32) = nI 90 from rfl, show (9 : Int32) = nI 9 from rfl, pk_mul, nI_add, nI_add]
theorem m6_ofBerth {b j : Nat} (hb : b < 16) (hj : j < 4) (x y : Int32) (hx : x = nI b) (hy : y = nI j) : F_X6_ofBerth x y h = mb_rI (h.1 20 0 0 (26 + 4 * b + j)) h := by
  subst hx; subst hy
  unfold F_X6_ofBerth
  rw [px_i26, px_gB (by omega) (by omega), nI_clamp (by omega)]
theorem m6_ofBoat {b j : Nat} (hb : b < 20) (hj : j < 9) (x y : Int32) (hx : x = nI b) (hy : y = nI j) : F_X6_ofBoat x y h = mb_rI (h.1 20 0 0 (90 + 9 * b + j)) h := by
  subst hx; subst hy
  unfold F_X6_ofBoat
  rw [px_i90, px_gB (by omega) (by omega), nI_clamp (by omega)]
theorem m6_sets {b j : Nat} (hb : b < 20) (hj : j < 9) (x y v : Int32) (hx : x = nI b) (hy : y = nI j) : F_X6_sets x y v h = mb_rV (mb_sI h 20 0 0 (90 + 9 * b + j) v) := by
  subst hx; subst hy
  unfold F_X6_sets
  rw [px_i90, px_gB (by omega) (by omega), nI_clamp (by omega)]
  rfl
/-- the lowest of the numbers 0 .. n of a row's table -/
def sp_low (w : Nat → Int32) : Nat → Int32
  | 0 => w 12
  | n + 1 => if w (12 + (n + 1)) < sp_low w n then w (12 + (n + 1)) else sp_low w n
theorem m6_lowest_loop (hz : mb_W0 (h.1 20 0 0) B K T) : ∀ (m j f : Nat), j + m = T → 1 ≤ j → m < f → B_X6_lowest_10 f (sp_low (h.1 20 0 0) (j - 1)) (nI j) h = mb_rI (sp_low (h.1 20 0 0) (T - 1)) h := by
  obtain ⟨-, -, -, -, h8, hT1, hT2⟩ := hz
  intro m
  induction m with
  | zero =>
    intro j f hj h1 hf
    obtain ⟨f, rfl⟩ : ∃ g, f = g + 1 := ⟨f - 1, by omega⟩
    rw [B_X6_lowest_10]
    simp only [px_cI, px_cIx, px_cV, px_cVx, px_cL, px_cLx, px_cR0, px_cR1, px_cRx, px_lI, px_lL, px_up, px_gZ0, px_gZ1, px_gZb, px_g0, px_g1, px_g2, px_g3, px_g4, px_g5, px_g6, px_g7, px_g8, px_g9, px_g10, px_g11, px_g12, px_g13, px_g14, px_c0, px_c1, px_c2, px_c3, px_c4, px_c5, px_c6, px_c7, px_c8, px_c9, px_c10, px_c11, px_c12, px_c13, px_c14]
    rw [h8, if_pos (nI_le (by omega) (by omega)), show j = T from by omega]
  | succ m ih =>
    intro j f hj h1 hf
    obtain ⟨f, rfl⟩ : ∃ g, f = g + 1 := ⟨f - 1, by omega⟩
    rw [B_X6_lowest_10]
    simp only [px_cI, px_cIx, px_cV, px_cVx, px_cL, px_cLx, px_cR0, px_cR1, px_cRx, px_lI, px_lL, px_up, px_gZ0, px_gZ1, px_gZb, px_g0, px_g1, px_g2, px_g3, px_g4, px_g5, px_g6, px_g7, px_g8, px_g9, px_g10, px_g11, px_g12, px_g13, px_g14, px_c0, px_c1, px_c2, px_c3, px_c4, px_c5, px_c6, px_c7, px_c8, px_c9, px_c10, px_c11, px_c12, px_c13, px_c14]
    rw [h8, if_neg (nI_ge (by omega) (by omega)), show (12 : Int32) + nI j = nI (12 + j) from nI_add 12 j, px_gB (by omega) (by omega), nI_clamp (by omega), nI_1]
    have e : sp_low (h.1 20 0 0) j = if h.1 20 0 0 (12 + j) < sp_low (h.1 20 0 0) (j - 1) then h.1 20 0 0 (12 + j) else sp_low (h.1 20 0 0) (j - 1) := by
      obtain ⟨i, rfl⟩ : ∃ i, j = i + 1 := ⟨j - 1, by omega⟩
      rfl
    have ih2 := ih (j + 1) f (by omega) (by omega) (by omega)
    rw [show j + 1 - 1 = j from rfl, e] at ih2
    by_cases q : h.1 20 0 0 (12 + j) < sp_low (h.1 20 0 0) (j - 1)
    · rw [if_neg (Int32.not_le.mpr q), px_gB (by omega) (by omega)]
      rw [if_pos q] at ih2
      exact ih2
    · rw [if_pos (Int32.not_lt.mp q)]
      rw [if_neg q] at ih2
      exact ih2
theorem m6_lowest (hz : mb_W0 (h.1 20 0 0) B K T) : F_X6_lowest h = mb_rI (sp_low (h.1 20 0 0) (T - 1)) h := by
  unfold F_X6_lowest
  simp only [px_cI, px_cIx, px_cV, px_cVx, px_cL, px_cLx, px_cR0, px_cR1, px_cRx, px_lI, px_lL, px_up, px_gZ0, px_gZ1, px_gZb, px_g0, px_g1, px_g2, px_g3, px_g4, px_g5, px_g6, px_g7, px_g8, px_g9, px_g10, px_g11, px_g12, px_g13, px_g14, px_c0, px_c1, px_c2, px_c3, px_c4, px_c5, px_c6, px_c7, px_c8, px_c9, px_c10, px_c11, px_c12, px_c13, px_c14]
  have := hz.2.2.2.2.2
  exact m6_lowest_loop hz (T - 1) 1 mb_fu (by omega) (by omega) (by unfold mb_fu; omega)
end
