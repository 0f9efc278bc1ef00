/-! ===== pure: the texts ===== -/
def sp_d (t : Nat → Int32) (tl q : Nat) : Bool := decide (q < tl) && (decide (48 ≤ t q) && decide (t q ≤ 57))
def sp_dg (t : Nat → Int32) (tl : Nat) : Nat → Nat → Nat
  | _, 0 => 0
  | q, m + 1 => cond (sp_d t tl q) (sp_dg t tl (q + 1) m + 1) 0
def sp_vl (t : Nat → Int32) : Nat → Nat → Nat → Nat
  | v, _, 0 => v
  | v, q, n + 1 => sp_vl t (10 * v + ((t q).toNatClampNeg - 48)) (q + 1) n
theorem sp_dg_le (t : Nat → Int32) (tl : Nat) : ∀ m q, sp_dg t tl q m ≤ m := by
  intro m
  induction m with
  | zero => intro q; exact Nat.le_refl _
  | succ m ih =>
    intro q
    show cond (sp_d t tl q) (sp_dg t tl (q + 1) m + 1) 0 ≤ m + 1
    have := ih (q + 1)
    cases sp_d t tl q
    · exact Nat.zero_le _
    · exact Nat.succ_le_succ this
theorem sp_dg_d (t : Nat → Int32) (tl : Nat) : ∀ m q i, q ≤ i → i < q + sp_dg t tl q m → sp_d t tl i = true := by
  intro m
  induction m with
  | zero => intro q i h1 h2; have : sp_dg t tl q 0 = 0 := rfl; omega
  | succ m ih =>
    intro q i h1 h2
    have e : sp_dg t tl q (m + 1) = cond (sp_d t tl q) (sp_dg t tl (q + 1) m + 1) 0 := rfl
    rw [e] at h2
    cases hq : sp_d t tl q with
    | false => rw [hq] at h2; exact absurd h2 (by show ¬ i < q + 0; omega)
    | true =>
      rw [hq] at h2
      rcases Nat.eq_or_lt_of_le h1 with rfl | h3
      · exact hq
      · exact ih (q + 1) i h3 (by have : i < q + (sp_dg t tl (q + 1) m + 1) := h2; omega)
theorem sp_dg_tl (t : Nat → Int32) (tl : Nat) {q : Nat} (hq : q ≤ tl) (m : Nat) : q + sp_dg t tl q m ≤ tl := by
  rcases Nat.eq_zero_or_pos (sp_dg t tl q m) with z | z
  · omega
  · have := sp_dg_d t tl m q (q + sp_dg t tl q m - 1) (by omega) (by omega)
    unfold sp_d at this
    rw [Bool.and_eq_true, decide_eq_true_iff] at this
    omega
def mb_cd (t : Nat → Int32) (tl : Nat) : Prop := ∀ k, k < tl → ∃ c : Nat, t k = nI c ∧ 32 ≤ c ∧ c ≤ 126
theorem sp_d_c {t : Nat → Int32} {tl q : Nat} (hc : mb_cd t tl) (h : sp_d t tl q = true) : q < tl ∧ ∃ c : Nat, t q = nI c ∧ 48 ≤ c ∧ c ≤ 57 := by
  unfold sp_d at h
  rw [Bool.and_eq_true, Bool.and_eq_true, decide_eq_true_iff, decide_eq_true_iff, decide_eq_true_iff] at h
  obtain ⟨c, e, l, u⟩ := hc q h.1
  refine ⟨h.1, c, e, ?_, ?_⟩
  · have := h.2.1
    rw [e] at this
    exact (nI_leI (a := 48) (by decide) (by omega)).mp this
  · have := h.2.2
    rw [e] at this
    exact (nI_leI (b := 57) (by omega) (by decide)).mp this
theorem sp_vl_le {t : Nat → Int32} {tl : Nat} (hc : mb_cd t tl) : ∀ n v q, (∀ i, q ≤ i → i < q + n → sp_d t tl i = true) → sp_vl t v q n + 1 ≤ (v + 1) * 10 ^ n := by
  intro n
  induction n with
  | zero => intro v q _; show v + 1 ≤ (v + 1) * 1; omega
  | succ n ih =>
    intro v q h
    obtain ⟨-, c, e, l, u⟩ := sp_d_c hc (h q (Nat.le_refl _) (by omega))
    have := ih (10 * v + ((t q).toNatClampNeg - 48)) (q + 1) (fun i h1 h2 => h i (by omega) (by omega))
    show sp_vl t (10 * v + ((t q).toNatClampNeg - 48)) (q + 1) n + 1 ≤ _
    refine Nat.le_trans this ?_
    rw [e, nI_clamp (by omega), Nat.pow_succ, Nat.mul_comm (10 ^ n) 10, ← Nat.mul_assoc]
    exact Nat.mul_le_mul_right _ (by omega)
section
variable {h g : mb_AH} {t : Nat → Int32} {tl : Nat}
def mb_t5 (h : mb_AH) (t : Nat → Int32) (tl : Nat) : Prop := h.1 5 0 0 1 = nI tl ∧ tl ≤ 70 ∧ ∀ k, k < tl → h.1 16 0 0 k = t k
def mb_t6 (h : mb_AH) (t : Nat → Int32) (tl : Nat) : Prop := h.1 6 0 0 6 = nI tl ∧ tl ≤ 70 ∧ ∀ k, k < tl → h.1 23 0 0 k = t k
theorem c3_isAt (h5 : mb_t5 h t tl) {q : Nat} (hq : q < 2 ^ 31) (y : Int32) : F_X3_isAt (nI q) y h = mb_rI (mb_b (decide (q < tl) && decide (t q = y))) h := by
  obtain ⟨h1, h2, h3⟩ := h5
  unfold F_X3_isAt
  rw [h1]
  by_cases z : q < tl
  · rw [if_neg (nI_ge z (by omega)), decide_eq_true z, px_gB (show q < 70 by omega) (by decide), nI_clamp (by omega), h3 q z]
    by_cases z2 : t q = y
    · rw [if_pos z2, decide_eq_true z2]; rfl
    · rw [if_neg z2, decide_eq_false z2]; rfl
  · rw [if_pos (nI_le (by omega) hq), decide_eq_false z]; rfl
theorem c3_end_loop (h5 : mb_t5 h t tl) {a : Nat} (ha : a < 1000) : ∀ (m q f : Nat), q + m = a + 3 → m < f → B_X3_endOfDigits_2 f (nI a) (nI q) h = mb_rI (nI (q + sp_dg t tl q m)) h := by
  obtain ⟨h1, h2, h3⟩ := h5
  have e3 : nI a + (3 : Int32) = nI (a + 3) := nI_add a 3
  intro m
  induction m with
  | zero =>
    intro q f hq hf
    obtain ⟨f, rfl⟩ : ∃ g, f = g + 1 := ⟨f - 1, by omega⟩
    rw [B_X3_endOfDigits_2, e3, if_pos (nI_le (by omega) (by omega))]
    rfl
  | succ m ih =>
    intro q f hq hf
    obtain ⟨f, rfl⟩ : ∃ g, f = g + 1 := ⟨f - 1, by omega⟩
    have es : sp_dg t tl q (m + 1) = cond (sp_d t tl q) (sp_dg t tl (q + 1) m + 1) 0 := rfl
    rw [B_X3_endOfDigits_2, e3, if_neg (nI_ge (by omega) (by omega)), h1, es]
    unfold sp_d
    by_cases z : q < tl
    · rw [if_neg (nI_ge z (by omega)), decide_eq_true z, px_gB (show q < 70 by omega) (by decide), px_gB (show q < 70 by omega) (by decide), nI_clamp (by omega), h3 q z]
      by_cases z2 : t q < 48
      · rw [if_pos z2, decide_eq_false (Int32.not_le.mpr z2)]; rfl
      · rw [if_neg z2, decide_eq_true (Int32.not_lt.mp z2)]
        by_cases z3 : 57 < t q
        · rw [if_pos z3, decide_eq_false (Int32.not_le.mpr z3)]; rfl
        · rw [if_neg z3, decide_eq_true (Int32.not_lt.mp z3)]
          simp only [px_cI, px_cIx, px_cV, px_cVx, px_cL, px_cLx, px_cR0, px_cR1, px_cRx, px_lI, px_lL, px_up, px_gZ0, px_gZ1, px_gZb, px_g0, px_g1, px_g2, px_g3, px_g4, px_g5, px_g6, px_g7, px_g8, px_g9, px_g10, px_g11, px_g12, px_g13, px_g14, px_c0, px_c1, px_c2, px_c3, px_c4, px_c5, px_c6, px_c7, px_c8, px_c9, px_c10, px_c11, px_c12, px_c13, px_c14, nI_1]
          rw [ih (q + 1) f (by omega) (by omega)]
          show mb_rI (nI (q + 1 + sp_dg t tl (q + 1) m)) h = mb_rI (nI (q + (sp_dg t tl (q + 1) m + 1))) h
          rw [show q + 1 + sp_dg t tl (q + 1) m = q + (sp_dg t tl (q + 1) m + 1) by omega]
    · rw [if_pos (nI_le (by omega) (by omega)), decide_eq_false z]; rfl
theorem px_dig {v c : Nat} (hc : 48 ≤ c) : ((10 : Int32) * nI v) + (nI c - 48) = nI (10 * v + (c - 48)) ∧ (((10 : Int32) * nI v) + nI c) - 48 = nI (10 * v + (c - 48)) := by
  have e10 : (10 : Int32) * nI v = nI (10 * v) := pk_mul 10 v
  constructor
  · rw [e10, show nI c - 48 = nI (c - 48) from px_sb (b := 48) hc, nI_add]
  · rw [e10, nI_add, show nI (10 * v + c) - 48 = nI (10 * v + c - 48) from px_sb (b := 48) (by omega), show 10 * v + c - 48 = 10 * v + (c - 48) by omega]
theorem c3_val_loop (h5 : mb_t5 h t tl) (hc : mb_cd t tl) {e : Nat} : ∀ (n q v f : Nat), q + n = e → (∀ i, q ≤ i → i < q + n → sp_d t tl i = true) → e ≤ 70 → n < f → B_X3_valueOf_5 f (nI e) (nI v) (nI q) h = mb_rI (nI (sp_vl t v q n)) h := by
  obtain ⟨h1, h2, h3⟩ := h5
  intro n
  induction n with
  | zero =>
    intro q v f hq _ he hf
    obtain ⟨f, rfl⟩ : ∃ g, f = g + 1 := ⟨f - 1, by omega⟩
    rw [B_X3_valueOf_5, if_pos (nI_le (by omega) (by omega))]
    rfl
  | succ n ih =>
    intro q v f hq hd he hf
    obtain ⟨f, rfl⟩ : ∃ g, f = g + 1 := ⟨f - 1, by omega⟩
    obtain ⟨lq, c, ec, l, u⟩ := sp_d_c hc (hd q (Nat.le_refl _) (by omega))
    rw [B_X3_valueOf_5, if_neg (nI_ge (by omega) (by omega)), px_gB (show q < 70 by omega) (by decide), nI_clamp (by omega), h3 q lq, ec, (px_dig l).1]
    simp only [px_cI, px_cIx, px_cV, px_cVx, px_cL, px_cLx, px_cR0, px_cR1, px_cRx, px_lI, px_lL, px_up, px_gZ0, px_gZ1, px_gZb, px_g0, px_g1, px_g2, px_g3, px_g4, px_g5, px_g6, px_g7, px_g8, px_g9, px_g10, px_g11, px_g12, px_g13, px_g14, px_c0, px_c1, px_c2, px_c3, px_c4, px_c5, px_c6, px_c7, px_c8, px_c9, px_c10, px_c11, px_c12, px_c13, px_c14, nI_1]
    rw [ih (q + 1) _ f (by omega) (fun i h1 h2 => hd i (by omega) (by omega)) he (by omega)]
    show mb_rI (nI (sp_vl t (10 * v + (c - 48)) (q + 1) n)) h = mb_rI (nI (sp_vl t (10 * v + ((t q).toNatClampNeg - 48)) (q + 1) n)) h
    rw [ec, nI_clamp (by omega)]
/-- the number that begins at a text's place: where its digits begin, how many they are, its value -/
def sp_na (t : Nat → Int32) (tl q : Nat) : Nat := cond (decide (q < tl) && decide (t q = 45)) (q + 1) q
def sp_nn (t : Nat → Int32) (tl q : Nat) : Nat := sp_dg t tl (sp_na t tl q) 3
def sp_nv (t : Nat → Int32) (tl q : Nat) : Nat := sp_vl t 0 (sp_na t tl q) (sp_nn t tl q)
def sp_nx (t : Nat → Int32) (tl q : Nat) : Int32 := cond (decide (q < tl) && decide (t q = 45)) (-(nI (sp_nv t tl q))) (nI (sp_nv t tl q))
def sp_nz (q vv : Nat) (o : Option Nat) : Option Nat := if vv ≤ 300 then o else match o with
  | none => some q
  | some i => some i
def sp_no (t : Nat → Int32) (tl q : Nat) (o : Option Nat) : Option Nat := sp_nz q (sp_nv t tl q) o
theorem sp_na_le {q : Nat} (hq : q ≤ tl) : q ≤ sp_na t tl q ∧ sp_na t tl q ≤ q + 1 ∧ sp_na t tl q ≤ tl := by
  unfold sp_na
  by_cases z : q < tl
  · cases (decide (q < tl) && decide (t q = 45))
    · show q ≤ q ∧ q ≤ q + 1 ∧ q ≤ tl; omega
    · show q ≤ q + 1 ∧ q + 1 ≤ q + 1 ∧ q + 1 ≤ tl; omega
  · rw [decide_eq_false z]
    show q ≤ q ∧ q ≤ q + 1 ∧ q ≤ tl; omega
theorem sp_nv_lt (hc : mb_cd t tl) (q : Nat) : sp_nv t tl q < 1000 := by
  have h1 := sp_dg_le t tl 3 (sp_na t tl q)
  have h2 := sp_vl_le hc (sp_nn t tl q) 0 (sp_na t tl q) (fun i a b => sp_dg_d t tl 3 _ i a b)
  unfold sp_nv
  unfold sp_nn at h2 ⊢
  have h3 : (10 : Nat) ^ (sp_dg t tl (sp_na t tl q) 3) ≤ 10 ^ 3 := Nat.pow_le_pow_right (by decide) h1
  omega
/-- only scratch of the texts has changed -/
def mb_Ft (h g : mb_AH) : Prop := (∀ k, k ≠ 5 → k ≠ 6 → k ≠ 17 → k ≠ 27 → g.1 k = h.1 k) ∧ g.2 = h.2 ∧ (∀ j, j ≠ 3 → g.1 5 0 0 j = h.1 5 0 0 j) ∧ ∀ j, j < 10 ∨ 14 ≤ j → g.1 6 0 0 j = h.1 6 0 0 j
theorem mb_Ft.rf (h : mb_AH) : mb_Ft h h := ⟨fun _ _ _ _ _ => rfl, rfl, fun _ _ => rfl, fun _ _ => rfl⟩
theorem mb_Ft.tr {f : mb_AH} (a : mb_Ft h g) (b : mb_Ft g f) : mb_Ft h f := ⟨fun k h1 h2 h3 h4 => (b.1 k h1 h2 h3 h4).trans (a.1 k h1 h2 h3 h4), b.2.1.trans a.2.1, fun j hj => (b.2.2.1 j hj).trans (a.2.2.1 j hj), fun j hj => (b.2.2.2 j hj).trans (a.2.2.2 j hj)⟩
theorem mb_Ft.w6 (h : mb_AH) {j : Nat} (hj : 10 ≤ j ∧ j < 14) (x : Int32) : mb_Ft h (mb_sI h 6 0 0 j x) := ⟨fun k h1 h2 h3 h4 => mb_sI_o _ _ _ _ _ _ h2, rfl, fun j _ => by rw [mb_sI_o _ _ _ _ _ _ (by decide)], fun j2 hj2 => mb_sI_j _ _ _ _ _ _ (by omega) _ _ _⟩
theorem mb_Ft.w5 (h : mb_AH) (x : Int32) : mb_Ft h (mb_sI h 5 0 0 3 x) := ⟨fun k h1 h2 h3 h4 => mb_sI_o _ _ _ _ _ _ h1, rfl, fun j hj => mb_sI_j _ _ _ _ _ _ hj _ _ _, fun j2 hj2 => by rw [mb_sI_o _ _ _ _ _ _ (by decide)]⟩
theorem mb_Ft.w17 (h : mb_AH) (j : Nat) (x : Int32) : mb_Ft h (mb_sI h 17 0 0 j x) := ⟨fun k h1 h2 h3 h4 => mb_sI_o _ _ _ _ _ _ h3, rfl, fun j _ => by rw [mb_sI_o _ _ _ _ _ _ (by decide)], fun j2 hj2 => by rw [mb_sI_o _ _ _ _ _ _ (by decide)]⟩
theorem mb_Ft.w27 (h : mb_AH) (j : Nat) (x : Int32) : mb_Ft h (mb_sI h 27 0 0 j x) := ⟨fun k h1 h2 h3 h4 => mb_sI_o _ _ _ _ _ _ h4, rfl, fun j _ => by rw [mb_sI_o _ _ _ _ _ _ (by decide)], fun j2 hj2 => by rw [mb_sI_o _ _ _ _ _ _ (by decide)]⟩
theorem mb_t5.ft (a : mb_t5 h t tl) (f : mb_Ft h g) : mb_t5 g t tl := ⟨by rw [f.2.2.1 1 (by decide)]; exact a.1, a.2.1, fun k hk => by rw [f.1 16 (by decide) (by decide) (by decide) (by decide)]; exact a.2.2 k hk⟩
theorem mb_t6.ft (a : mb_t6 h t tl) (f : mb_Ft h g) : mb_t6 g t tl := ⟨by rw [f.2.2.2 6 (by decide)]; exact a.1, a.2.1, fun k hk => by rw [f.1 23 (by decide) (by decide) (by decide) (by decide)]; exact a.2.2 k hk⟩
theorem m6_next (h6 : mb_t6 h t tl) {q : Nat} (hq : q < 2 ^ 31) (e : h.1 6 0 0 10 = nI q) : F_X6_next h = mb_rI (if q < tl then t q else 0) h := by
  obtain ⟨h1, h2, h3⟩ := h6
  unfold F_X6_next
  rw [h1, e]
  by_cases z : q < tl
  · rw [if_neg (nI_ge z (by omega)), if_pos z, px_gB (show q < 70 by omega) (by decide), nI_clamp (by omega), h3 q z]
  · rw [if_pos (nI_le (by omega) hq), if_neg z]
theorem m6_takes (h6 : mb_t6 h t tl) {q : Nat} (hq : q < 2 ^ 31) (e : h.1 6 0 0 10 = nI q) (ew : h.1 6 0 0 11 = -1) {lo hi : Int32} (hlo : 0 < lo) : F_X6_takes lo hi h = if (decide (q < tl) && (decide (lo ≤ t q) && decide (t q ≤ hi))) = true then mb_rI (t q) (mb_sI h 6 0 0 10 (nI (q + 1))) else mb_rI lo (mb_sI h 6 0 0 11 (nI q)) := by
  have hn := m6_next h6 hq e
  obtain ⟨h1, h2, h3⟩ := h6
  unfold F_X6_takes B_X6_takes_20 B_X6_takes_40
  rw [if_pos ew, hn]
  simp only [px_cI, px_cIx, px_cV, px_cVx, px_cL, px_cLx, px_cR0, px_cR1, px_cRx, px_lI, px_lL, px_up, px_gZ0, px_gZ1, px_gZb, px_g0, px_g1, px_g2, px_g3, px_g4, px_g5, px_g6, px_g7, px_g8, px_g9, px_g10, px_g11, px_g12, px_g13, px_g14, px_c0, px_c1, px_c2, px_c3, px_c4, px_c5, px_c6, px_c7, px_c8, px_c9, px_c10, px_c11, px_c12, px_c13, px_c14]
  rw [m6_within]
  simp only [px_cI, px_cIx, px_cV, px_cVx, px_cL, px_cLx, px_cR0, px_cR1, px_cRx, px_lI, px_lL, px_up, px_gZ0, px_gZ1, px_gZb, px_g0, px_g1, px_g2, px_g3, px_g4, px_g5, px_g6, px_g7, px_g8, px_g9, px_g10, px_g11, px_g12, px_g13, px_g14, px_c0, px_c1, px_c2, px_c3, px_c4, px_c5, px_c6, px_c7, px_c8, px_c9, px_c10, px_c11, px_c12, px_c13, px_c14]
  rw [if_pos ew, e]
  by_cases z : q < tl
  · rw [if_pos z, decide_eq_true z, Bool.true_and]
    cases (decide (lo ≤ t q) && decide (t q ≤ hi)) with
    | false => rw [if_pos (by rfl), if_neg (by decide)]
    | true =>
      rw [if_neg (by decide), if_pos rfl, nI_1, mb_sI_s, px_nIm (q + 1) (by omega), Nat.add_sub_cancel, px_gB (show q < 70 by omega) (by decide), nI_clamp (by omega), mb_sI_o _ _ _ _ _ _ (by decide), h3 q z]
  · rw [if_neg z, decide_eq_false z, Bool.false_and, decide_eq_false (Int32.not_le.mpr hlo), Bool.false_and, if_pos (by rfl), if_neg (by decide)]
end
