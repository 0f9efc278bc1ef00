/-! ===== pure: greatestClearance, checksum ===== -/
def sp_all (P : Nat → Bool) : Nat → Nat → Bool
  | _, 0 => true
  | j, m + 1 => P j && sp_all P (j + 1) m
theorem sp_all_iff (P : Nat → Bool) : ∀ (m j : Nat), sp_all P j m = true ↔ ∀ k, j ≤ k → k < j + m → P k = true := by
  intro m
  induction m with
  | zero => intro j; exact ⟨fun _ k h1 h2 => by omega, fun _ => rfl⟩
  | succ m ih =>
    intro j
    show (P j && sp_all P (j + 1) m) = true ↔ _
    rw [Bool.and_eq_true, ih]
    constructor
    · rintro ⟨h1, h2⟩ k h3 h4
      by_cases q : k = j
      · subst q; exact h1
      · exact h2 k (by omega) (by omega)
    · intro h
      exact ⟨h j (Nat.le_refl _) (by omega), fun k h1 h2 => h k (by omega) (by omega)⟩
theorem px_ad (a b : Int32) (h1 : -2147483648 ≤ a.toInt + b.toInt) (h2 : a.toInt + b.toInt < 2147483648) : (a + b).toInt = a.toInt + b.toInt := by
  rw [Int32.toInt_add]
  exact Int.bmod_eq_of_le (by omega) (by omega)
theorem px_su (a b : Int32) (h1 : -2147483648 ≤ a.toInt - b.toInt) (h2 : a.toInt - b.toInt < 2147483648) : (a - b).toInt = a.toInt - b.toInt := by
  rw [Int32.toInt_sub]
  exact Int.bmod_eq_of_le (by omega) (by omega)
section
variable {h g : mb_AH} {w : Nat → Int32} {B K T D U n o : Nat}
theorem sp_low_in (hw : mb_W w B K T D U) : -300 ≤ (sp_low w (T - 1)).toInt ∧ (sp_low w (T - 1)).toInt ≤ 300 := by
  have l := hw.2.2.2.2.2.2.2.1
  have key : ∀ m, m < T → -300 ≤ (sp_low w m).toInt ∧ (sp_low w m).toInt ≤ 300 := by
    intro m
    induction m with
    | zero => intro hm; exact l 0 hm
    | succ m ih =>
      intro hm
      show -300 ≤ (if w (12 + (m + 1)) < sp_low w m then w (12 + (m + 1)) else sp_low w m).toInt ∧ (if w (12 + (m + 1)) < sp_low w m then w (12 + (m + 1)) else sp_low w m).toInt ≤ 300
      by_cases q : w (12 + (m + 1)) < sp_low w m
      · rw [if_pos q]; exact l (m + 1) hm
      · rw [if_neg q]; exact ih (by omega)
  have := hw.T1
  exact key (T - 1) (by omega)
/-- the clearance with which boat k would just fit -/
def sp_cl (w : Nat → Int32) (T k : Nat) : Int := (bt w (bo w k 4).toNatClampNeg 0).toInt + (sp_low w (T - 1)).toInt - (bo w k 1).toInt
theorem sp_cl_in (hw : mb_W w B K T D U) {k b : Nat} (hk : k < K) (hb : b < B) (h4 : bo w k 4 = nI b) : (bt w b 0 + sp_low w (T - 1) - bo w k 1).toInt = sp_cl w T k ∧ -1000 ≤ sp_cl w T k ∧ sp_cl w T k ≤ 2000 := by
  have hB := hw.B16
  obtain ⟨l1, l2⟩ := sp_low_in hw
  obtain ⟨a, b9, c, o9, -, -, -, e1, u1, u2, -⟩ := (hw.boat hk).2.2.2
  obtain ⟨x, y, z, e2, u3, u4, -⟩ := hw.berth hb
  unfold sp_cl
  rw [h4, nI_clamp (by omega), e1, e2, nI_toInt (by omega), nI_toInt (by omega)]
  have x1 : (nI x + sp_low w (T - 1)).toInt = (x : Int) + (sp_low w (T - 1)).toInt := by
    rw [px_ad _ _ (by rw [nI_toInt (by omega)]; omega) (by rw [nI_toInt (by omega)]; omega), nI_toInt (by omega)]
  refine ⟨?_, by omega, by omega⟩
  rw [px_su _ _ (by rw [x1, nI_toInt (by omega)]; omega) (by rw [x1, nI_toInt (by omega)]; omega), x1, nI_toInt (by omega)]
theorem c2_cl_loop (r : mb_RM h o w B K T) (hw : mb_W w B K T D U) : ∀ (m j f : Nat) (v : Int32), v.toInt ≤ 100 → j + m = K → m < f → ∃ u : Int32, B_X2_clearanceForAll_5 f o v (nI j) h = (if 0 ≤ u then mb_rI u h else mb_rI (-1) h) ∧ u.toInt ≤ 100 ∧ ∀ c : Int, c ≤ u.toInt ↔ (c ≤ v.toInt ∧ ∀ k, j ≤ k → k < K → bo w k 3 = 1 → c ≤ sp_cl w T k) := by
  have h7 := hw.w7; have hK := hw.K20; have hB := hw.B16
  intro m
  induction m with
  | zero =>
    intro j f v hv hj hf
    obtain ⟨f, rfl⟩ : ∃ g, f = g + 1 := ⟨f - 1, by omega⟩
    refine ⟨v, ?_, hv, fun c => ⟨fun z => ⟨z, fun k h1 h2 => by omega⟩, fun z => z.1⟩⟩
    rw [B_X2_clearanceForAll_5, r.f7, h7, if_pos (nI_le (by omega) (by omega))]
  | succ m ih =>
    intro j f v hv hj hf
    obtain ⟨f, rfl⟩ : ∃ g, f = g + 1 := ⟨f - 1, by omega⟩
    have hjK : j < K := by omega
    rcases (hw.boat hjK).1 with ⟨h3, b, hb, h4⟩ | ⟨h3, h4⟩
    · obtain ⟨e1, e2, e3⟩ := sp_cl_in hw hjK hb h4
      obtain ⟨u, p1, p2, p3⟩ := ih (j + 1) f (if (bt w b 0 + sp_low w (T - 1)) - bo w j 1 < v then (bt w b 0 + sp_low w (T - 1)) - bo w j 1 else v) (by
        by_cases z : (bt w b 0 + sp_low w (T - 1)) - bo w j 1 < v
        · rw [if_pos z]; rw [Int32.lt_iff_toInt_lt] at z; omega
        · rw [if_neg z]; exact hv) (by omega) (by omega)
      refine ⟨u, ?_, p2, fun c => ?_⟩
      · rw [B_X2_clearanceForAll_5, r.f7, h7, if_neg (nI_ge (by omega) (by omega)), px_gB (show j < 20 by omega) (by decide), nI_clamp (by omega), c2_berthOf1 r hw hjK hb h4]
        simp only [px_cI, px_cIx, px_cV, px_cVx, px_cL, px_cLx, px_cR0, px_cR1, px_cRx, px_lI, px_lL, px_up, px_gZ0, px_gZ1, px_gZb, px_g0, px_g1, px_g2, px_g3, px_g4, px_g5, px_g6, px_g7, px_g8, px_g9, px_g10, px_g11, px_g12, px_g13, px_g14, px_c0, px_c1, px_c2, px_c3, px_c4, px_c5, px_c6, px_c7, px_c8, px_c9, px_c10, px_c11, px_c12, px_c13, px_c14, nI_1]
        rw [px_gB (show j < 20 by omega) (by decide), (r.t hb).1, r.low, (r.q hjK).2.1]
        exact p1
      · rw [p3 c]
        have hmin : c ≤ (if (bt w b 0 + sp_low w (T - 1)) - bo w j 1 < v then (bt w b 0 + sp_low w (T - 1)) - bo w j 1 else v).toInt ↔ (c ≤ v.toInt ∧ c ≤ sp_cl w T j) := by
          by_cases z : (bt w b 0 + sp_low w (T - 1)) - bo w j 1 < v
          · rw [if_pos z]; rw [Int32.lt_iff_toInt_lt] at z; omega
          · rw [if_neg z]; rw [Int32.lt_iff_toInt_lt] at z; omega
        rw [hmin]
        constructor
        · rintro ⟨⟨z1, z2⟩, z3⟩
          refine ⟨z1, fun k h1 h2 k3 => ?_⟩
          by_cases q : k = j
          · subst q; exact z2
          · exact z3 k (by omega) h2 k3
        · rintro ⟨z1, z2⟩
          exact ⟨⟨z1, z2 j (Nat.le_refl _) hjK h3⟩, fun k h1 h2 k3 => z2 k (by omega) h2 k3⟩
    · obtain ⟨u, p1, p2, p3⟩ := ih (j + 1) f v hv (by omega) (by omega)
      refine ⟨u, ?_, p2, fun c => ?_⟩
      · rw [B_X2_clearanceForAll_5, r.f7, h7, if_neg (nI_ge (by omega) (by omega)), px_gB (show j < 20 by omega) (by decide), nI_clamp (by omega), c2_berthOf0 r hjK h4]
        simp only [px_cI, px_cIx, px_cV, px_cVx, px_cL, px_cLx, px_cR0, px_cR1, px_cRx, px_lI, px_lL, px_up, px_gZ0, px_gZ1, px_gZb, px_g0, px_g1, px_g2, px_g3, px_g4, px_g5, px_g6, px_g7, px_g8, px_g9, px_g10, px_g11, px_g12, px_g13, px_g14, px_c0, px_c1, px_c2, px_c3, px_c4, px_c5, px_c6, px_c7, px_c8, px_c9, px_c10, px_c11, px_c12, px_c13, px_c14, nI_1]
        exact p1
      · rw [p3 c]
        refine ⟨fun z => ⟨z.1, fun k h1 h2 k3 => ?_⟩, fun z => ⟨z.1, fun k h1 h2 k3 => z.2 k (by omega) h2 k3⟩⟩
        by_cases q : k = j
        · subst q; exact absurd k3 (sp_ne1 h3)
        · exact z.2 k (by omega) h2 k3
theorem mb_sI_sI (h : mb_AH) (k a b j : Nat) (x y : Int32) : mb_sI (mb_sI h k a b j x) k a b j y = mb_sI h k a b j y := by
  refine Prod.ext ?_ rfl
  funext k2 a2 b2 j2
  show (if k2 = k ∧ a2 = a ∧ b2 = b ∧ j2 = j then y else if k2 = k ∧ a2 = a ∧ b2 = b ∧ j2 = j then x else h.1 k2 a2 b2 j2) = if k2 = k ∧ a2 = a ∧ b2 = b ∧ j2 = j then y else h.1 k2 a2 b2 j2
  by_cases q : k2 = k ∧ a2 = a ∧ b2 = b ∧ j2 = j
  · rw [if_pos q, if_pos q]
  · rw [if_neg q, if_neg q, if_neg q]
theorem mb_sI_id (h : mb_AH) (k a b j : Nat) : mb_sI h k a b j (h.1 k a b j) = h := by
  refine Prod.ext ?_ rfl
  funext k2 a2 b2 j2
  show (if k2 = k ∧ a2 = a ∧ b2 = b ∧ j2 = j then h.1 k a b j else h.1 k2 a2 b2 j2) = h.1 k2 a2 b2 j2
  by_cases q : k2 = k ∧ a2 = a ∧ b2 = b ∧ j2 = j
  · rw [if_pos q]
    obtain ⟨rfl, rfl, rfl, rfl⟩ := q
    rfl
  · rw [if_neg q]
theorem m6_gc_in (hz : mb_W0 (h.1 20 0 0) B K T) (ha : ∀ k, k < K → mb_at9 (h.1 20 0 0) B k) (K16 : Int32 → Int32 → Int32 → mb_AH → Option mb_RS) (v1 v2 v3 : Int32) : ∀ (m j f : Nat) (p : Bool), j + m = K → m < f → B_X6_greatestClearance_35 K16 f v1 v2 v3 (mb_b p) (nI j) h = if (p && sp_all (sp_here (h.1 20 0 0) T) j m) = true then K16 v1 v3 (v3 + 1) h else K16 v1 v2 (v3 + 1) h := by
  have hz2 := hz
  obtain ⟨-, hB, h7, hK, -⟩ := hz
  intro m
  induction m with
  | zero =>
    intro j f p hj hf
    obtain ⟨f, rfl⟩ : ∃ g, f = g + 1 := ⟨f - 1, by omega⟩
    rw [B_X6_greatestClearance_35]
    simp only [px_cI, px_cIx, px_cV, px_cVx, px_cL, px_cLx, px_cR0, px_cR1, px_cRx, px_lI, px_lL, px_up, px_gZ0, px_gZ1, px_gZb, px_g0, px_g1, px_g2, px_g3, px_g4, px_g5, px_g6, px_g7, px_g8, px_g9, px_g10, px_g11, px_g12, px_g13, px_g14, px_c0, px_c1, px_c2, px_c3, px_c4, px_c5, px_c6, px_c7, px_c8, px_c9, px_c10, px_c11, px_c12, px_c13, px_c14]
    rw [h7, if_pos (nI_le (by omega) (by omega))]
    cases p with
    | false => rfl
    | true => rfl
  | succ m ih =>
    intro j f p hj hf
    obtain ⟨f, rfl⟩ : ∃ g, f = g + 1 := ⟨f - 1, by omega⟩
    have hj20 : j < 20 := by omega
    have i0 := ih (j + 1) f false (by omega) (by omega)
    have i1 := ih (j + 1) f true (by omega) (by omega)
    rw [B_X6_greatestClearance_35]
    simp only [px_cI, px_cIx, px_cV, px_cVx, px_cL, px_cLx, px_cR0, px_cR1, px_cRx, px_lI, px_lL, px_up, px_gZ0, px_gZ1, px_gZb, px_g0, px_g1, px_g2, px_g3, px_g4, px_g5, px_g6, px_g7, px_g8, px_g9, px_g10, px_g11, px_g12, px_g13, px_g14, px_c0, px_c1, px_c2, px_c3, px_c4, px_c5, px_c6, px_c7, px_c8, px_c9, px_c10, px_c11, px_c12, px_c13, px_c14, m6_oB hj20 (j := 3) (by decide) (y := 3) rfl, m6_oB hj20 (j := 4) (by decide) (y := 4) rfl, nI_1]
    rw [h7, if_neg (nI_ge (by omega) (by omega))]
    have es : sp_all (sp_here (h.1 20 0 0) T) j (m + 1) = (sp_here (h.1 20 0 0) T j && sp_all (sp_here (h.1 20 0 0) T) (j + 1) m) := rfl
    rw [es]
    cases p with
    | false => rw [if_pos (by rfl)]; exact i0
    | true =>
      rw [if_neg (by decide)]
      rcases ha j (by omega) with ⟨h3, b, hb, h4⟩ | ⟨h3, h4⟩
      · have eh : sp_here (h.1 20 0 0) T j = sp_fit (h.1 20 0 0) T j b := by
          unfold sp_here
          rw [decide_eq_true h3, h4, nI_clamp (by omega)]; rfl
        rw [if_pos h3, h4, m6_isFit hz2 hj20 (show b < 16 by omega), eh]
        simp only [px_cI, px_cIx, px_cV, px_cVx, px_cL, px_cLx, px_cR0, px_cR1, px_cRx, px_lI, px_lL, px_up, px_gZ0, px_gZ1, px_gZb, px_g0, px_g1, px_g2, px_g3, px_g4, px_g5, px_g6, px_g7, px_g8, px_g9, px_g10, px_g11, px_g12, px_g13, px_g14, px_c0, px_c1, px_c2, px_c3, px_c4, px_c5, px_c6, px_c7, px_c8, px_c9, px_c10, px_c11, px_c12, px_c13, px_c14]
        cases sp_fit (h.1 20 0 0) T j b with
        | false => rw [if_pos (by rfl)]; exact i0
        | true => rw [if_neg (by decide)]; exact i1
      · have eh : sp_here (h.1 20 0 0) T j = true := by
          unfold sp_here
          rw [decide_eq_false (sp_ne1 h3)]; rfl
        rw [if_neg (sp_ne1 h3), eh]
        exact i1
theorem sp_here_c (hw : mb_W w B K T D U) (hH : mb_H w K) {v : Nat → Int32} {c : Nat} (hc : c ≤ 100) (e : ∀ j, j ≠ 0 → v j = w j) (e0 : v 0 = nI c) : sp_all (sp_here v T) 0 K = true ↔ ∀ k, k < K → bo w k 3 = 1 → (c : Int) ≤ sp_cl w T k := by
  have hB := hw.B16; have hT := hw.T14; have hT1 := hw.T1
  have elow : sp_low v (T - 1) = sp_low w (T - 1) := sp_low_cg2 (fun j h1 h2 => e j (by omega)) _ (by omega)
  have eo : ∀ k j, bo v k j = bo w k j := fun k j => e _ (by omega)
  have et : ∀ k j, bt v k j = bt w k j := fun k j => e _ (by omega)
  rw [sp_all_iff]
  have key : ∀ k, k < K → (sp_here v T k = true ↔ (bo w k 3 = 1 → (c : Int) ≤ sp_cl w T k)) := by
    intro k hk
    unfold sp_here sp_fit
    rw [eo, eo, eo, eo, et, et, elow, e0]
    rcases (hw.boat hk).1 with ⟨h3, b, hb, h4⟩ | ⟨h3, h4⟩
    · obtain ⟨l1, l2⟩ := sp_low_in hw
      obtain ⟨a, b9, c9, o9, -, -, -, e1, u1, u2, -⟩ := (hw.boat hk).2.2.2
      obtain ⟨x, y, z, e2, u3, u4, -⟩ := hw.berth hb
      have hl := (hH k hk).2.2 h3
      rw [decide_eq_true h3, decide_eq_true hl]
      unfold sp_cl
      rw [h4, nI_clamp (by omega), e1, e2, nI_add]
      have x1 : (nI (b9 + c) - nI x).toInt = (b9 : Int) + c - x := by
        rw [px_su _ _ (by rw [nI_toInt (by omega), nI_toInt (by omega)]; omega) (by rw [nI_toInt (by omega), nI_toInt (by omega)]; omega), nI_toInt (by omega), nI_toInt (by omega)]
        omega
      have x2 : (nI (b9 + c) - nI x - sp_low w (T - 1)).toInt = (b9 : Int) + c - x - (sp_low w (T - 1)).toInt := by
        rw [px_su _ _ (by rw [x1]; omega) (by rw [x1]; omega), x1]
      rw [Bool.not_true, Bool.false_or, Bool.true_and, decide_eq_true_iff, Int32.le_iff_toInt_le, x2, nI_toInt (by omega), nI_toInt (by omega), show (0 : Int32).toInt = 0 by decide]
      constructor
      · intro z1 _; omega
      · intro z1; have := z1 h3; omega
    · rw [decide_eq_false (sp_ne1 h3)]
      exact ⟨fun _ z => absurd z (sp_ne1 h3), fun _ => rfl⟩
  constructor
  · intro z k hk; exact (key k hk).mp (z k (Nat.zero_le _) (by omega))
  · intro z k _ hk; exact (key k (by omega)).mpr (z k (by omega))
def sp_gcf (V : Int) (c : Nat) : Int32 := if c = 0 then -1 else if V < 0 then -1 else nI (min (c - 1) V.toNat)
theorem m6_gc_out (hw : mb_W (h.1 20 0 0) B K T D U) (hH : mb_H (h.1 20 0 0) K) {V : Int} (hV : V ≤ 100) (hc : ∀ c : Int, c ≤ V ↔ (c ≤ 100 ∧ ∀ k, 0 ≤ k → k < K → bo (h.1 20 0 0) k 3 = 1 → c ≤ sp_cl (h.1 20 0 0) T k)) : ∀ (m c f : Nat) (x : Int32), c + m = 101 → m < f → B_X6_greatestClearance_16 f (h.1 20 0 0 0) (sp_gcf V c) (nI c) (mb_sI h 20 0 0 0 x) = mb_rI (sp_gcf V 101) h := by
  intro m
  induction m with
  | zero =>
    intro c f x hcm hf
    obtain ⟨f, rfl⟩ : ∃ g, f = g + 1 := ⟨f - 1, by omega⟩
    have : c = 101 := by omega
    subst this
    rw [B_X6_greatestClearance_16, if_pos (show (100 : Int32) < nI 101 by decide)]
    simp only [px_cI, px_cIx, px_cV, px_cVx, px_cL, px_cLx, px_cR0, px_cR1, px_cRx, px_lI, px_lL, px_up, px_gZ0, px_gZ1, px_gZb, px_g0, px_g1, px_g2, px_g3, px_g4, px_g5, px_g6, px_g7, px_g8, px_g9, px_g10, px_g11, px_g12, px_g13, px_g14, px_c0, px_c1, px_c2, px_c3, px_c4, px_c5, px_c6, px_c7, px_c8, px_c9, px_c10, px_c11, px_c12, px_c13, px_c14]
    rw [mb_sI_sI, mb_sI_id]
  | succ m ih =>
    intro c f x hcm hf
    obtain ⟨f, rfl⟩ : ∃ g, f = g + 1 := ⟨f - 1, by omega⟩
    rw [B_X6_greatestClearance_16, if_neg (show ¬ (100 : Int32) < nI c from Int32.not_lt.mpr (nI_le (b := 100) (by omega) (by decide)))]
    simp only [px_cI, px_cIx, px_cV, px_cVx, px_cL, px_cLx, px_cR0, px_cR1, px_cRx, px_lI, px_lL, px_up, px_gZ0, px_gZ1, px_gZb, px_g0, px_g1, px_g2, px_g3, px_g4, px_g5, px_g6, px_g7, px_g8, px_g9, px_g10, px_g11, px_g12, px_g13, px_g14, px_c0, px_c1, px_c2, px_c3, px_c4, px_c5, px_c6, px_c7, px_c8, px_c9, px_c10, px_c11, px_c12, px_c13, px_c14]
    rw [mb_sI_sI]
    have ev : ∀ j, j ≠ 0 → (mb_sI h 20 0 0 0 (nI c)).1 20 0 0 j = h.1 20 0 0 j := fun j hj => mb_sI_j _ _ _ _ _ _ hj _ _ _
    have hz : mb_W0 ((mb_sI h 20 0 0 0 (nI c)).1 20 0 0) B K T := by
      have := hw.z
      unfold mb_W0 at this ⊢
      rw [ev 6 (by decide), ev 7 (by decide), ev 8 (by decide)]
      exact this
    have ha : ∀ k, k < K → mb_at9 ((mb_sI h 20 0 0 0 (nI c)).1 20 0 0) B k := fun k hk => by
      have := (hw.boat hk).1
      unfold mb_at9 bo at this ⊢
      rw [ev _ (by omega), ev _ (by omega)]
      exact this
    have hin := m6_gc_in hz ha (B_X6_greatestClearance_16 f) (h.1 20 0 0 0) (sp_gcf V c) (nI c) K 0 mb_fu true (by omega) (by have := hw.K20; unfold mb_fu; omega)
    have hin2 : B_X6_greatestClearance_35 (B_X6_greatestClearance_16 f) mb_fu (h.1 20 0 0 0) (sp_gcf V c) (nI c) 1 0 (mb_sI h 20 0 0 0 (nI c)) = _ := hin
    rw [hin2, Bool.true_and, nI_1]
    have hkey := sp_here_c (v := (mb_sI h 20 0 0 0 (nI c)).1 20 0 0) hw hH (c := c) (by omega) ev (mb_sI_s _ _ _ _ _ _)
    have hiff : (c : Int) ≤ V ↔ sp_all (sp_here ((mb_sI h 20 0 0 0 (nI c)).1 20 0 0) T) 0 K = true := by
      rw [hkey, hc]
      exact ⟨fun z k hk k3 => z.2 k (Nat.zero_le _) hk k3, fun z => ⟨by omega, fun k _ hk k3 => z k hk k3⟩⟩
    by_cases q : (c : Int) ≤ V
    · rw [if_pos (hiff.mp q)]
      have e1 : nI c = sp_gcf V (c + 1) := by
        unfold sp_gcf
        rw [if_neg (by omega), if_neg (by omega)]
        exact congrArg nI (by omega)
      have := ih (c + 1) f (nI c) (by omega) (by omega)
      rw [← e1] at this
      exact this
    · rw [if_neg (fun z => q (hiff.mpr z))]
      have e1 : sp_gcf V c = sp_gcf V (c + 1) := by
        unfold sp_gcf
        by_cases z : V < 0
        · rw [if_pos z, if_neg (show ¬ c + 1 = 0 by omega)]
          by_cases z2 : c = 0
          · rw [if_pos z2, if_pos z]
          · rw [if_neg z2, if_pos z]
        · rw [if_neg (show ¬ c = 0 by omega), if_neg z, if_neg (show ¬ c + 1 = 0 by omega), if_neg z]
          exact congrArg nI (by omega)
      have := ih (c + 1) f (nI c) (by omega) (by omega)
      rw [← e1] at this
      exact this
theorem s_greatestClearance (hS : mb_S n h) : mb_PP (F_X5_greatestClearance h) F_X6_greatestClearance (mb_S (n + 1)) := by
  obtain ⟨-, -, B, K, T, D, U, hw, r, lD, lU, lp, hH⟩ := id hS
  have hK := hw.K20
  obtain ⟨u, p1, p2, p3⟩ := c2_cl_loop r hw K 0 mb_fu 100 (by decide) (by omega) (by unfold mb_fu; omega)
  rw [show (100 : Int32).toInt = 100 by decide] at p3
  have ew : (mb_sI h 6 0 0 4 0).1 20 0 0 = h.1 20 0 0 := by rw [px_s20]
  have hm := m6_gc_out (h := mb_sI h 6 0 0 4 0) (V := u.toInt) (by rw [ew]; exact hw) (by rw [ew]; exact hH) p2 (by rw [ew]; exact p3) 101 0 mb_fu ((mb_sI h 6 0 0 4 0).1 20 0 0 0) rfl (by unfold mb_fu; omega)
  rw [mb_sI_id] at hm
  have ev : (if (0 : Int32) ≤ u then mb_rI u h else mb_rI (-1) h) = mb_rI (sp_gcf u.toInt 101) h := by
    unfold sp_gcf
    rw [if_neg (show ¬ (101 : Nat) = 0 by decide)]
    by_cases q : (0 : Int32) ≤ u
    · have q2 := q
      rw [Int32.le_iff_toInt_le, show (0 : Int32).toInt = 0 by decide] at q2
      have e1 : u = nI (min (101 - 1) u.toInt.toNat) := by
        rw [← Int32.toInt_inj, nI_toInt (by omega)]
        omega
      rw [if_pos q, if_neg (by omega), ← e1]
    · have q2 := q
      rw [Int32.le_iff_toInt_le, show (0 : Int32).toInt = 0 by decide] at q2
      rw [if_neg q, if_pos (by omega)]
  refine q_pp (v := sp_gcf u.toInt 101) hS ?_ ?_
  · unfold F_X5_greatestClearance F_X2_clearanceForAll
    have p1' : B_X2_clearanceForAll_5 mb_fu 0 100 0 h = mb_rI (sp_gcf u.toInt 101) h := by rw [← ev]; exact p1
    rw [p1']
    simp only [px_cI, px_cIx, px_cV, px_cVx, px_cL, px_cLx, px_cR0, px_cR1, px_cRx, px_lI, px_lL, px_up, px_gZ0, px_gZ1, px_gZb, px_g0, px_g1, px_g2, px_g3, px_g4, px_g5, px_g6, px_g7, px_g8, px_g9, px_g10, px_g11, px_g12, px_g13, px_g14, px_c0, px_c1, px_c2, px_c3, px_c4, px_c5, px_c6, px_c7, px_c8, px_c9, px_c10, px_c11, px_c12, px_c13, px_c14]
  · unfold F_X6_greatestClearance
    simp only [px_cI, px_cIx, px_cV, px_cVx, px_cL, px_cLx, px_cR0, px_cR1, px_cRx, px_lI, px_lL, px_up, px_gZ0, px_gZ1, px_gZb, px_g0, px_g1, px_g2, px_g3, px_g4, px_g5, px_g6, px_g7, px_g8, px_g9, px_g10, px_g11, px_g12, px_g13, px_g14, px_c0, px_c1, px_c2, px_c3, px_c4, px_c5, px_c6, px_c7, px_c8, px_c9, px_c10, px_c11, px_c12, px_c13, px_c14]
    exact hm
/-! checksum -/
def sp_mx (f : Nat → Int32) : Int64 → Nat → Nat → Int64
  | a, _, 0 => a
  | a, j, m + 1 => sp_mx f ((31 : Int64) * a + (f j).toInt64) (j + 1) m
def sp_my (f : Nat → Int64 → Int64) : Int64 → Nat → Nat → Int64
  | a, _, 0 => a
  | a, j, m + 1 => sp_my f (f j a) (j + 1) m
def ck_b (w : Nat → Int32) (K T b : Nat) (a : Int64) : Int64 := sp_mx (sp_berth w K T b) a 0 7
def ck_q (w : Nat → Int32) (B K T D k : Nat) (a : Int64) : Int64 := (31 : Int64) * ((31 : Int64) * sp_mx (sp_boat w T D k) a 0 10 + (mb_oi (sp_best w B K T k)).toInt64) + (mb_oi (sp_gr w T D k)).toInt64
def ck_e (w : Nat → Int32) (B K T D tl rc : Nat) (a : Int64) : Int64 := (31 : Int64) * ((31 : Int64) * ((31 : Int64) * ((31 : Int64) * sp_mx (fun p => mb_oi (sp_wa w K (nI p))) (sp_my (ck_q w B K T D) (sp_my (ck_b w K T) a 0 B) 0 K) 0 (sp_st w K 2) + sp_owed w K) + sp_paid w) + (nI tl).toInt64) + (nI rc).toInt64
theorem c5_k6 (r : mb_RM h 0 w B K T) (hw : mb_W w B K T D U) : ∀ (m j f : Nat) (a : Int64), j + m = 14 → m < f → B_X5_checksum_6 f a (nI j) h = B_X5_checksum_33 mb_fu (sp_mx (sp_info w B K T D) a j m) 0 h := by
  intro m
  induction m with
  | zero =>
    intro j f a hj hf
    obtain ⟨f, rfl⟩ : ∃ g, f = g + 1 := ⟨f - 1, by omega⟩
    rw [B_X5_checksum_6, if_pos (show (13 : Int32) < nI j from nI_lt (a := 13) (by omega) (by omega))]
    rfl
  | succ m ih =>
    intro j f a hj hf
    obtain ⟨f, rfl⟩ : ∃ g, f = g + 1 := ⟨f - 1, by omega⟩
    rw [B_X5_checksum_6, if_neg (show ¬ (13 : Int32) < nI j from Int32.not_lt.mpr (nI_le (b := 13) (by omega) (by decide))), c5_info r hw (show j < 14 by omega)]
    simp only [px_cI, px_cIx, px_cV, px_cVx, px_cL, px_cLx, px_cR0, px_cR1, px_cRx, px_lI, px_lL, px_up, px_gZ0, px_gZ1, px_gZb, px_g0, px_g1, px_g2, px_g3, px_g4, px_g5, px_g6, px_g7, px_g8, px_g9, px_g10, px_g11, px_g12, px_g13, px_g14, px_c0, px_c1, px_c2, px_c3, px_c4, px_c5, px_c6, px_c7, px_c8, px_c9, px_c10, px_c11, px_c12, px_c13, px_c14, nI_1]
    exact ih (j + 1) f _ (by omega) (by omega)
theorem c5_k33 (r : mb_RM h 0 w B K T) (hw : mb_W w B K T D U) : ∀ (m j f : Nat) (a : Int64), j + m = T → m < f → B_X5_checksum_33 f a (nI j) h = mb_cL (F_X5_withBerths (sp_mx (fun d => sp_lw w T d) a j m) h) fun y102 h101 => (mb_cL (F_X5_withBoats y102 h101) fun y104 h103 => (mb_cI (F_X2_countIn 0 (2 : Int32) h103) fun y106 h105 => (B_X5_checksum_90 mb_fu y104 y106 0 h105))) := by
  have h8 := hw.w8; have hT := hw.T14
  intro m
  induction m with
  | zero =>
    intro j f a hj hf
    obtain ⟨f, rfl⟩ : ∃ g, f = g + 1 := ⟨f - 1, by omega⟩
    rw [B_X5_checksum_33, r.f8, h8, if_pos (nI_le (by omega) (by omega))]
    rfl
  | succ m ih =>
    intro j f a hj hf
    obtain ⟨f, rfl⟩ : ∃ g, f = g + 1 := ⟨f - 1, by omega⟩
    rw [B_X5_checksum_33, r.f8, h8, if_neg (nI_ge (by omega) (by omega)), c2_lowWater r hw (show j < 2 ^ 31 by omega)]
    simp only [px_cI, px_cIx, px_cV, px_cVx, px_cL, px_cLx, px_cR0, px_cR1, px_cRx, px_lI, px_lL, px_up, px_gZ0, px_gZ1, px_gZb, px_g0, px_g1, px_g2, px_g3, px_g4, px_g5, px_g6, px_g7, px_g8, px_g9, px_g10, px_g11, px_g12, px_g13, px_g14, px_c0, px_c1, px_c2, px_c3, px_c4, px_c5, px_c6, px_c7, px_c8, px_c9, px_c10, px_c11, px_c12, px_c13, px_c14, nI_1]
    exact ih (j + 1) f _ (by omega) (by omega)
theorem c5_wb20 (r : mb_RM h 0 w B K T) (hw : mb_W w B K T D U) (K5 : Int64 → Int32 → mb_AH → Option mb_RS) {b : Nat} (hb : b < B) : ∀ (m j f : Nat) (a : Int64), j + m = 7 → m < f → B_X5_withBerths_20 K5 f a (nI b) (nI j) h = K5 (sp_mx (sp_berth w K T b) a j m) (nI (b + 1)) h := by
  intro m
  induction m with
  | zero =>
    intro j f a hj hf
    obtain ⟨f, rfl⟩ : ∃ g, f = g + 1 := ⟨f - 1, by omega⟩
    rw [B_X5_withBerths_20, if_pos (show (6 : Int32) < nI j from nI_lt (a := 6) (by omega) (by omega)), nI_1]
    rfl
  | succ m ih =>
    intro j f a hj hf
    obtain ⟨f, rfl⟩ : ∃ g, f = g + 1 := ⟨f - 1, by omega⟩
    rw [B_X5_withBerths_20, if_neg (show ¬ (6 : Int32) < nI j from Int32.not_lt.mpr (nI_le (b := 6) (by omega) (by decide))), c5_berth r hw hb (show j < 7 by omega)]
    simp only [px_cI, px_cIx, px_cV, px_cVx, px_cL, px_cLx, px_cR0, px_cR1, px_cRx, px_lI, px_lL, px_up, px_gZ0, px_gZ1, px_gZb, px_g0, px_g1, px_g2, px_g3, px_g4, px_g5, px_g6, px_g7, px_g8, px_g9, px_g10, px_g11, px_g12, px_g13, px_g14, px_c0, px_c1, px_c2, px_c3, px_c4, px_c5, px_c6, px_c7, px_c8, px_c9, px_c10, px_c11, px_c12, px_c13, px_c14, nI_1]
    exact ih (j + 1) f _ (by omega) (by omega)
theorem c5_withBerths (r : mb_RM h 0 w B K T) (hw : mb_W w B K T D U) (a : Int64) : F_X5_withBerths a h = mb_rL (sp_my (ck_b w K T) a 0 B) h := by
  have h6 := hw.w6; have hB := hw.B16
  have key : ∀ (m j f : Nat) (a : Int64), j + m = B → m < f → B_X5_withBerths_5 f a (nI j) h = mb_rL (sp_my (ck_b w K T) a j m) h := by
    intro m
    induction m with
    | zero =>
      intro j f a hj hf
      obtain ⟨f, rfl⟩ : ∃ g, f = g + 1 := ⟨f - 1, by omega⟩
      rw [B_X5_withBerths_5, r.f6, h6, if_pos (nI_le (by omega) (by omega))]
      rfl
    | succ m ih =>
      intro j f a hj hf
      obtain ⟨f, rfl⟩ : ∃ g, f = g + 1 := ⟨f - 1, by omega⟩
      have e : B_X5_withBerths_20 (B_X5_withBerths_5 f) mb_fu a (nI j) 0 h = _ := c5_wb20 r hw (B_X5_withBerths_5 f) (show j < B by omega) 7 0 mb_fu a rfl (by unfold mb_fu; omega)
      rw [B_X5_withBerths_5, r.f6, h6, if_neg (nI_ge (by omega) (by omega)), e]
      exact ih (j + 1) f _ (by omega) (by omega)
  exact key B 0 mb_fu a (by omega) (by unfold mb_fu; omega)
theorem c5_wq20 (r : mb_RM h 0 w B K T) (hw : mb_W w B K T D U) (K5 : Int64 → Int32 → mb_AH → Option mb_RS) {k : Nat} (hk : k < K) : ∀ (m j f : Nat) (a : Int64), j + m = 10 → m < f → B_X5_withBoats_20 K5 f a (nI k) (nI j) h = K5 ((31 : Int64) * ((31 : Int64) * sp_mx (sp_boat w T D k) a j m + (mb_oi (sp_best w B K T k)).toInt64) + (mb_oi (sp_gr w T D k)).toInt64) (nI (k + 1)) h := by
  have hK := hw.K20
  intro m
  induction m with
  | zero =>
    intro j f a hj hf
    obtain ⟨f, rfl⟩ : ∃ g, f = g + 1 := ⟨f - 1, by omega⟩
    rw [B_X5_withBoats_20, if_pos (show (9 : Int32) < nI j from nI_lt (a := 9) (by omega) (by omega)), px_gB (show k < 20 by omega) (by decide), nI_clamp (by omega), c2_bestBerthFor r hw hk]
    simp only [px_cI, px_cIx, px_cV, px_cVx, px_cL, px_cLx, px_cR0, px_cR1, px_cRx, px_lI, px_lL, px_up, px_gZ0, px_gZ1, px_gZb, px_g0, px_g1, px_g2, px_g3, px_g4, px_g5, px_g6, px_g7, px_g8, px_g9, px_g10, px_g11, px_g12, px_g13, px_g14, px_c0, px_c1, px_c2, px_c3, px_c4, px_c5, px_c6, px_c7, px_c8, px_c9, px_c10, px_c11, px_c12, px_c13, px_c14, nI_1]
    rw [px_gB (show k < 20 by omega) (by decide), c2_daysUntilAground r hw hk]
    simp only [px_cI, px_cIx, px_cV, px_cVx, px_cL, px_cLx, px_cR0, px_cR1, px_cRx, px_lI, px_lL, px_up, px_gZ0, px_gZ1, px_gZb, px_g0, px_g1, px_g2, px_g3, px_g4, px_g5, px_g6, px_g7, px_g8, px_g9, px_g10, px_g11, px_g12, px_g13, px_g14, px_c0, px_c1, px_c2, px_c3, px_c4, px_c5, px_c6, px_c7, px_c8, px_c9, px_c10, px_c11, px_c12, px_c13, px_c14]
    rfl
  | succ m ih =>
    intro j f a hj hf
    obtain ⟨f, rfl⟩ : ∃ g, f = g + 1 := ⟨f - 1, by omega⟩
    rw [B_X5_withBoats_20, if_neg (show ¬ (9 : Int32) < nI j from Int32.not_lt.mpr (nI_le (b := 9) (by omega) (by decide))), c5_boat r hw hk (show j < 10 by omega)]
    simp only [px_cI, px_cIx, px_cV, px_cVx, px_cL, px_cLx, px_cR0, px_cR1, px_cRx, px_lI, px_lL, px_up, px_gZ0, px_gZ1, px_gZb, px_g0, px_g1, px_g2, px_g3, px_g4, px_g5, px_g6, px_g7, px_g8, px_g9, px_g10, px_g11, px_g12, px_g13, px_g14, px_c0, px_c1, px_c2, px_c3, px_c4, px_c5, px_c6, px_c7, px_c8, px_c9, px_c10, px_c11, px_c12, px_c13, px_c14, nI_1]
    exact ih (j + 1) f _ (by omega) (by omega)
theorem c5_withBoats (r : mb_RM h 0 w B K T) (hw : mb_W w B K T D U) (a : Int64) : F_X5_withBoats a h = mb_rL (sp_my (ck_q w B K T D) a 0 K) h := by
  have h7 := hw.w7; have hK := hw.K20
  have key : ∀ (m j f : Nat) (a : Int64), j + m = K → m < f → B_X5_withBoats_5 f a (nI j) h = mb_rL (sp_my (ck_q w B K T D) a j m) h := by
    intro m
    induction m with
    | zero =>
      intro j f a hj hf
      obtain ⟨f, rfl⟩ : ∃ g, f = g + 1 := ⟨f - 1, by omega⟩
      rw [B_X5_withBoats_5, r.f7, h7, if_pos (nI_le (by omega) (by omega))]
      rfl
    | succ m ih =>
      intro j f a hj hf
      obtain ⟨f, rfl⟩ : ∃ g, f = g + 1 := ⟨f - 1, by omega⟩
      have e : B_X5_withBoats_20 (B_X5_withBoats_5 f) mb_fu a (nI j) 0 h = _ := c5_wq20 r hw (B_X5_withBoats_5 f) (show j < K by omega) 10 0 mb_fu a rfl (by unfold mb_fu; omega)
      rw [B_X5_withBoats_5, r.f7, h7, if_neg (nI_ge (by omega) (by omega)), e]
      exact ih (j + 1) f _ (by omega) (by omega)
  exact key K 0 mb_fu a (by omega) (by unfold mb_fu; omega)
theorem c5_k90 {tl rc : Nat} (r : mb_RM h 0 w B K T) (hw : mb_W w B K T D U) (e1 : h.1 5 0 0 1 = nI tl) (e3 : h.1 0 0 0 3 = nI rc) {W9 : Nat} (hW : W9 ≤ 20) : ∀ (m j f : Nat) (a : Int64), j + m = W9 → m < f → B_X5_checksum_90 f a (nI W9) (nI j) h = mb_rL ((31 : Int64) * ((31 : Int64) * ((31 : Int64) * ((31 : Int64) * sp_mx (fun p => mb_oi (sp_wa w K (nI p))) a j m + sp_owed w K) + sp_paid w) + (nI tl).toInt64) + (nI rc).toInt64) h := by
  intro m
  induction m with
  | zero =>
    intro j f a hj hf
    obtain ⟨f, rfl⟩ : ∃ g, f = g + 1 := ⟨f - 1, by omega⟩
    rw [B_X5_checksum_90, if_pos (nI_le (by omega) (by omega)), c2_owedInAll r hw]
    simp only [px_cI, px_cIx, px_cV, px_cVx, px_cL, px_cLx, px_cR0, px_cR1, px_cRx, px_lI, px_lL, px_up, px_gZ0, px_gZ1, px_gZb, px_g0, px_g1, px_g2, px_g3, px_g4, px_g5, px_g6, px_g7, px_g8, px_g9, px_g10, px_g11, px_g12, px_g13, px_g14, px_c0, px_c1, px_c2, px_c3, px_c4, px_c5, px_c6, px_c7, px_c8, px_c9, px_c10, px_c11, px_c12, px_c13, px_c14]
    rw [r.paid, e1, e3]
    rfl
  | succ m ih =>
    intro j f a hj hf
    obtain ⟨f, rfl⟩ : ∃ g, f = g + 1 := ⟨f - 1, by omega⟩
    rw [B_X5_checksum_90, if_neg (nI_ge (by omega) (by omega)), c2_waitingAt r hw]
    simp only [px_cI, px_cIx, px_cV, px_cVx, px_cL, px_cLx, px_cR0, px_cR1, px_cRx, px_lI, px_lL, px_up, px_gZ0, px_gZ1, px_gZb, px_g0, px_g1, px_g2, px_g3, px_g4, px_g5, px_g6, px_g7, px_g8, px_g9, px_g10, px_g11, px_g12, px_g13, px_g14, px_c0, px_c1, px_c2, px_c3, px_c4, px_c5, px_c6, px_c7, px_c8, px_c9, px_c10, px_c11, px_c12, px_c13, px_c14, nI_1]
    exact ih (j + 1) f _ (by omega) (by omega)
theorem mb_sL_s (h : mb_AH) (k a b j : Nat) (x : Int64) : (mb_sL h k a b j x).2.1 k a b j = x := by simp [mb_sL]
theorem mb_sL_sL (h : mb_AH) (k a b j : Nat) (x y : Int64) : mb_sL (mb_sL h k a b j x) k a b j y = mb_sL h k a b j y := by
  refine Prod.ext rfl (Prod.ext ?_ rfl)
  funext k2 a2 b2 j2
  show (if k2 = k ∧ a2 = a ∧ b2 = b ∧ j2 = j then y else if k2 = k ∧ a2 = a ∧ b2 = b ∧ j2 = j then x else h.2.1 k2 a2 b2 j2) = if k2 = k ∧ a2 = a ∧ b2 = b ∧ j2 = j then y else h.2.1 k2 a2 b2 j2
  by_cases q : k2 = k ∧ a2 = a ∧ b2 = b ∧ j2 = j
  · rw [if_pos q, if_pos q]
  · rw [if_neg q, if_neg q, if_neg q]
abbrev mb_hh (h : mb_AH) (a : Int64) : mb_AH := mb_sL h 6 0 0 15 a
theorem m6_mix (h : mb_AH) (a x : Int64) : F_X6_mix x (mb_hh h a) = mb_rV (mb_hh h ((31 : Int64) * a + x)) := by
  unfold F_X6_mix
  simp only [px_cI, px_cIx, px_cV, px_cVx, px_cL, px_cLx, px_cR0, px_cR1, px_cRx, px_lI, px_lL, px_up, px_gZ0, px_gZ1, px_gZb, px_g0, px_g1, px_g2, px_g3, px_g4, px_g5, px_g6, px_g7, px_g8, px_g9, px_g10, px_g11, px_g12, px_g13, px_g14, px_c0, px_c1, px_c2, px_c3, px_c4, px_c5, px_c6, px_c7, px_c8, px_c9, px_c10, px_c11, px_c12, px_c13, px_c14]
  rw [mb_sL_s, mb_sL_sL]
theorem m6_k14 (hw : mb_W (h.1 20 0 0) B K T D U) : ∀ (m j f : Nat) (a : Int64), j + m = 14 → m < f → B_X6_checksum_14 f (nI j) (mb_hh h a) = B_X6_checksum_38 mb_fu 0 (mb_hh h (sp_mx (sp_info (h.1 20 0 0) B K T D) a j m)) := by
  intro m
  induction m with
  | zero =>
    intro j f a hj hf
    obtain ⟨f, rfl⟩ : ∃ g, f = g + 1 := ⟨f - 1, by omega⟩
    rw [B_X6_checksum_14, if_pos (show (14 : Int32) ≤ nI j from nI_le (a := 14) (by omega) (by omega))]
    rfl
  | succ m ih =>
    intro j f a hj hf
    obtain ⟨f, rfl⟩ : ∃ g, f = g + 1 := ⟨f - 1, by omega⟩
    have e : F_X6_infoTold (nI j) (mb_hh h a) = mb_rI (sp_info (h.1 20 0 0) B K T D j) (mb_hh h a) := m6_infoTold (h := mb_hh h a) hw (show j < 14 by omega)
    rw [B_X6_checksum_14, if_neg (show ¬ (14 : Int32) ≤ nI j from nI_ge (b := 14) (by omega) (by decide)), e]
    simp only [px_cI, px_cIx, px_cV, px_cVx, px_cL, px_cLx, px_cR0, px_cR1, px_cRx, px_lI, px_lL, px_up, px_gZ0, px_gZ1, px_gZb, px_g0, px_g1, px_g2, px_g3, px_g4, px_g5, px_g6, px_g7, px_g8, px_g9, px_g10, px_g11, px_g12, px_g13, px_g14, px_c0, px_c1, px_c2, px_c3, px_c4, px_c5, px_c6, px_c7, px_c8, px_c9, px_c10, px_c11, px_c12, px_c13, px_c14, m6_mix, nI_1]
    exact ih (j + 1) f _ (by omega) (by omega)
theorem m6_k38 (hw : mb_W (h.1 20 0 0) B K T D U) : ∀ (m j f : Nat) (a : Int64), j + m = T → m < f → B_X6_checksum_38 f (nI j) (mb_hh h a) = B_X6_checksum_71 mb_fu 0 (mb_hh h (sp_mx (fun d => sp_lw (h.1 20 0 0) T d) a j m)) := by
  have h8 : (mb_hh h (0 : Int64)).1 20 0 0 8 = nI T := hw.w8
  have hT := hw.T14
  intro m
  induction m with
  | zero =>
    intro j f a hj hf
    obtain ⟨f, rfl⟩ : ∃ g, f = g + 1 := ⟨f - 1, by omega⟩
    have h8 : (mb_hh h a).1 20 0 0 8 = nI T := hw.w8
    rw [B_X6_checksum_38]
    simp only [px_cI, px_cIx, px_cV, px_cVx, px_cL, px_cLx, px_cR0, px_cR1, px_cRx, px_lI, px_lL, px_up, px_gZ0, px_gZ1, px_gZb, px_g0, px_g1, px_g2, px_g3, px_g4, px_g5, px_g6, px_g7, px_g8, px_g9, px_g10, px_g11, px_g12, px_g13, px_g14, px_c0, px_c1, px_c2, px_c3, px_c4, px_c5, px_c6, px_c7, px_c8, px_c9, px_c10, px_c11, px_c12, px_c13, px_c14]
    rw [h8, if_pos (nI_le (by omega) (by omega))]
    rfl
  | succ m ih =>
    intro j f a hj hf
    obtain ⟨f, rfl⟩ : ∃ g, f = g + 1 := ⟨f - 1, by omega⟩
    have h8 : (mb_hh h a).1 20 0 0 8 = nI T := hw.w8
    have e : sp_lw (h.1 20 0 0) T j = (mb_hh h a).1 20 0 0 (12 + j) := by
      unfold sp_lw
      rw [Nat.mod_eq_of_lt (by omega)]
      rfl
    have ih2 := ih (j + 1) f ((31 : Int64) * a + (sp_lw (h.1 20 0 0) T j).toInt64) (by omega) (by omega)
    rw [e] at ih2
    rw [B_X6_checksum_38]
    simp only [px_cI, px_cIx, px_cV, px_cVx, px_cL, px_cLx, px_cR0, px_cR1, px_cRx, px_lI, px_lL, px_up, px_gZ0, px_gZ1, px_gZb, px_g0, px_g1, px_g2, px_g3, px_g4, px_g5, px_g6, px_g7, px_g8, px_g9, px_g10, px_g11, px_g12, px_g13, px_g14, px_c0, px_c1, px_c2, px_c3, px_c4, px_c5, px_c6, px_c7, px_c8, px_c9, px_c10, px_c11, px_c12, px_c13, px_c14, m6_mix]
    rw [h8, if_neg (nI_ge (by omega) (by omega)), show (12 : Int32) + nI j = nI (12 + j) from nI_add 12 j, px_gB (show 12 + j < 270 by omega) (by decide), nI_clamp (by omega), nI_1, ih2]
    show _ = B_X6_checksum_71 mb_fu 0 (mb_hh h (sp_mx (fun d => sp_lw (h.1 20 0 0) T d) ((31 : Int64) * a + (sp_lw (h.1 20 0 0) T j).toInt64) (j + 1) m))
    rw [e]
theorem m6_k84 (hw : mb_W (h.1 20 0 0) B K T D U) (K71 : Int32 → mb_AH → Option mb_RS) {b : Nat} (hb : b < 16) : ∀ (m j f : Nat) (a : Int64), j + m = 7 → m < f → B_X6_checksum_84 K71 f (nI b) (nI j) (mb_hh h a) = K71 (nI (b + 1)) (mb_hh h (sp_mx (sp_berth (h.1 20 0 0) K T b) a j m)) := by
  intro m
  induction m with
  | zero =>
    intro j f a hj hf
    obtain ⟨f, rfl⟩ : ∃ g, f = g + 1 := ⟨f - 1, by omega⟩
    rw [B_X6_checksum_84, if_pos (show (7 : Int32) ≤ nI j from nI_le (a := 7) (by omega) (by omega)), nI_1]
    rfl
  | succ m ih =>
    intro j f a hj hf
    obtain ⟨f, rfl⟩ : ∃ g, f = g + 1 := ⟨f - 1, by omega⟩
    have e : F_X6_berthTold (nI b) (nI j) (mb_hh h a) = mb_rI (sp_berth (h.1 20 0 0) K T b j) (mb_hh h a) := m6_berthTold (h := mb_hh h a) (B := B) hw.z hb (show j < 7 by omega)
    rw [B_X6_checksum_84, if_neg (show ¬ (7 : Int32) ≤ nI j from nI_ge (b := 7) (by omega) (by decide)), e]
    simp only [px_cI, px_cIx, px_cV, px_cVx, px_cL, px_cLx, px_cR0, px_cR1, px_cRx, px_lI, px_lL, px_up, px_gZ0, px_gZ1, px_gZb, px_g0, px_g1, px_g2, px_g3, px_g4, px_g5, px_g6, px_g7, px_g8, px_g9, px_g10, px_g11, px_g12, px_g13, px_g14, px_c0, px_c1, px_c2, px_c3, px_c4, px_c5, px_c6, px_c7, px_c8, px_c9, px_c10, px_c11, px_c12, px_c13, px_c14, m6_mix, nI_1]
    exact ih (j + 1) f _ (by omega) (by omega)
theorem m6_k71 (hw : mb_W (h.1 20 0 0) B K T D U) : ∀ (m j f : Nat) (a : Int64), j + m = B → m < f → B_X6_checksum_71 f (nI j) (mb_hh h a) = B_X6_checksum_115 mb_fu 0 (mb_hh h (sp_my (ck_b (h.1 20 0 0) K T) a j m)) := by
  have hB := hw.B16
  intro m
  induction m with
  | zero =>
    intro j f a hj hf
    obtain ⟨f, rfl⟩ : ∃ g, f = g + 1 := ⟨f - 1, by omega⟩
    have h6 : (mb_hh h a).1 20 0 0 6 = nI B := hw.w6
    rw [B_X6_checksum_71]
    simp only [px_cI, px_cIx, px_cV, px_cVx, px_cL, px_cLx, px_cR0, px_cR1, px_cRx, px_lI, px_lL, px_up, px_gZ0, px_gZ1, px_gZb, px_g0, px_g1, px_g2, px_g3, px_g4, px_g5, px_g6, px_g7, px_g8, px_g9, px_g10, px_g11, px_g12, px_g13, px_g14, px_c0, px_c1, px_c2, px_c3, px_c4, px_c5, px_c6, px_c7, px_c8, px_c9, px_c10, px_c11, px_c12, px_c13, px_c14]
    rw [h6, if_pos (nI_le (by omega) (by omega))]
    rfl
  | succ m ih =>
    intro j f a hj hf
    obtain ⟨f, rfl⟩ : ∃ g, f = g + 1 := ⟨f - 1, by omega⟩
    have h6 : (mb_hh h a).1 20 0 0 6 = nI B := hw.w6
    have e : B_X6_checksum_84 (B_X6_checksum_71 f) mb_fu (nI j) 0 (mb_hh h a) = _ := m6_k84 hw (B_X6_checksum_71 f) (show j < 16 by omega) 7 0 mb_fu a rfl (by unfold mb_fu; omega)
    rw [B_X6_checksum_71]
    simp only [px_cI, px_cIx, px_cV, px_cVx, px_cL, px_cLx, px_cR0, px_cR1, px_cRx, px_lI, px_lL, px_up, px_gZ0, px_gZ1, px_gZb, px_g0, px_g1, px_g2, px_g3, px_g4, px_g5, px_g6, px_g7, px_g8, px_g9, px_g10, px_g11, px_g12, px_g13, px_g14, px_c0, px_c1, px_c2, px_c3, px_c4, px_c5, px_c6, px_c7, px_c8, px_c9, px_c10, px_c11, px_c12, px_c13, px_c14]
    rw [h6, if_neg (nI_ge (by omega) (by omega)), e]
    exact ih (j + 1) f _ (by omega) (by omega)
theorem m6_k128 (hw : mb_W (h.1 20 0 0) B K T D U) (K115 : Int32 → mb_AH → Option mb_RS) {k : Nat} (hk : k < K) : ∀ (m j f : Nat) (a : Int64), j + m = 10 → m < f → B_X6_checksum_128 K115 f (nI k) (nI j) (mb_hh h a) = K115 (nI (k + 1)) (mb_hh h ((31 : Int64) * ((31 : Int64) * sp_mx (sp_boat (h.1 20 0 0) T D k) a j m + (mb_oi (sp_best (h.1 20 0 0) B K T k)).toInt64) + (mb_oi (sp_gr (h.1 20 0 0) T D k)).toInt64)) := by
  intro m
  induction m with
  | zero =>
    intro j f a hj hf
    obtain ⟨f, rfl⟩ : ∃ g, f = g + 1 := ⟨f - 1, by omega⟩
    have e1 : F_X6_bestOf (nI k) (mb_hh h a) = mb_rI (mb_oi (sp_best (h.1 20 0 0) B K T k)) (mb_hh h a) := m6_bestOf (h := mb_hh h a) hw hk
    have e2 : ∀ b : Int64, F_X6_grounds (nI k) (mb_hh h b) = mb_rI (mb_oi (sp_gr (h.1 20 0 0) T D k)) (mb_hh h b) := fun b => m6_grounds (h := mb_hh h b) hw hk
    rw [B_X6_checksum_128, if_pos (show (10 : Int32) ≤ nI j from nI_le (a := 10) (by omega) (by omega)), e1]
    simp only [px_cI, px_cIx, px_cV, px_cVx, px_cL, px_cLx, px_cR0, px_cR1, px_cRx, px_lI, px_lL, px_up, px_gZ0, px_gZ1, px_gZb, px_g0, px_g1, px_g2, px_g3, px_g4, px_g5, px_g6, px_g7, px_g8, px_g9, px_g10, px_g11, px_g12, px_g13, px_g14, px_c0, px_c1, px_c2, px_c3, px_c4, px_c5, px_c6, px_c7, px_c8, px_c9, px_c10, px_c11, px_c12, px_c13, px_c14, m6_mix, e2, nI_1]
    rfl
  | succ m ih =>
    intro j f a hj hf
    obtain ⟨f, rfl⟩ : ∃ g, f = g + 1 := ⟨f - 1, by omega⟩
    have e : F_X6_boatTold (nI k) (nI j) (mb_hh h a) = mb_rI (sp_boat (h.1 20 0 0) T D k j) (mb_hh h a) := m6_boatTold (h := mb_hh h a) hw hk (show j < 10 by omega)
    rw [B_X6_checksum_128, if_neg (show ¬ (10 : Int32) ≤ nI j from nI_ge (b := 10) (by omega) (by decide)), e]
    simp only [px_cI, px_cIx, px_cV, px_cVx, px_cL, px_cLx, px_cR0, px_cR1, px_cRx, px_lI, px_lL, px_up, px_gZ0, px_gZ1, px_gZb, px_g0, px_g1, px_g2, px_g3, px_g4, px_g5, px_g6, px_g7, px_g8, px_g9, px_g10, px_g11, px_g12, px_g13, px_g14, px_c0, px_c1, px_c2, px_c3, px_c4, px_c5, px_c6, px_c7, px_c8, px_c9, px_c10, px_c11, px_c12, px_c13, px_c14, m6_mix, nI_1]
    exact ih (j + 1) f _ (by omega) (by omega)
theorem m6_k115 (hw : mb_W (h.1 20 0 0) B K T D U) : ∀ (m j f : Nat) (a : Int64), j + m = K → m < f → B_X6_checksum_115 f (nI j) (mb_hh h a) = B_X6_checksum_185 mb_fu (nI (sp_st (h.1 20 0 0) K 2)) 0 (mb_hh h (sp_my (ck_q (h.1 20 0 0) B K T D) a j m)) := by
  have hK := hw.K20
  intro m
  induction m with
  | zero =>
    intro j f a hj hf
    obtain ⟨f, rfl⟩ : ∃ g, f = g + 1 := ⟨f - 1, by omega⟩
    have h7 : (mb_hh h a).1 20 0 0 7 = nI K := hw.w7
    have e : F_X6_countIn 2 (mb_hh h a) = mb_rI (nI (sp_st (h.1 20 0 0) K 2)) (mb_hh h a) := m6_countIn (h := mb_hh h a) hw.z 2
    rw [B_X6_checksum_115]
    simp only [px_cI, px_cIx, px_cV, px_cVx, px_cL, px_cLx, px_cR0, px_cR1, px_cRx, px_lI, px_lL, px_up, px_gZ0, px_gZ1, px_gZb, px_g0, px_g1, px_g2, px_g3, px_g4, px_g5, px_g6, px_g7, px_g8, px_g9, px_g10, px_g11, px_g12, px_g13, px_g14, px_c0, px_c1, px_c2, px_c3, px_c4, px_c5, px_c6, px_c7, px_c8, px_c9, px_c10, px_c11, px_c12, px_c13, px_c14]
    rw [h7, if_pos (nI_le (by omega) (by omega)), e]
    rfl
  | succ m ih =>
    intro j f a hj hf
    obtain ⟨f, rfl⟩ : ∃ g, f = g + 1 := ⟨f - 1, by omega⟩
    have h7 : (mb_hh h a).1 20 0 0 7 = nI K := hw.w7
    have e : B_X6_checksum_128 (B_X6_checksum_115 f) mb_fu (nI j) 0 (mb_hh h a) = _ := m6_k128 hw (B_X6_checksum_115 f) (show j < K by omega) 10 0 mb_fu a rfl (by unfold mb_fu; omega)
    rw [B_X6_checksum_115]
    simp only [px_cI, px_cIx, px_cV, px_cVx, px_cL, px_cLx, px_cR0, px_cR1, px_cRx, px_lI, px_lL, px_up, px_gZ0, px_gZ1, px_gZb, px_g0, px_g1, px_g2, px_g3, px_g4, px_g5, px_g6, px_g7, px_g8, px_g9, px_g10, px_g11, px_g12, px_g13, px_g14, px_c0, px_c1, px_c2, px_c3, px_c4, px_c5, px_c6, px_c7, px_c8, px_c9, px_c10, px_c11, px_c12, px_c13, px_c14]
    rw [h7, if_neg (nI_ge (by omega) (by omega)), e]
    exact ih (j + 1) f _ (by omega) (by omega)
theorem m6_k185 {tl rc : Nat} (hw : mb_W (h.1 20 0 0) B K T D U) (e6 : h.1 6 0 0 6 = nI tl) (e3 : h.1 6 0 0 3 = nI rc) {W9 : Nat} (hW : W9 ≤ 20) : ∀ (m j f : Nat) (a : Int64), j + m = W9 → m < f → ∃ a9 : Int64, B_X6_checksum_185 f (nI W9) (nI j) (mb_hh h a) = mb_rL ((31 : Int64) * ((31 : Int64) * ((31 : Int64) * ((31 : Int64) * sp_mx (fun p => mb_oi (sp_wa (h.1 20 0 0) K (nI p))) a j m + sp_owed (h.1 20 0 0) K) + sp_paid (h.1 20 0 0)) + (nI tl).toInt64) + (nI rc).toInt64) (mb_hh h a9) := by
  intro m
  induction m with
  | zero =>
    intro j f a hj hf
    obtain ⟨f, rfl⟩ : ∃ g, f = g + 1 := ⟨f - 1, by omega⟩
    have f1 : ∀ b : Int64, F_X6_owedNow (mb_hh h b) = mb_rL (sp_owed (h.1 20 0 0) K) (mb_hh h b) := fun b => m6_owedNow (h := mb_hh h b) hw.z
    have f2 : ∀ b : Int64, F_X6_paidNow (mb_hh h b) = mb_rL (sp_paid (h.1 20 0 0)) (mb_hh h b) := fun b => m6_paidNow (mb_hh h b)
    have f3 : ∀ b : Int64, (mb_hh h b).1 6 0 0 6 = nI tl := fun b => e6
    have f4 : ∀ b : Int64, (mb_hh h b).1 6 0 0 3 = nI rc := fun b => e3
    refine ⟨(31 : Int64) * ((31 : Int64) * ((31 : Int64) * ((31 : Int64) * a + sp_owed (h.1 20 0 0) K) + sp_paid (h.1 20 0 0)) + (nI tl).toInt64) + (nI rc).toInt64, ?_⟩
    rw [B_X6_checksum_185, if_pos (nI_le (by omega) (by omega)), f1]
    simp only [px_cI, px_cIx, px_cV, px_cVx, px_cL, px_cLx, px_cR0, px_cR1, px_cRx, px_lI, px_lL, px_up, px_gZ0, px_gZ1, px_gZb, px_g0, px_g1, px_g2, px_g3, px_g4, px_g5, px_g6, px_g7, px_g8, px_g9, px_g10, px_g11, px_g12, px_g13, px_g14, px_c0, px_c1, px_c2, px_c3, px_c4, px_c5, px_c6, px_c7, px_c8, px_c9, px_c10, px_c11, px_c12, px_c13, px_c14, m6_mix, f2, f3, f4, mb_sL_s]
    rfl
  | succ m ih =>
    intro j f a hj hf
    obtain ⟨f, rfl⟩ : ∃ g, f = g + 1 := ⟨f - 1, by omega⟩
    have e : F_X6_waitingAt (nI j) (mb_hh h a) = mb_rI (mb_oi (sp_wa (h.1 20 0 0) K (nI j))) (mb_hh h a) := m6_waitingAt (h := mb_hh h a) hw.z _
    rw [B_X6_checksum_185, if_neg (nI_ge (by omega) (by omega)), e]
    simp only [px_cI, px_cIx, px_cV, px_cVx, px_cL, px_cLx, px_cR0, px_cR1, px_cRx, px_lI, px_lL, px_up, px_gZ0, px_gZ1, px_gZb, px_g0, px_g1, px_g2, px_g3, px_g4, px_g5, px_g6, px_g7, px_g8, px_g9, px_g10, px_g11, px_g12, px_g13, px_g14, px_c0, px_c1, px_c2, px_c3, px_c4, px_c5, px_c6, px_c7, px_c8, px_c9, px_c10, px_c11, px_c12, px_c13, px_c14, m6_mix, nI_1]
    exact ih (j + 1) f _ (by omega) (by omega)
theorem s_checksum (hS : mb_S n h) : mb_PL (F_X5_checksum h) F_X6_checksum (mb_S (n + 1)) := by
  obtain ⟨⟨tl, ta, tb, tc, td⟩, ⟨rc, ra, rb, rd, -⟩, B, K, T, D, U, hw, r, lD, lU, lp, hH⟩ := id hS
  have hK := hw.K20
  have hst : sp_st (h.1 20 0 0) K 2 ≤ K := sp_cnt_le _ _ _
  have ew : (mb_sI h 6 0 0 4 0).1 20 0 0 = h.1 20 0 0 := by rw [px_s20]
  have hw6 : mb_W ((mb_sI h 6 0 0 4 0).1 20 0 0) B K T D U := by rw [ew]; exact hw
  have q1 := m6_k14 hw6 14 0 mb_fu 43079 rfl (by unfold mb_fu; omega)
  have q2 := fun a => m6_k38 hw6 T 0 mb_fu a (Nat.zero_add _) (by have := hw.T14; unfold mb_fu; omega)
  have q3 := fun a => m6_k71 hw6 B 0 mb_fu a (Nat.zero_add _) (by have := hw.B16; unfold mb_fu; omega)
  have q4 := fun a => m6_k115 hw6 K 0 mb_fu a (Nat.zero_add _) (by unfold mb_fu; omega)
  rw [ew] at q1
  simp only [ew] at q2 q3 q4
  obtain ⟨a9, q5⟩ := m6_k185 (tl := tl) (rc := rc) (h := mb_sI h 6 0 0 4 0) hw6 (by rw [mb_sI_j _ _ _ _ _ _ (by decide)]; exact tc) (by rw [mb_sI_j _ _ _ _ _ _ (by decide)]; exact rd) (W9 := sp_st (h.1 20 0 0) K 2) (by omega) (sp_st (h.1 20 0 0) K 2) 0 mb_fu (sp_my (ck_q (h.1 20 0 0) B K T D) (sp_my (ck_b (h.1 20 0 0) K T) (sp_mx (fun d => sp_lw (h.1 20 0 0) T d) (sp_mx (sp_info (h.1 20 0 0) B K T D) 43079 0 14) 0 T) 0 B) 0 K) (Nat.zero_add _) (by unfold mb_fu; omega)
  rw [ew] at q5
  refine ⟨ck_e (h.1 20 0 0) B K T D tl rc (sp_mx (fun d => sp_lw (h.1 20 0 0) T d) (sp_mx (sp_info (h.1 20 0 0) B K T D) 43079 0 14) 0 T), h, mb_hh (mb_sI h 6 0 0 4 0) a9, ?_, ?_, ?_⟩
  · have p1 : B_X5_checksum_6 mb_fu 43079 0 h = _ := c5_k6 r hw 14 0 mb_fu 43079 rfl (by unfold mb_fu; omega)
    have p2 : ∀ a, B_X5_checksum_33 mb_fu a 0 h = _ := fun a => c5_k33 r hw T 0 mb_fu a (Nat.zero_add _) (by have := hw.T14; unfold mb_fu; omega)
    have p3 : ∀ a, B_X5_checksum_90 mb_fu a (nI (sp_st (h.1 20 0 0) K 2)) 0 h = _ := fun a => c5_k90 (tl := tl) (rc := rc) r hw tb rb (by omega) (sp_st (h.1 20 0 0) K 2) 0 mb_fu a (Nat.zero_add _) (by unfold mb_fu; omega)
    unfold F_X5_checksum
    rw [p1, p2, c5_withBerths r hw]
    simp only [px_cI, px_cIx, px_cV, px_cVx, px_cL, px_cLx, px_cR0, px_cR1, px_cRx, px_lI, px_lL, px_up, px_gZ0, px_gZ1, px_gZb, px_g0, px_g1, px_g2, px_g3, px_g4, px_g5, px_g6, px_g7, px_g8, px_g9, px_g10, px_g11, px_g12, px_g13, px_g14, px_c0, px_c1, px_c2, px_c3, px_c4, px_c5, px_c6, px_c7, px_c8, px_c9, px_c10, px_c11, px_c12, px_c13, px_c14]
    rw [c5_withBoats r hw]
    simp only [px_cI, px_cIx, px_cV, px_cVx, px_cL, px_cLx, px_cR0, px_cR1, px_cRx, px_lI, px_lL, px_up, px_gZ0, px_gZ1, px_gZb, px_g0, px_g1, px_g2, px_g3, px_g4, px_g5, px_g6, px_g7, px_g8, px_g9, px_g10, px_g11, px_g12, px_g13, px_g14, px_c0, px_c1, px_c2, px_c3, px_c4, px_c5, px_c6, px_c7, px_c8, px_c9, px_c10, px_c11, px_c12, px_c13, px_c14]
    rw [c2_countIn r hw]
    simp only [px_cI, px_cIx, px_cV, px_cVx, px_cL, px_cLx, px_cR0, px_cR1, px_cRx, px_lI, px_lL, px_up, px_gZ0, px_gZ1, px_gZb, px_g0, px_g1, px_g2, px_g3, px_g4, px_g5, px_g6, px_g7, px_g8, px_g9, px_g10, px_g11, px_g12, px_g13, px_g14, px_c0, px_c1, px_c2, px_c3, px_c4, px_c5, px_c6, px_c7, px_c8, px_c9, px_c10, px_c11, px_c12, px_c13, px_c14]
    rw [p3]
    rfl
  · unfold F_X6_checksum
    simp only [px_cI, px_cIx, px_cV, px_cVx, px_cL, px_cLx, px_cR0, px_cR1, px_cRx, px_lI, px_lL, px_up, px_gZ0, px_gZ1, px_gZb, px_g0, px_g1, px_g2, px_g3, px_g4, px_g5, px_g6, px_g7, px_g8, px_g9, px_g10, px_g11, px_g12, px_g13, px_g14, px_c0, px_c1, px_c2, px_c3, px_c4, px_c5, px_c6, px_c7, px_c8, px_c9, px_c10, px_c11, px_c12, px_c13, px_c14]
    have q1' : B_X6_checksum_14 mb_fu 0 (mb_sL (mb_sI h 6 0 0 4 0) 6 0 0 15 43079) = _ := q1
    have q2' : ∀ a, B_X6_checksum_38 mb_fu 0 (mb_hh (mb_sI h 6 0 0 4 0) a) = _ := q2
    have q3' : ∀ a, B_X6_checksum_71 mb_fu 0 (mb_hh (mb_sI h 6 0 0 4 0) a) = _ := q3
    have q4' : ∀ a, B_X6_checksum_115 mb_fu 0 (mb_hh (mb_sI h 6 0 0 4 0) a) = _ := q4
    rw [q1', q2', q3', q4']
    exact q5
  · exact ((hS.up (Nat.le_succ n)).ref 0).cg rfl rfl rfl rfl rfl rfl rfl rfl rfl rfl rfl rfl rfl (by funext a b j; simp [mb_sL])
end
