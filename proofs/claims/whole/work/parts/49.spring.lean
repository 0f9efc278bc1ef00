/-! ===== pure: spring begins, both sides ===== -/
def spc (K T : Nat) (v : Nat → Int32) (k : Nat) : Nat → Int32 := if bo v k 7 = -1 then v else if (sp_in v K (bo v k 7)).isNone = true ∧ sp_fit v T k (bo v k 7).toNatClampNeg = true then vm v k 1 (bo v k 7) else if bo v k 3 = 3 then wx v k else wb v k 7 (-1)
def spr (K T : Nat) (u : Nat → Int32) (k : Nat) : Nat → Int32 := if bo u k 7 = -1 then u else if (sp_in u K (bo u k 7)).isNone = true ∧ sp_fit u T k (bo u k 7).toNatClampNeg = true then wb (wb (wb u k 3 1) k 4 (bo u k 7)) k 5 0 else if bo u k 3 = 3 then ww u k else u
def vs (w : Nat → Int32) (K T : Nat) : Nat → Nat → Int32
  | 0 => wr w 5 0
  | n + 1 => spc K T (vs w K T n) n
def us (w : Nat → Int32) (K T : Nat) : Nat → Nat → Int32
  | 0 => w
  | n + 1 => spr K T (us w K T n) n
def cl (u : Nat → Int32) : Nat → Nat → Int32
  | 0 => u
  | n + 1 => wb (cl u n) n 7 (-1)
theorem cl_lo (u : Nat → Int32) : ∀ (n i : Nat), i < 90 → cl u n i = u i := by
  intro n
  induction n with
  | zero => intro i _; rfl
  | succ n ih => intro i hi; rw [cl, wb_lo _ _ _ _ hi, ih i hi]
theorem cl_bo (u : Nat → Int32) : ∀ (n k j : Nat), j < 9 → bo (cl u n) k j = if k < n ∧ j = 7 then -1 else bo u k j := by
  intro n
  induction n with
  | zero => intro k j hj; rw [if_neg (by omega)]; rfl
  | succ n ih =>
    intro k j hj
    rw [cl, wb_bo _ _ _ _ (by decide) hj, ih k j hj]
    by_cases q : k = n ∧ j = 7
    · rw [if_pos q, if_pos (by omega)]
    · rw [if_neg q]
      by_cases q2 : k < n ∧ j = 7
      · rw [if_pos q2, if_pos (show k < n + 1 ∧ j = 7 by omega)]
      · rw [if_neg q2, if_neg (show ¬ (k < n + 1 ∧ j = 7) by omega)]
theorem spc_lo (K T : Nat) (v : Nat → Int32) (k : Nat) {i : Nat} (hi : i < 90) (h9 : i ≠ 9) : spc K T v k i = v i := by
  unfold spc
  split
  · rfl
  · split
    · exact vm_lo _ _ _ _ hi
    · split
      · exact wx_lo _ _ hi h9
      · exact wb_lo _ _ _ _ hi
theorem spc_o (K T : Nat) (v : Nat → Int32) (k : Nat) {k2 j : Nat} (hk : k2 ≠ k) (hj : j < 9) : bo (spc K T v k) k2 j = bo v k2 j := by
  unfold spc
  split
  · rfl
  · split
    · rw [vm_bo _ _ _ _ hj, if_neg hk]
    · split
      · rw [wx_bo _ _ hj, if_neg hk]
      · exact wb_other _ _ _ _ (by decide) hk hj
theorem spr_lo (K T : Nat) (u : Nat → Int32) (k : Nat) {i : Nat} (hi : i < 90) (h9 : i ≠ 9) : spr K T u k i = u i := by
  unfold spr
  split
  · rfl
  · split
    · rw [wb_lo _ _ _ _ hi, wb_lo _ _ _ _ hi, wb_lo _ _ _ _ hi]
    · split
      · exact ww_lo _ _ hi h9
      · rfl
theorem spr_o (K T : Nat) (u : Nat → Int32) (k : Nat) {k2 j : Nat} (hk : k2 ≠ k) (hj : j < 9) : bo (spr K T u k) k2 j = bo u k2 j := by
  unfold spr
  split
  · rfl
  · split
    · rw [wb_other _ _ _ _ (by decide) hk hj, wb_other _ _ _ _ (by decide) hk hj, wb_other _ _ _ _ (by decide) hk hj]
    · split
      · rw [ww_bo _ _ hj, if_neg hk]
      · rfl
def spR (u v : Nat → Int32) (n : Nat) : Prop := (∀ i, i < 90 → v i = if i = 5 then 0 else u i) ∧ ∀ k j, j < 9 → bo v k j = if k < n ∧ j = 7 then -1 else bo u k j
theorem spR_s {u v : Nat → Int32} {K T n : Nat} (hT1 : 1 ≤ T) (hT : T ≤ 14) (R : spR u v n) (hh : bo u n 7 = -1 ∨ ∃ b, b < 16 ∧ bo u n 7 = nI b) : spR (spr K T u n) (spc K T v n) (n + 1) := by
  obtain ⟨r1, r2⟩ := R
  have e : ∀ j, j < 9 → bo v n j = bo u n j := fun j hj => by rw [r2 n j hj, if_neg (by omega)]
  have e9 : v 9 = u 9 := by rw [r1 9 (by decide), if_neg (by decide)]
  have ein : ∀ x, sp_in v K x = sp_in u K x := fun x => sp_find_congr (fun k _ _ => by rw [r2 k 3 (by decide), r2 k 4 (by decide), if_neg (by omega), if_neg (by omega)])
  have efit : ∀ b, b < 16 → sp_fit v T n b = sp_fit u T n b := fun b hb => by
    have et : ∀ j, j < 4 → bt v b j = bt u b j := fun j hj => by
      show v (26 + 4 * b + j) = u (26 + 4 * b + j)
      rw [r1 _ (by omega), if_neg (by omega)]
    unfold sp_fit
    rw [e 0 (by decide), e 1 (by decide), et 1 (by decide), et 0 (by decide), r1 0 (by decide), if_neg (by decide), sp_low_cg2 (fun j h1 h2 => by rw [r1 j (by omega), if_neg (by omega)]) (T - 1) (by omega)]
  have bump : ∀ k j, (if k < n ∧ j = 7 then (-1 : Int32) else bo u k j) = (if k < n + 1 ∧ j = 7 then -1 else bo u k j) ∨ (k = n ∧ j = 7) := fun k j => by
    by_cases q : k = n ∧ j = 7
    · exact Or.inr q
    · left
      by_cases q2 : k < n ∧ j = 7
      · rw [if_pos q2, if_pos (show k < n + 1 ∧ j = 7 by omega)]
      · rw [if_neg q2, if_neg (show ¬ (k < n + 1 ∧ j = 7) by omega)]
  unfold spr spc
  rw [e 7 (by decide), e 3 (by decide), ein]
  by_cases q7 : bo u n 7 = -1
  · rw [if_pos q7, if_pos q7]
    refine ⟨r1, fun k j hj => ?_⟩
    rw [r2 k j hj]
    rcases bump k j with z | ⟨z1, z2⟩
    · exact z
    · subst z1; subst z2
      rw [if_neg (by omega), if_pos ⟨by omega, rfl⟩, q7]
  · rcases hh with z | ⟨b, hb, eb⟩
    · exact absurd z q7
    · rw [if_neg q7, if_neg q7, eb, nI_clamp (by omega), efit b hb]
      by_cases q : (sp_in u K (nI b)).isNone = true ∧ sp_fit u T n b = true
      · rw [if_pos q, if_pos q]
        refine ⟨fun i hi => ?_, fun k j hj => ?_⟩
        · rw [vm_lo _ _ _ _ hi, wb_lo _ _ _ _ hi, wb_lo _ _ _ _ hi, wb_lo _ _ _ _ hi]; exact r1 i hi
        · rw [vm_bo _ _ _ _ hj, wb_bo _ _ _ _ (by decide) hj, wb_bo _ _ _ _ (by decide) hj, wb_bo _ _ _ _ (by decide) hj]
          by_cases z : k = n
          · subst z
            rw [if_pos rfl, e j hj]
            simp only [true_and]
            by_cases z7 : j = 7
            · subst z7
              rw [if_pos (show k < k + 1 ∧ (7 : Nat) = 7 from ⟨by omega, rfl⟩)]; rfl
            · rw [if_neg (show ¬ (k < k + 1 ∧ j = 7) from fun y => z7 y.2)]
              rcases (show j = 0 ∨ j = 1 ∨ j = 2 ∨ j = 3 ∨ j = 4 ∨ j = 5 ∨ j = 6 ∨ j = 7 ∨ j = 8 by omega) with rfl | rfl | rfl | rfl | rfl | rfl | rfl | rfl | rfl <;> first | rfl | exact absurd rfl z7
          · rw [if_neg z, if_neg (show ¬ (k = n ∧ j = 5) from fun y => z y.1), if_neg (show ¬ (k = n ∧ j = 4) from fun y => z y.1), if_neg (show ¬ (k = n ∧ j = 3) from fun y => z y.1), r2 k j hj]
            rcases bump k j with y | ⟨y, -⟩
            · exact y
            · exact absurd y z
      · rw [if_neg q, if_neg q]
        by_cases q3 : bo u n 3 = 3
        · rw [if_pos q3, if_pos q3]
          refine ⟨fun i hi => ?_, fun k j hj => ?_⟩
          · by_cases z9 : i = 9
            · subst z9
              rw [wx_9, ww_9, if_neg (by decide), e9]
            · rw [wx_lo _ _ hi z9, ww_lo _ _ hi z9]; exact r1 i hi
          · rw [wx_bo _ _ hj, ww_bo _ _ hj]
            by_cases z : k = n
            · subst z
              rw [if_pos rfl, if_pos rfl, e j hj, e9]
              by_cases z7 : j = 7
              · subst z7
                rw [if_pos (show k < k + 1 ∧ (7 : Nat) = 7 from ⟨by omega, rfl⟩)]; rfl
              · rw [if_neg (show ¬ (k < k + 1 ∧ j = 7) from fun y => z7 y.2)]
                rcases (show j = 0 ∨ j = 1 ∨ j = 2 ∨ j = 3 ∨ j = 4 ∨ j = 5 ∨ j = 6 ∨ j = 7 ∨ j = 8 by omega) with rfl | rfl | rfl | rfl | rfl | rfl | rfl | rfl | rfl <;> first | rfl | exact absurd rfl z7
            · rw [if_neg z, if_neg z, r2 k j hj]
              rcases bump k j with y | ⟨y, -⟩
              · exact y
              · exact absurd y z
        · rw [if_neg q3, if_neg q3]
          refine ⟨fun i hi => by rw [wb_lo _ _ _ _ hi]; exact r1 i hi, fun k j hj => ?_⟩
          rw [wb_bo _ _ _ _ (by decide) hj, r2 k j hj]
          by_cases z : k = n ∧ j = 7
          · rw [if_pos z, if_pos ⟨by omega, z.2⟩]
          · rw [if_neg z]
            rcases bump k j with y | y
            · exact y
            · exact absurd y z
section
variable {h g : mb_AH} {w v : Nat → Int32} {B K T D U n o : Nat}
theorem vs_lo (w : Nat → Int32) (K T : Nat) : ∀ (n i : Nat), i < 90 → i ≠ 9 → vs w K T n i = if i = 5 then 0 else w i := by
  intro n
  induction n with
  | zero => intro i _ _; rfl
  | succ n ih => intro i hi h9; rw [vs, spc_lo _ _ _ _ hi h9]; exact ih i hi h9
theorem vs_up (w : Nat → Int32) (K T : Nat) : ∀ (n k j : Nat), n ≤ k → j < 9 → bo (vs w K T n) k j = bo w k j := by
  intro n
  induction n with
  | zero => intro k j _ hj; exact wr_o _ _ _ (by omega)
  | succ n ih => intro k j hk hj; rw [vs, spc_o _ _ _ _ (by omega) hj]; exact ih k j (by omega) hj
theorem us_lo (w : Nat → Int32) (K T : Nat) : ∀ (n i : Nat), i < 90 → i ≠ 9 → us w K T n i = w i := by
  intro n
  induction n with
  | zero => intro i _ _; rfl
  | succ n ih => intro i hi h9; rw [us, spr_lo _ _ _ _ hi h9]; exact ih i hi h9
theorem us_up (w : Nat → Int32) (K T : Nat) : ∀ (n k j : Nat), n ≤ k → j < 9 → bo (us w K T n) k j = bo w k j := by
  intro n
  induction n with
  | zero => intro k j _ _; rfl
  | succ n ih => intro k j hk hj; rw [us, spr_o _ _ _ _ (by omega) hj]; exact ih k j (by omega) hj
theorem hm_16 (hw : mb_W w B K T D U) {k : Nat} (hk : k < K) : bo w k 7 = -1 ∨ ∃ b, b < B ∧ bo w k 7 = nI b := (hw.boat hk).2.1
theorem us_vs (hw : mb_W w B K T D U) : ∀ n, n ≤ K → spR (us w K T n) (vs w K T n) n := by
  have hB := hw.B16
  intro n
  induction n with
  | zero =>
    intro _
    refine ⟨fun i _ => rfl, fun k j hj => ?_⟩
    rw [if_neg (by omega)]
    exact wr_o _ _ _ (by omega)
  | succ n ih =>
    intro hn
    refine spR_s hw.T1 hw.T14 (ih (by omega)) ?_
    rw [us_up w K T n n 7 (Nat.le_refl _) (by decide)]
    rcases hm_16 hw (show n < K by omega) with z | ⟨b, hb, z⟩
    · exact Or.inl z
    · exact Or.inr ⟨b, by omega, z⟩
theorem cl_vs (hw : mb_W w B K T D U) : wr (cl (us w K T K) K) 5 0 = vs w K T K := by
  obtain ⟨r1, r2⟩ := us_vs hw K (Nat.le_refl _)
  refine row_ext (fun i hi => ?_) (fun k j hj => ?_)
  · rw [r1 i hi]
    by_cases q : i = 5
    · subst q; rw [wr_s, if_pos rfl]
    · rw [wr_o _ _ _ q, if_neg q, cl_lo _ _ _ hi]
  · rw [r2 k j hj]
    have e : bo (wr (cl (us w K T K) K) 5 0) k j = bo (cl (us w K T K) K) k j := wr_o _ _ _ (by omega)
    rw [e, cl_bo _ _ _ _ hj]
theorem no7_W (hw : mb_W w B K T D U) (k : Nat) : mb_W (wb w k 7 (-1)) B K T D U := by
  have e : ∀ i, i < 90 → wb w k 7 (-1) i = w i := fun i hi => wb_lo _ _ _ _ hi
  have eo : ∀ x j, j < 9 → j ≠ 7 → bo (wb w k 7 (-1)) x j = bo w x j := fun x j hj h7 => by rw [wb_bo _ _ _ _ (by decide) hj, if_neg (by omega)]
  refine hw.gen (fun j h1 _ _ _ => e j h1) (by rw [e 4 (by decide)]; exact hw.dy) hw.dl (by rw [e 5 (by decide)]; exact hw.wi) (by rw [e 9 (by decide)]; exact hw.2.2.1.1) hw.2.2.1.2 (fun x hx => ?_) (fun x y hx hy h1 h2 e4 => ?_) (fun x y hx hy h1 h2 e4 => ?_)
  · have hb := hw.boat hx
    unfold mb_at9 mb_hm9 mb_wt9 mb_nu9 at hb ⊢
    rw [eo x 0 (by decide) (by decide), eo x 1 (by decide) (by decide), eo x 2 (by decide) (by decide), eo x 3 (by decide) (by decide), eo x 4 (by decide) (by decide), eo x 5 (by decide) (by decide), eo x 6 (by decide) (by decide), eo x 8 (by decide) (by decide)]
    refine ⟨hb.1, ?_, hb.2.2⟩
    rw [wb_bo _ _ _ _ (by decide) (by decide)]
    by_cases q : x = k ∧ 7 = 7
    · rw [if_pos q]; exact Or.inl rfl
    · rw [if_neg q]; exact hb.2.1
  · rw [eo x 3 (by decide) (by decide)] at h1
    rw [eo y 3 (by decide) (by decide)] at h2
    rw [eo x 4 (by decide) (by decide), eo y 4 (by decide) (by decide)] at e4
    exact hw.2.2.2.2.2.1 x y hx hy h1 h2 e4
  · rw [eo x 3 (by decide) (by decide)] at h1
    rw [eo y 3 (by decide) (by decide)] at h2
    rw [eo x 6 (by decide) (by decide), eo y 6 (by decide) (by decide)] at e4
    exact hw.2.2.2.2.2.2.1 x y hx hy h1 h2 e4
theorem vs_W (hw : mb_W w B K T D U) (lU : U + 20 ≤ 5000000) : ∀ n, n ≤ K → ∃ Un, Un ≤ U + n ∧ mb_W (vs w K T n) B K T D Un := by
  have hB := hw.B16; have hK := hw.K20
  intro n
  induction n with
  | zero =>
    intro _
    have e : ∀ i, i ≠ 5 → wr w 5 0 i = w i := fun i hi => wr_o _ _ _ hi
    have eo : ∀ k j, bo (wr w 5 0) k j = bo w k j := fun k j => e _ (by omega)
    refine ⟨U, Nat.le_refl _, hw.gen (fun j _ _ h5 _ => e j h5) (by rw [vs, e 4 (by decide)]; exact hw.dy) hw.dl (Or.inl (wr_s _ _ _)) (by rw [vs, e 9 (by decide)]; exact hw.2.2.1.1) hw.2.2.1.2 (fun k hk => ?_) (fun x y hx hy h1 h2 e4 => ?_) (fun x y hx hy h1 h2 e4 => ?_)⟩
    · have hb := hw.boat hk
      rw [vs]
      unfold mb_at9 mb_hm9 mb_wt9 mb_nu9 at hb ⊢
      simp only [eo]
      exact hb
    · rw [vs] at h1 h2 e4
      simp only [eo] at h1 h2 e4
      exact hw.2.2.2.2.2.1 x y hx hy h1 h2 e4
    · rw [vs] at h1 h2 e4
      simp only [eo] at h1 h2 e4
      exact hw.2.2.2.2.2.2.1 x y hx hy h1 h2 e4
  | succ n ih =>
    intro hn
    obtain ⟨Un, l, hv⟩ := ih (by omega)
    have hnK : n < K := by omega
    rw [vs]
    unfold spc
    by_cases q7 : bo (vs w K T n) n 7 = -1
    · rw [if_pos q7]; exact ⟨Un, by omega, hv⟩
    · rw [if_neg q7]
      rcases hm_16 hv hnK with z | ⟨b, hb, z⟩
      · exact absurd z q7
      · by_cases q : (sp_in (vs w K T n) K (bo (vs w K T n) n 7)).isNone = true ∧ sp_fit (vs w K T n) T n (bo (vs w K T n) n 7).toNatClampNeg = true
        · rw [if_pos q]
          rw [z, nI_clamp (by omega)] at q
          exact ⟨Un, by omega, mv_W hv hnK (Or.inl ⟨rfl, b, hb, z, Option.isNone_iff_eq_none.mp q.1, sp_fit_len q.2⟩)⟩
        · rw [if_neg q]
          by_cases q3 : bo (vs w K T n) n 3 = 3
          · rw [if_pos q3]; exact ⟨Un + 1, by omega, wx_W hv (by omega) hnK⟩
          · rw [if_neg q3]; exact ⟨Un, by omega, no7_W hv n⟩
theorem vs_H (hw : mb_W w B K T D U) (hH : mb_H w K) : mb_H (vs w K T K) K := by
  have hB := hw.B16
  have et : ∀ n b, b < B → bt (vs w K T n) b 1 = bt w b 1 := fun n b hb => by
    show vs w K T n (26 + 4 * b + 1) = w (26 + 4 * b + 1)
    rw [vs_lo w K T n _ (by omega) (by omega), if_neg (by omega)]
  have key : ∀ n, n ≤ K → ∀ k, k < n → bo (vs w K T n) k 7 = -1 ∧ bo (vs w K T n) k 3 ≠ 3 ∧ (bo (vs w K T n) k 3 = 1 → ∃ b, b < B ∧ bo (vs w K T n) k 4 = nI b ∧ bo (vs w K T n) k 0 ≤ bt w b 1) := by
    intro n
    induction n with
    | zero => intro _ k hk; exact absurd hk (Nat.not_lt_zero k)
    | succ n ih =>
      intro hn k hk
      have hnK : n < K := by omega
      by_cases q : k = n
      · subst q
        have up := fun j (hj : j < 9) => vs_up w K T k k j (Nat.le_refl _) hj
        have hh := hH k hnK
        have hlen : bo (vs w K T k) k 3 = 1 → ∃ b, b < B ∧ bo (vs w K T k) k 4 = nI b ∧ bo (vs w K T k) k 0 ≤ bt w b 1 := fun z => by
          rw [up 3 (by decide)] at z
          rcases (hw.boat hnK).1 with ⟨-, b, hb, h4⟩ | ⟨h3, -⟩
          · have := hh.2.2 z
            rw [h4, nI_clamp (by omega)] at this
            exact ⟨b, hb, by rw [up 4 (by decide)]; exact h4, by rw [up 0 (by decide)]; exact this⟩
          · exact absurd z (sp_ne1 h3)
        rw [vs]
        unfold spc
        by_cases q7 : bo (vs w K T k) k 7 = -1
        · rw [if_pos q7]
          refine ⟨q7, fun z => ?_, hlen⟩
          rw [up 3 (by decide)] at z
          rw [up 7 (by decide)] at q7
          exact hh.2.1 z q7
        · rw [if_neg q7]
          rcases hm_16 hw hnK with z | ⟨b, hb, z⟩
          · rw [up 7 (by decide)] at q7; exact absurd z q7
          · by_cases q : (sp_in (vs w K T k) K (bo (vs w K T k) k 7)).isNone = true ∧ sp_fit (vs w K T k) T k (bo (vs w K T k) k 7).toNatClampNeg = true
            · rw [if_pos q]
              rw [up 7 (by decide), z, nI_clamp (by omega)] at q
              refine ⟨vm_7 _ _ _ _, by rw [vm_3]; decide, fun _ => ⟨b, hb, by rw [vm_4, up 7 (by decide)]; exact z, ?_⟩⟩
              rw [vm_j _ _ _ _ (Or.inl rfl), ← et k b hb]
              exact sp_fit_len q.2
            · rw [if_neg q]
              by_cases q3 : bo (vs w K T k) k 3 = 3
              · rw [if_pos q3]
                have e3 : bo (wx (vs w K T k) k) k 3 = 2 := by rw [wx_bo _ _ (by decide), if_pos rfl]; rfl
                have e7 : bo (wx (vs w K T k) k) k 7 = -1 := by rw [wx_bo _ _ (by decide), if_pos rfl]; rfl
                exact ⟨e7, by rw [e3]; decide, fun y => by rw [e3] at y; exact absurd y (by decide)⟩
              · rw [if_neg q3]
                have e : ∀ j, j < 9 → j ≠ 7 → bo (wb (vs w K T k) k 7 (-1)) k j = bo (vs w K T k) k j := fun j hj h7 => by rw [wb_bo _ _ _ _ (by decide) hj, if_neg (by omega)]
                rw [e 3 (by decide) (by decide), e 4 (by decide) (by decide), e 0 (by decide) (by decide)]
                exact ⟨by rw [wb_bo _ _ _ _ (by decide) (by decide), if_pos ⟨rfl, rfl⟩], q3, hlen⟩
      · have := ih (by omega) k (by omega)
        rw [vs, spc_o _ _ _ _ q (by decide), spc_o _ _ _ _ q (by decide), spc_o _ _ _ _ q (by decide), spc_o _ _ _ _ q (by decide)]
        exact this
  intro k hk
  obtain ⟨a, b, c⟩ := key K (Nat.le_refl _) k hk
  refine ⟨fun z => absurd a z, fun z => absurd z b, fun z => ?_⟩
  obtain ⟨b9, c1, c2, c3⟩ := c z
  rw [c2, nI_clamp (by omega), et K b9 c1]
  exact c3
theorem c2_bs7 (hw : mb_W w B K T D U) (lU : U + 20 ≤ 5000000) : ∀ (m k f : Nat) (h : mb_AH), k + m = K → m < f → mb_RM h o (vs w K T k) B K T → ∃ g, B_X2_beginSpring_7 f o (nI k) h = mb_rV g ∧ mb_Fr o h g ∧ mb_RM g o (vs w K T K) B K T := by
  have hB := hw.B16; have hK := hw.K20; have hT := hw.T14
  intro m
  induction m with
  | zero =>
    intro k f h hk hf r
    obtain ⟨f, rfl⟩ : ∃ g, f = g + 1 := ⟨f - 1, by omega⟩
    have : k = K := by omega
    subst this
    obtain ⟨Uk, -, hv⟩ := vs_W hw lU k (Nat.le_refl _)
    refine ⟨h, ?_, mb_Fr.rf _ _, r⟩
    rw [B_X2_beginSpring_7, r.f7, hv.w7, if_pos (nI_le (by omega) (by omega))]
  | succ m ih =>
    intro k f h hk hf r
    obtain ⟨f, rfl⟩ : ∃ g, f = g + 1 := ⟨f - 1, by omega⟩
    have hkK : k < K := by omega
    have hk20 : k < 20 := by omega
    obtain ⟨Uk, -, hv⟩ := vs_W hw lU k (by omega)
    have evs : vs w K T (k + 1) = spc K T (vs w K T k) k := rfl
    have h87 : ∀ g2 : mb_AH, mb_Fr o h g2 → mb_RM (mb_sI g2 3 o k 5 (-1)) o (vs w K T (k + 1)) B K T → ∃ g, B_X2_beginSpring_87 (B_X2_beginSpring_7 f) o (nI k) o k g2 = mb_rV g ∧ mb_Fr o h g ∧ mb_RM g o (vs w K T K) B K T := fun g2 fr r2 => by
      obtain ⟨g, e1, e2, e3⟩ := ih (k + 1) f (mb_sI g2 3 o k 5 (-1)) (by omega) (by omega) r2
      refine ⟨g, ?_, (fr.tr (mb_Fr.wI g2 k 5 _ (by decide))).tr e2, e3⟩
      unfold B_X2_beginSpring_87
      simp only [px_cI, px_cIx, px_cV, px_cVx, px_cL, px_cLx, px_cR0, px_cR1, px_cRx, px_lI, px_lL, px_up, px_gZ0, px_gZ1, px_gZb, px_g0, px_g1, px_g2, px_g3, px_g4, px_g5, px_g6, px_g7, px_g8, px_g9, px_g10, px_g11, px_g12, px_g13, px_g14, px_c0, px_c1, px_c2, px_c3, px_c4, px_c5, px_c6, px_c7, px_c8, px_c9, px_c10, px_c11, px_c12, px_c13, px_c14, nI_1]
      exact e1
    rw [B_X2_beginSpring_7, r.f7, hv.w7, if_neg (nI_ge (by omega) (by omega)), px_gB hk20 (by decide), nI_clamp (by omega), (r.q hkK).2.2.2.2.2.1]
    simp only [px_cI, px_cIx, px_cV, px_cVx, px_cL, px_cLx, px_cR0, px_cR1, px_cRx, px_lI, px_lL, px_up, px_gZ0, px_gZ1, px_gZb, px_g0, px_g1, px_g2, px_g3, px_g4, px_g5, px_g6, px_g7, px_g8, px_g9, px_g10, px_g11, px_g12, px_g13, px_g14, px_c0, px_c1, px_c2, px_c3, px_c4, px_c5, px_c6, px_c7, px_c8, px_c9, px_c10, px_c11, px_c12, px_c13, px_c14, nI_1]
    rcases hm_16 hv hkK with z | ⟨b, hb, z⟩
    · rw [z, if_pos (by decide)]
      have e9 : vs w K T (k + 1) = vs w K T k := by rw [evs]; exact if_pos z
      exact ih (k + 1) f h (by omega) (by omega) (by rw [e9]; exact r)
    · have q7 : ¬ bo (vs w K T k) k 7 = -1 := by rw [z]; exact px_neg1 (by omega)
      rw [z, if_neg (show ¬ nI b < 0 from Int32.not_lt.mpr (nI_pos' (by omega))), r.f6, hv.w6, if_pos (nI_lt hb (by omega)), c2_boatIn r hv (by omega)]
      simp only [px_cI, px_cIx, px_cV, px_cVx, px_cL, px_cLx, px_cR0, px_cR1, px_cRx, px_lI, px_lL, px_up, px_gZ0, px_gZ1, px_gZb, px_g0, px_g1, px_g2, px_g3, px_g4, px_g5, px_g6, px_g7, px_g8, px_g9, px_g10, px_g11, px_g12, px_g13, px_g14, px_c0, px_c1, px_c2, px_c3, px_c4, px_c5, px_c6, px_c7, px_c8, px_c9, px_c10, px_c11, px_c12, px_c13, px_c14]
      have h74 : ¬ ((sp_in (vs w K T k) K (nI b)).isNone = true ∧ sp_fit (vs w K T k) T k b = true) → ∃ g, B_X2_beginSpring_74 (B_X2_beginSpring_7 f) o (nI k) o k h = mb_rV g ∧ mb_Fr o h g ∧ mb_RM g o (vs w K T K) B K T := fun q => by
        unfold B_X2_beginSpring_74
        rw [(r.q hkK).2.2.2.1]
        by_cases q3 : bo (vs w K T k) k 3 = 3
        · rw [if_pos q3]
          obtain ⟨g5, e2, fr, o3, o2, om, o9, o1⟩ := c2_begin o k h
          rw [e2]
          simp only [px_cI, px_cIx, px_cV, px_cVx, px_cL, px_cLx, px_cR0, px_cR1, px_cRx, px_lI, px_lL, px_up, px_gZ0, px_gZ1, px_gZb, px_g0, px_g1, px_g2, px_g3, px_g4, px_g5, px_g6, px_g7, px_g8, px_g9, px_g10, px_g11, px_g12, px_g13, px_g14, px_c0, px_c1, px_c2, px_c3, px_c4, px_c5, px_c6, px_c7, px_c8, px_c9, px_c10, px_c11, px_c12, px_c13, px_c14]
          have r5 := wx_RM r hB hT hkK o3 o2 om o9 o1
          have e5 : g5.1 3 o k 5 = -1 := by rw [o1, if_pos rfl]; rfl
          have e9 : vs w K T (k + 1) = wx (vs w K T k) k := by
            rw [evs]
            unfold spc
            rw [if_neg q7, z, nI_clamp (by omega), if_neg q, if_pos q3]
          refine h87 g5 fr ?_
          rw [e9, ← e5, mb_sI_id]
          exact r5
        · rw [if_neg q3]
          have e9 : vs w K T (k + 1) = wb (vs w K T k) k 7 (-1) := by
            rw [evs]
            unfold spc
            rw [if_neg q7, z, nI_clamp (by omega), if_neg q, if_neg q3]
          refine h87 h (mb_Fr.rf _ _) ?_
          rw [e9]
          obtain ⟨a0, a1, a2, a3, a4, a5, a6⟩ := r.q hkK
          refine r.boat1 (k0 := k) hB hT (fun j hj _ => wb_lo _ _ _ _ hj) ?_ (fun k2 _ hne j hj => wb_other _ _ _ _ (by decide) hne hj) (fun j _ => by rw [mb_sI_o _ _ _ _ _ _ (by decide)]) (by rw [mb_sI_o _ _ _ _ _ _ (by decide)]) (fun k2 hne => ?_) (by rw [mb_sI_o _ _ _ _ _ _ (by decide)]) rfl ?_
          · rw [mb_sI_o _ _ _ _ _ _ (by decide), r.f9, wb_lo _ _ _ _ (by decide)]
          · funext j
            simp [mb_sI, hne]
          · unfold cp_b
            have e : ∀ j, j < 9 → j ≠ 7 → bo (wb (vs w K T k) k 7 (-1)) k j = bo (vs w K T k) k j := fun j hj h7 => by rw [wb_bo _ _ _ _ (by decide) hj, if_neg (by omega)]
            rw [e 0 (by decide) (by decide), e 1 (by decide) (by decide), e 2 (by decide) (by decide), e 3 (by decide) (by decide), e 4 (by decide) (by decide), e 5 (by decide) (by decide), e 6 (by decide) (by decide), e 8 (by decide) (by decide), wb_bo _ _ _ _ (by decide) (show 7 < 9 by decide), if_pos ⟨rfl, rfl⟩, wb_lo _ _ _ _ (show 4 < 90 by decide)]
            refine ⟨?_, fun y => ?_⟩
            · simp [mb_sI, a0, a1, a2, a3, a4, a6]
            · have := r.ow hkK y
              simp [mb_sI, this.1, this.2]
      cases hin : sp_in (vs w K T k) K (nI b) with
      | none =>
        rw [show mb_oi none = -1 from rfl, if_pos rfl, px_gB (show b < 16 by omega) (by decide), nI_clamp (by omega), c2_suits r hkK hb]
        simp only [px_cI, px_cIx, px_cV, px_cVx, px_cL, px_cLx, px_cR0, px_cR1, px_cRx, px_lI, px_lL, px_up, px_gZ0, px_gZ1, px_gZb, px_g0, px_g1, px_g2, px_g3, px_g4, px_g5, px_g6, px_g7, px_g8, px_g9, px_g10, px_g11, px_g12, px_g13, px_g14, px_c0, px_c1, px_c2, px_c3, px_c4, px_c5, px_c6, px_c7, px_c8, px_c9, px_c10, px_c11, px_c12, px_c13, px_c14]
        cases hfit : sp_fit (vs w K T k) T k b with
        | false =>
          rw [if_pos (by rfl)]
          exact h74 (by rw [hfit]; simp)
        | true =>
          rw [if_neg (by decide)]
          obtain ⟨g5, e1, fr, o3, o2, o1⟩ := c1_move o k 1 (nI b) h
          have e5 : g5 = mb_sI (mb_sI (mb_sI h 3 o k 3 1) 3 o k 4 (nI b)) 3 o k 5 (-1) := mb_rV_inj (e1.symm.trans rfl)
          have emv : F_X1_move o k 1 (nI b) h = mb_rV (mb_sI (mb_sI h 3 o k 3 1) 3 o k 4 (nI b)) := rfl
          rw [emv]
          simp only [px_cI, px_cIx, px_cV, px_cVx, px_cL, px_cLx, px_cR0, px_cR1, px_cRx, px_lI, px_lL, px_up, px_gZ0, px_gZ1, px_gZb, px_g0, px_g1, px_g2, px_g3, px_g4, px_g5, px_g6, px_g7, px_g8, px_g9, px_g10, px_g11, px_g12, px_g13, px_g14, px_c0, px_c1, px_c2, px_c3, px_c4, px_c5, px_c6, px_c7, px_c8, px_c9, px_c10, px_c11, px_c12, px_c13, px_c14]
          have e9 : vs w K T (k + 1) = vm (vs w K T k) k 1 (nI b) := by
            rw [evs]
            unfold spc
            rw [if_neg q7, z, nI_clamp (by omega), if_pos ⟨by rw [hin]; rfl, hfit⟩]
          refine h87 _ ((mb_Fr.wI h k 3 _ (by decide)).tr (mb_Fr.wI _ k 4 _ (by decide))) ?_
          rw [← e5, e9]
          exact mv_RM r hB hT hkK (by decide) o3 o2 o1
      | some x =>
        have hx := (sp_find_some hin).2.1
        rw [show mb_oi (some x) = nI x from rfl, if_neg (px_neg1 (by omega))]
        exact h74 (by rw [hin]; simp)
theorem c2_beginSpring (hw : mb_W w B K T D U) (lU : U + 20 ≤ 5000000) (r : mb_RM h o w B K T) : ∃ g, F_X2_beginSpring o h = mb_rV g ∧ mb_Fr o h g ∧ mb_RM g o (vs w K T K) B K T := by
  have hB := hw.B16; have hK := hw.K20; have hT := hw.T14
  have r1 : mb_RM (mb_sI h 1 o 0 12 0) o (vs w K T 0) B K T := by
    have ev : ∀ j, j ≠ 5 → vs w K T 0 j = w j := fun j hj => wr_o _ _ _ hj
    refine r.gen hB hT (fun j _ _ h5 _ => ev j h5) (by rw [mb_sI_j _ _ _ _ _ _ (by decide), ev 4 (by decide)]; exact r.f4) (by rw [mb_sI_s]; exact (wr_s _ _ _).symm) (by rw [mb_sI_j _ _ _ _ _ _ (by decide), ev 9 (by decide)]; exact r.f9) (fun j _ h12 _ => mb_sI_j _ _ _ _ _ _ h12 _ _ _) (by rw [mb_sI_o _ _ _ _ _ _ (by decide)]) (by rw [mb_sI_o _ _ _ _ _ _ (by decide)]) rfl (fun k hk => ?_)
    have eb : ∀ j, bo (vs w K T 0) k j = bo w k j := fun j => ev _ (by omega)
    unfold cp_b
    simp only [eb]
    rw [mb_sI_o _ _ _ _ _ _ (by decide), ev 4 (by decide)]
    exact r.2.2.2.2.2 k hk
  obtain ⟨g, e1, e2, e3⟩ := c2_bs7 hw lU K 0 mb_fu _ (by omega) (by unfold mb_fu; omega) r1
  refine ⟨g, ?_, (mb_Fr.wI (k := 1) h 0 12 0 (by decide)).tr e2, e3⟩
  unfold F_X2_beginSpring
  simp only [px_cI, px_cIx, px_cV, px_cVx, px_cL, px_cLx, px_cR0, px_cR1, px_cRx, px_lI, px_lL, px_up, px_gZ0, px_gZ1, px_gZb, px_g0, px_g1, px_g2, px_g3, px_g4, px_g5, px_g6, px_g7, px_g8, px_g9, px_g10, px_g11, px_g12, px_g13, px_g14, px_c0, px_c1, px_c2, px_c3, px_c4, px_c5, px_c6, px_c7, px_c8, px_c9, px_c10, px_c11, px_c12, px_c13, px_c14]
  exact e1
theorem m6_ends2 (hw : mb_W w B K T D U) : ∀ (m k f : Nat) (h : mb_AH), k + m = K → m < f → h.1 20 0 0 = us w K T k → ∃ g, B_X6_ends_2 f (nI k) h = B_X6_ends_77 mb_fu 0 g ∧ (∀ i, i ≠ 20 → g.1 i = h.1 i) ∧ g.2 = h.2 ∧ g.1 20 0 0 = us w K T K := by
  have hB := hw.B16; have hK := hw.K20
  intro m
  induction m with
  | zero =>
    intro k f h hk hf hr
    obtain ⟨f, rfl⟩ : ∃ g, f = g + 1 := ⟨f - 1, by omega⟩
    have : k = K := by omega
    subst this
    refine ⟨h, ?_, fun _ _ => rfl, rfl, hr⟩
    rw [B_X6_ends_2]
    simp only [px_cI, px_cIx, px_cV, px_cVx, px_cL, px_cLx, px_cR0, px_cR1, px_cRx, px_lI, px_lL, px_up, px_gZ0, px_gZ1, px_gZb, px_g0, px_g1, px_g2, px_g3, px_g4, px_g5, px_g6, px_g7, px_g8, px_g9, px_g10, px_g11, px_g12, px_g13, px_g14, px_c0, px_c1, px_c2, px_c3, px_c4, px_c5, px_c6, px_c7, px_c8, px_c9, px_c10, px_c11, px_c12, px_c13, px_c14]
    rw [hr, us_lo w k T k 7 (by decide) (by decide), hw.w7, if_pos (nI_le (by omega) (by omega))]
  | succ m ih =>
    intro k f h hk hf hr
    obtain ⟨f, rfl⟩ : ∃ g, f = g + 1 := ⟨f - 1, by omega⟩
    have hkK : k < K := by omega
    have hk20 : k < 20 := by omega
    have hz : mb_W0 (h.1 20 0 0) B K T := by
      have := hw.z
      rw [hr]
      unfold mb_W0 at this ⊢
      rw [us_lo w K T k 6 (by decide) (by decide), us_lo w K T k 7 (by decide) (by decide), us_lo w K T k 8 (by decide) (by decide)]
      exact this
    have eus : us w K T (k + 1) = spr K T (h.1 20 0 0) k := by rw [hr]; rfl
    have e7 : bo (h.1 20 0 0) k 7 = bo w k 7 := by rw [hr]; exact us_up w K T k k 7 (Nat.le_refl _) (by decide)
    have nx : ∀ g2 : mb_AH, (∀ i, i ≠ 20 → g2.1 i = h.1 i) → g2.2 = h.2 → g2.1 20 0 0 = us w K T (k + 1) → ∃ g, B_X6_ends_2 f (nI (k + 1)) g2 = B_X6_ends_77 mb_fu 0 g ∧ (∀ i, i ≠ 20 → g.1 i = h.1 i) ∧ g.2 = h.2 ∧ g.1 20 0 0 = us w K T K := fun g2 a b c => by
      obtain ⟨g, e1, e2, e3, e4⟩ := ih (k + 1) f g2 (by omega) (by omega) c
      exact ⟨g, e1, fun i hi => by rw [e2 i hi, a i hi], e3.trans b, e4⟩
    have hr7 : h.1 20 0 0 7 = nI K := by rw [hr, us_lo w K T k 7 (by decide) (by decide)]; exact hw.w7
    rw [B_X6_ends_2]
    simp only [px_cI, px_cIx, px_cV, px_cVx, px_cL, px_cLx, px_cR0, px_cR1, px_cRx, px_lI, px_lL, px_up, px_gZ0, px_gZ1, px_gZb, px_g0, px_g1, px_g2, px_g3, px_g4, px_g5, px_g6, px_g7, px_g8, px_g9, px_g10, px_g11, px_g12, px_g13, px_g14, px_c0, px_c1, px_c2, px_c3, px_c4, px_c5, px_c6, px_c7, px_c8, px_c9, px_c10, px_c11, px_c12, px_c13, px_c14, m6_oB hk20 (j := 7) (by decide) (y := 7) rfl, nI_1]
    rw [hr7, if_neg (nI_ge (by omega) (by omega))]
    rcases hm_16 hw hkK with z | ⟨b, hb, z⟩
    · have q7 : bo (h.1 20 0 0) k 7 = -1 := e7.trans z
      rw [if_pos q7]
      exact nx h (fun _ _ => rfl) rfl (by rw [eus]; exact (if_pos q7).symm)
    · have e7b : bo (h.1 20 0 0) k 7 = nI b := e7.trans z
      have q7 : ¬ bo (h.1 20 0 0) k 7 = -1 := by rw [e7b]; exact px_neg1 (by omega)
      rw [if_neg q7, e7b, m6_boatIn hz]
      simp only [px_cI, px_cIx, px_cV, px_cVx, px_cL, px_cLx, px_cR0, px_cR1, px_cRx, px_lI, px_lL, px_up, px_gZ0, px_gZ1, px_gZb, px_g0, px_g1, px_g2, px_g3, px_g4, px_g5, px_g6, px_g7, px_g8, px_g9, px_g10, px_g11, px_g12, px_g13, px_g14, px_c0, px_c1, px_c2, px_c3, px_c4, px_c5, px_c6, px_c7, px_c8, px_c9, px_c10, px_c11, px_c12, px_c13, px_c14]
      have h54 : ¬ ((sp_in (h.1 20 0 0) K (nI b)).isNone = true ∧ sp_fit (h.1 20 0 0) T k b = true) → ∃ g, B_X6_ends_54 (B_X6_ends_2 f) (nI k) h = B_X6_ends_77 mb_fu 0 g ∧ (∀ i, i ≠ 20 → g.1 i = h.1 i) ∧ g.2 = h.2 ∧ g.1 20 0 0 = us w K T K := fun q => by
        unfold B_X6_ends_54
        simp only [px_cI, px_cIx, px_cV, px_cVx, px_cL, px_cLx, px_cR0, px_cR1, px_cRx, px_lI, px_lL, px_up, px_gZ0, px_gZ1, px_gZb, px_g0, px_g1, px_g2, px_g3, px_g4, px_g5, px_g6, px_g7, px_g8, px_g9, px_g10, px_g11, px_g12, px_g13, px_g14, px_c0, px_c1, px_c2, px_c3, px_c4, px_c5, px_c6, px_c7, px_c8, px_c9, px_c10, px_c11, px_c12, px_c13, px_c14, m6_oB hk20 (j := 3) (by decide) (y := 3) rfl, nI_1]
        by_cases q3 : bo (h.1 20 0 0) k 3 = 3
        · rw [if_pos q3]
          obtain ⟨g6, p1, p2, p3, p4⟩ := m6_waits hk20 h
          rw [p1]
          simp only [px_cI, px_cIx, px_cV, px_cVx, px_cL, px_cLx, px_cR0, px_cR1, px_cRx, px_lI, px_lL, px_up, px_gZ0, px_gZ1, px_gZb, px_g0, px_g1, px_g2, px_g3, px_g4, px_g5, px_g6, px_g7, px_g8, px_g9, px_g10, px_g11, px_g12, px_g13, px_g14, px_c0, px_c1, px_c2, px_c3, px_c4, px_c5, px_c6, px_c7, px_c8, px_c9, px_c10, px_c11, px_c12, px_c13, px_c14]
          refine nx g6 p2 p3 ?_
          rw [p4, eus]
          unfold spr
          rw [if_neg q7, e7b, nI_clamp (by omega), if_neg q, if_pos q3]
        · rw [if_neg q3]
          refine nx h (fun _ _ => rfl) rfl ?_
          rw [eus]
          unfold spr
          rw [if_neg q7, e7b, nI_clamp (by omega), if_neg q, if_neg q3]
      cases hin : sp_in (h.1 20 0 0) K (nI b) with
      | none =>
        rw [show mb_oi none = -1 from rfl, if_pos rfl, m6_isFit hz hk20 (show b < 16 by omega)]
        simp only [px_cI, px_cIx, px_cV, px_cVx, px_cL, px_cLx, px_cR0, px_cR1, px_cRx, px_lI, px_lL, px_up, px_gZ0, px_gZ1, px_gZb, px_g0, px_g1, px_g2, px_g3, px_g4, px_g5, px_g6, px_g7, px_g8, px_g9, px_g10, px_g11, px_g12, px_g13, px_g14, px_c0, px_c1, px_c2, px_c3, px_c4, px_c5, px_c6, px_c7, px_c8, px_c9, px_c10, px_c11, px_c12, px_c13, px_c14]
        cases hfit : sp_fit (h.1 20 0 0) T k b with
        | false =>
          rw [if_pos (by rfl)]
          exact h54 (by rw [hfit]; simp)
        | true =>
          rw [if_neg (by decide)]
          obtain ⟨p1, p2⟩ := m6_puts hk20 1 (nI b) h
          rw [p1]
          simp only [px_cI, px_cIx, px_cV, px_cVx, px_cL, px_cLx, px_cR0, px_cR1, px_cRx, px_lI, px_lL, px_up, px_gZ0, px_gZ1, px_gZb, px_g0, px_g1, px_g2, px_g3, px_g4, px_g5, px_g6, px_g7, px_g8, px_g9, px_g10, px_g11, px_g12, px_g13, px_g14, px_c0, px_c1, px_c2, px_c3, px_c4, px_c5, px_c6, px_c7, px_c8, px_c9, px_c10, px_c11, px_c12, px_c13, px_c14]
          refine nx _ (fun i hi => by rw [mb_sI_o _ _ _ _ _ _ hi, mb_sI_o _ _ _ _ _ _ hi, mb_sI_o _ _ _ _ _ _ hi]) rfl ?_
          rw [p2, eus]
          unfold spr
          rw [if_neg q7, e7b, nI_clamp (by omega), if_pos ⟨by rw [hin]; rfl, hfit⟩]
      | some x =>
        have hx := (sp_find_some hin).2.1
        rw [show mb_oi (some x) = nI x from rfl, if_neg (px_neg1 (by omega))]
        exact h54 (by rw [hin]; simp)
theorem m6_ends77 {u : Nat → Int32} (hK : K ≤ 20) (h7 : u 7 = nI K) : ∀ (m k f : Nat) (h : mb_AH), k + m = K → m < f → h.1 20 0 0 = cl u k → ∃ g, B_X6_ends_77 f (nI k) h = mb_rV g ∧ (∀ i, i ≠ 20 → g.1 i = h.1 i) ∧ g.2 = h.2 ∧ g.1 20 0 0 = wr (cl u K) 5 0 := by
  intro m
  induction m with
  | zero =>
    intro k f h hk hf hr
    obtain ⟨f, rfl⟩ : ∃ g, f = g + 1 := ⟨f - 1, by omega⟩
    have : k = K := by omega
    subst this
    refine ⟨mb_sI h 20 0 0 5 0, ?_, fun i hi => mb_sI_o _ _ _ _ _ _ hi, rfl, by rw [m6_wr, hr]⟩
    rw [B_X6_ends_77]
    simp only [px_cI, px_cIx, px_cV, px_cVx, px_cL, px_cLx, px_cR0, px_cR1, px_cRx, px_lI, px_lL, px_up, px_gZ0, px_gZ1, px_gZb, px_g0, px_g1, px_g2, px_g3, px_g4, px_g5, px_g6, px_g7, px_g8, px_g9, px_g10, px_g11, px_g12, px_g13, px_g14, px_c0, px_c1, px_c2, px_c3, px_c4, px_c5, px_c6, px_c7, px_c8, px_c9, px_c10, px_c11, px_c12, px_c13, px_c14]
    rw [hr, cl_lo _ _ _ (by decide), h7, if_pos (nI_le (by omega) (by omega))]
  | succ m ih =>
    intro k f h hk hf hr
    obtain ⟨f, rfl⟩ : ∃ g, f = g + 1 := ⟨f - 1, by omega⟩
    have hk20 : k < 20 := by omega
    obtain ⟨s1, s2⟩ := m6_setsw hk20 (j := 7) (y := 7) (by decide) rfl (-1) h
    obtain ⟨g, e1, e2, e3, e4⟩ := ih (k + 1) f _ (by omega) (by omega) (by rw [s2, hr]; rfl)
    refine ⟨g, ?_, fun i hi => by rw [e2 i hi, mb_sI_o _ _ _ _ _ _ hi], e3, e4⟩
    rw [B_X6_ends_77]
    simp only [px_cI, px_cIx, px_cV, px_cVx, px_cL, px_cLx, px_cR0, px_cR1, px_cRx, px_lI, px_lL, px_up, px_gZ0, px_gZ1, px_gZb, px_g0, px_g1, px_g2, px_g3, px_g4, px_g5, px_g6, px_g7, px_g8, px_g9, px_g10, px_g11, px_g12, px_g13, px_g14, px_c0, px_c1, px_c2, px_c3, px_c4, px_c5, px_c6, px_c7, px_c8, px_c9, px_c10, px_c11, px_c12, px_c13, px_c14, nI_1]
    rw [hr, cl_lo _ _ _ (by decide), h7, if_neg (nI_ge (by omega) (by omega)), s1]
    exact e1
theorem m6_ends (hw : mb_W (h.1 20 0 0) B K T D U) : ∃ g, F_X6_ends h = mb_rV g ∧ (∀ i, i ≠ 20 → g.1 i = h.1 i) ∧ g.2 = h.2 ∧ g.1 20 0 0 = vs (h.1 20 0 0) K T K := by
  have hK := hw.K20
  obtain ⟨g1, a1, a2, a3, a4⟩ := m6_ends2 hw K 0 mb_fu h (by omega) (by unfold mb_fu; omega) rfl
  obtain ⟨g2, b1, b2, b3, b4⟩ := m6_ends77 (u := us (h.1 20 0 0) K T K) hK (by rw [us_lo _ _ _ _ 7 (by decide) (by decide)]; exact hw.w7) K 0 mb_fu g1 (by omega) (by unfold mb_fu; omega) a4
  refine ⟨g2, ?_, fun i hi => by rw [b2 i hi, a2 i hi], b3.trans a3, by rw [b4, cl_vs hw]⟩
  have a1 : B_X6_ends_2 mb_fu 0 h = _ := a1
  have b1 : B_X6_ends_77 mb_fu 0 g1 = _ := b1
  unfold F_X6_ends
  rw [a1, b1]
end
