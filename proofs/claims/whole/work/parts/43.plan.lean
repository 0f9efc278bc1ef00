/-! ===== pure: findsBerth, mostFrom, giveTo ===== -/
abbrev pl_wi (h : mb_AH) : Nat → Nat → Bool := fun x b => xb (h.1 14 0 0 x) b
abbrev pl_op (h : mb_AH) : Nat → Bool := fun b => xb (h.1 4 0 0 2) b
abbrev pl_sn (h : mb_AH) : Nat → Bool := fun b => xb (h.1 4 0 0 3) b
abbrev pl_hd (h : mb_AH) : Nat → Int32 := h.1 15 0 0
def pl_ok (hd : Nat → Int32) : Prop := ∀ b, b < 16 → hd b = -1 ∨ ∃ x, x < 20 ∧ hd b = nI x
/-- nothing but what is seen and who holds has changed -/
def pl_F (h g : mb_AH) : Prop := (∀ k, k ≠ 4 → k ≠ 15 → g.1 k = h.1 k) ∧ g.1 4 0 0 2 = h.1 4 0 0 2 ∧ g.2 = h.2
theorem pl_F.rf (h : mb_AH) : pl_F h h := ⟨fun _ _ _ => rfl, rfl, rfl⟩
theorem pl_F.tr {h g f : mb_AH} (a : pl_F h g) (b : pl_F g f) : pl_F h f := ⟨fun k h1 h2 => (b.1 k h1 h2).trans (a.1 k h1 h2), b.2.1.trans a.2.1, b.2.2.trans a.2.2⟩
theorem pl_F.sn (h : mb_AH) (x : Int32) : pl_F h (mb_sI h 4 0 0 3 x) := ⟨fun k h1 _ => mb_sI_o _ _ _ _ _ _ h1, mb_sI_j _ _ _ _ _ _ (by decide) _ _ _, rfl⟩
theorem pl_F.hd (h : mb_AH) (b : Nat) (x : Int32) : pl_F h (mb_sI h 15 0 0 b x) := ⟨fun k _ h2 => mb_sI_o _ _ _ _ _ _ h2, by rw [mb_sI_o _ _ _ _ _ _ (by decide)], rfl⟩
theorem pl_F.wi {h g : mb_AH} (a : pl_F h g) : pl_wi g = pl_wi h := by
  funext x b
  show xb (g.1 14 0 0 x) b = xb (h.1 14 0 0 x) b
  rw [a.1 14 (by decide) (by decide)]
theorem pl_F.op {h g : mb_AH} (a : pl_F h g) : pl_op g = pl_op h := by
  funext b
  show xb (g.1 4 0 0 2) b = xb (h.1 4 0 0 2) b
  rw [a.2.1]
theorem pl_sn_1 (h : mb_AH) {j c : Nat} (hj : j < 16) (hc : c < 16) : pl_sn (mb_sI h 4 0 0 3 (h.1 4 0 0 3 ||| ((1 : Int32) <<< (nI j &&& 31)))) c = (pl_sn h c || decide (c = j)) := by
  show xb ((mb_sI h 4 0 0 3 (h.1 4 0 0 3 ||| ((1 : Int32) <<< (nI j &&& 31)))).1 4 0 0 3) c = _
  rw [mb_sI_s, xb_or, xb_1 (by omega) (by omega)]
def pl_R (h : mb_AH) (k : Nat) (res : Option mb_RS) : Prop :=
  (∃ g, res = mb_rI 0 g ∧ pl_F h g ∧ g.1 15 = h.1 15 ∧ fb_no (pl_wi h) (pl_op h) (pl_sn h) (pl_sn g) (pl_hd h) k) ∨
  (∃ g, res = mb_rI 1 g ∧ pl_F h g ∧ pl_ok (pl_hd g) ∧ fb_ye (pl_wi h) (pl_op h) (pl_sn h) (pl_hd h) (pl_hd g) k)
theorem fb_no_cg {wi : Nat → Nat → Bool} {op sn sn2 : Nat → Bool} {hd : Nat → Int32} {k : Nat} (h : fb_no wi op sn sn2 hd k) {sn3 : Nat → Bool} (e : ∀ c, c < 16 → sn3 c = sn c) : fb_no wi op sn3 sn2 hd k := ⟨fun c hc q => h.1 c hc (by rw [← e c hc]; exact q), h.2.1, fun c hc q z => h.2.2 c hc q (by rw [← e c hc]; exact z)⟩
theorem fb_ye_cg {wi : Nat → Nat → Bool} {op sn sn3 : Nat → Bool} {hd hd2 : Nat → Int32} {k : Nat} (hk : nI k ≠ -1) (h : fb_ye wi op sn hd hd2 k) (e : ∀ c, c < 16 → sn3 c = sn c) : fb_ye wi op sn3 hd hd2 k := fb_mono hk (fun c hc q => by rw [← e c hc]; exact q) h
theorem pl_loop {n k dp : Nat} {h : mb_AH} (hk : k < 20) (hok : pl_ok (pl_hd h)) (hdp : dp + sp_cnt (fun b => !pl_sn h b) 0 16 ≤ 16) (hn : sp_cnt (fun b => !pl_sn h b) 0 16 < n + 1)
    (IH : ∀ (y d : Nat) (g : mb_AH), y < 20 → pl_ok (pl_hd g) → sp_cnt (fun b => !pl_sn g b) 0 16 < n → d + sp_cnt (fun b => !pl_sn g b) 0 16 ≤ 16 → pl_R g y (R_X4_findsBerth n (nI y) (nI d) g)) :
    ∀ (m j f : Nat) (g : mb_AH), j + m = 16 → m < f → pl_F h g → g.1 15 = h.1 15 → (∀ c, c < 16 → pl_sn h c = true → pl_sn g c = true) → (∀ c, c < j → pl_wi h k c = true → pl_op h c = true → pl_sn g c = true) →
      (∀ c, c < 16 → pl_sn g c = true → pl_sn h c = false → ∃ x, x < 20 ∧ pl_hd h c = nI x ∧ ∀ d, d < 16 → pl_wi h x d = true → pl_op h d = true → pl_sn g d = true) → pl_R h k (B_X4_findsBerth_20 (R_X4_findsBerth n) f (nI k) (nI dp) (nI j) g) := by
  have kn : nI k ≠ -1 := px_neg1 (by omega)
  intro m
  induction m with
  | zero =>
    intro j f g hj hf fr e15 i1 i2 i3
    obtain ⟨f, rfl⟩ : ∃ g, f = g + 1 := ⟨f - 1, by omega⟩
    have : j = 16 := by omega
    subst this
    refine Or.inl ⟨g, ?_, fr, e15, i1, fun c hc => i2 c hc, i3⟩
    rw [B_X4_findsBerth_20, if_pos (show (16 : Int32) ≤ nI 16 by decide)]
  | succ m ih =>
    intro j f g hj hf fr e15 i1 i2 i3
    obtain ⟨f, rfl⟩ : ∃ g, f = g + 1 := ⟨f - 1, by omega⟩
    have hj16 : j < 16 := by omega
    rw [B_X4_findsBerth_20, if_neg (show ¬ (16 : Int32) ≤ nI j from nI_ge (b := 16) (by omega) (by decide))]
    simp only [px_cI, px_cIx, px_cV, px_cVx, px_cL, px_cLx, px_cR0, px_cR1, px_cRx, px_lI, px_lL, px_up, px_gZ0, px_gZ1, px_gZb, px_g0, px_g1, px_g2, px_g3, px_g4, px_g5, px_g6, px_g7, px_g8, px_g9, px_g10, px_g11, px_g12, px_g13, px_g14, px_c0, px_c1, px_c2, px_c3, px_c4, px_c5, px_c6, px_c7, px_c8, px_c9, px_c10, px_c11, px_c12, px_c13, px_c14]
    rw [px_gB hk (by decide), nI_clamp (by omega), nI_1]
    have hb : xb (((g.1 14 0 0 k) &&& (g.1 4 0 0 2)) &&& ((g.1 4 0 0 3) ^^^ (-1))) j = ((pl_wi h k j && pl_op h j) && !pl_sn g j) := by
      rw [xb_and, xb_and, xb_not _ (by omega)]
      rw [show xb (g.1 14 0 0 k) j = pl_wi h k j from congrFun (congrFun fr.wi k) j, show xb (g.1 4 0 0 2) j = pl_op h j from congrFun fr.op j]
    by_cases q : ((pl_wi h k j && pl_op h j) && !pl_sn g j) = true
    · rw [if_neg (fun z => by rw [xb_tst (by omega), hb, q] at z; cases z)]
      rw [Bool.and_eq_true, Bool.and_eq_true, Bool.not_eq_true'] at q
      obtain ⟨⟨q1, q2⟩, q3⟩ := q
      rw [px_gB hj16 (by decide), px_gB hj16 (by decide), nI_clamp (by omega)]
      have fr1 : pl_F h (mb_sI g 4 0 0 3 (g.1 4 0 0 3 ||| ((1 : Int32) <<< (nI j &&& 31)))) := fr.tr (pl_F.sn _ _)
      have s1 : ∀ c, c < 16 → pl_sn (mb_sI g 4 0 0 3 (g.1 4 0 0 3 ||| ((1 : Int32) <<< (nI j &&& 31)))) c = (pl_sn g c || decide (c = j)) := fun c hc => pl_sn_1 g hj16 hc
      have t1 : (mb_sI g 4 0 0 3 (g.1 4 0 0 3 ||| ((1 : Int32) <<< (nI j &&& 31)))).1 15 = h.1 15 := by rw [mb_sI_o _ _ _ _ _ _ (by decide)]; exact e15
      generalize mb_sI g 4 0 0 3 (g.1 4 0 0 3 ||| ((1 : Int32) <<< (nI j &&& 31))) = g1 at fr1 s1 t1 ⊢
      have hs3 : pl_sn h j = false := bf_t (fun z => by rw [i1 j hj16 z] at q3; cases q3)
      have h95 : ∀ g2 : mb_AH, B_X4_findsBerth_95 (R_X4_findsBerth n) (nI k) (nI j) g2 = mb_rI 1 (mb_sI g2 15 0 0 j (nI k)) := fun g2 => by
        unfold B_X4_findsBerth_95
        rw [px_gB hj16 (by decide), nI_clamp (by omega)]
        simp only [px_cI, px_cIx, px_cV, px_cVx, px_cL, px_cLx, px_cR0, px_cR1, px_cRx, px_lI, px_lL, px_up, px_gZ0, px_gZ1, px_gZb, px_g0, px_g1, px_g2, px_g3, px_g4, px_g5, px_g6, px_g7, px_g8, px_g9, px_g10, px_g11, px_g12, px_g13, px_g14, px_c0, px_c1, px_c2, px_c3, px_c4, px_c5, px_c6, px_c7, px_c8, px_c9, px_c10, px_c11, px_c12, px_c13, px_c14]
      have hok2 : ∀ g2 : mb_AH, pl_ok (pl_hd g2) → pl_ok (pl_hd (mb_sI g2 15 0 0 j (nI k))) := fun g2 ho b hb => by
        by_cases z : b = j
        · subst z; exact Or.inr ⟨k, hk, mb_sI_s _ _ _ _ _ _⟩
        · rcases ho b hb with u | ⟨x, hx, u⟩
          · exact Or.inl (by show (mb_sI g2 15 0 0 j (nI k)).1 15 0 0 b = -1; rw [mb_sI_j _ _ _ _ _ _ z]; exact u)
          · exact Or.inr ⟨x, hx, by show (mb_sI g2 15 0 0 j (nI k)).1 15 0 0 b = nI x; rw [mb_sI_j _ _ _ _ _ _ z]; exact u⟩
      rw [t1]
      rcases hok j hj16 with hf1 | ⟨y, hy, hf1⟩
      · rw [if_pos hf1, h95]
        refine Or.inr ⟨_, rfl, fr1.tr (pl_F.hd _ _ _), hok2 g1 (by rw [show pl_hd g1 = pl_hd h by show g1.1 15 0 0 = h.1 15 0 0; rw [t1]]; exact hok), fb_base hk hj16 hf1 q1 q2 hs3 (mb_sI_s _ _ _ _ _ _) (fun c hc => ?_)⟩
        show (mb_sI g1 15 0 0 j (nI k)).1 15 0 0 c = h.1 15 0 0 c
        rw [mb_sI_j _ _ _ _ _ _ hc, t1]
      · have hf3 : h.1 15 0 0 j = nI y := hf1
        rw [if_neg (by rw [hf3]; exact px_neg1 (by omega)), hf3, nI_1]
        have c1 : sp_cnt (fun b => !pl_sn g1 b) 0 16 < sp_cnt (fun b => !pl_sn h b) 0 16 := by
          refine sp_cnt_lt (x := j) ?_ ?_ (fun b _ hb z => ?_) (Nat.zero_le _) (by omega)
          · show (!pl_sn g1 j) = false
            rw [s1 j hj16, decide_eq_true rfl, Bool.or_true]; rfl
          · show (!pl_sn h j) = true
            rw [hs3]; rfl
          · have z : (!pl_sn g1 b) = true := z
            show (!pl_sn h b) = true
            rw [s1 b (by omega), Bool.not_eq_true', Bool.or_eq_false_iff] at z
            rw [Bool.not_eq_true']
            exact bf_t (fun u => by rw [i1 b (by omega) u] at z; cases z.1)
        have hh1 : pl_hd g1 = pl_hd h := by show g1.1 15 0 0 = h.1 15 0 0; rw [t1]
        rcases IH y (dp + 1) g1 hy (by rw [hh1]; exact hok) (by omega) (by omega) with ⟨g2, r1, r2, r3, r4⟩ | ⟨g2, r1, r2, r3, r4⟩
        · rw [r1]
          simp only [px_cI, px_cIx, px_cV, px_cVx, px_cL, px_cLx, px_cR0, px_cR1, px_cRx, px_lI, px_lL, px_up, px_gZ0, px_gZ1, px_gZb, px_g0, px_g1, px_g2, px_g3, px_g4, px_g5, px_g6, px_g7, px_g8, px_g9, px_g10, px_g11, px_g12, px_g13, px_g14, px_c0, px_c1, px_c2, px_c3, px_c4, px_c5, px_c6, px_c7, px_c8, px_c9, px_c10, px_c11, px_c12, px_c13, px_c14]
          rw [if_pos trivial]
          rw [fr1.wi, fr1.op, hh1] at r4
          obtain ⟨u1, u2, u3⟩ := r4
          refine ih (j + 1) f g2 (by omega) (by omega) (fr1.tr r2) (r3.trans t1) (fun c hc z => u1 c hc (by rw [s1 c hc, i1 c hc z]; rfl)) (fun c hc z1 z2 => ?_) (fun c hc z1 z2 => ?_)
          · by_cases z : c = j
            · subst z
              exact u1 c (by omega) (by rw [s1 c (by omega), decide_eq_true rfl, Bool.or_true])
            · exact u1 c (by omega) (by rw [s1 c (by omega), i2 c (by omega) z1 z2]; rfl)
          · cases z3 : pl_sn g1 c with
            | false => exact u3 c hc z1 z3
            | true =>
              rw [s1 c hc, Bool.or_eq_true, decide_eq_true_iff] at z3
              rcases z3 with z3 | z3
              · obtain ⟨x, x1, x2, x3⟩ := i3 c hc z3 z2
                exact ⟨x, x1, x2, fun d hd z4 z5 => u1 d hd (by rw [s1 d hd, x3 d hd z4 z5]; rfl)⟩
              · subst z3
                exact ⟨y, hy, hf1, u2⟩
        · rw [r1]
          simp only [px_cI, px_cIx, px_cV, px_cVx, px_cL, px_cLx, px_cR0, px_cR1, px_cRx, px_lI, px_lL, px_up, px_gZ0, px_gZ1, px_gZb, px_g0, px_g1, px_g2, px_g3, px_g4, px_g5, px_g6, px_g7, px_g8, px_g9, px_g10, px_g11, px_g12, px_g13, px_g14, px_c0, px_c1, px_c2, px_c3, px_c4, px_c5, px_c6, px_c7, px_c8, px_c9, px_c10, px_c11, px_c12, px_c13, px_c14]
          rw [if_neg (by decide), h95]
          rw [fr1.wi, fr1.op, hh1] at r4
          have r5 : fb_ye (pl_wi h) (pl_op h) (fun c => pl_sn g c || decide (c = j)) (pl_hd h) (pl_hd g2) y := fb_ye_cg (px_neg1 (by omega)) r4 (fun c hc => (s1 c hc).symm)
          have r6 := fb_nest (hd2 := pl_hd (mb_sI g2 15 0 0 j (nI k))) hk hy hj16 hf1 q1 q2 q3 r5 (mb_sI_s _ _ _ _ _ _) (fun c hc => mb_sI_j _ _ _ _ _ _ hc _ _ _)
          exact Or.inr ⟨_, rfl, (fr1.tr r2).tr (pl_F.hd _ _ _), hok2 g2 r3, fb_mono kn i1 r6⟩
    · have qf := bf_t q
      rw [if_pos (by rw [xb_tst (by omega), hb, qf])]
      refine ih (j + 1) f g (by omega) (by omega) fr e15 i1 (fun c hc z1 z2 => ?_) i3
      by_cases z : c = j
      · subst z
        rw [z1, z2] at qf
        cases h3 : pl_sn g c with
        | true => rfl
        | false => rw [h3] at qf; cases qf
      · exact i2 c (by omega) z1 z2
theorem pl_main : ∀ (n k dp : Nat) (h : mb_AH), k < 20 → pl_ok (pl_hd h) → sp_cnt (fun b => !pl_sn h b) 0 16 < n → dp + sp_cnt (fun b => !pl_sn h b) 0 16 ≤ 16 → pl_R h k (R_X4_findsBerth n (nI k) (nI dp) h) := by
  intro n
  induction n with
  | zero => intro k dp h _ _ hn; omega
  | succ n IH =>
    intro k dp h hk hok hn hdp
    show pl_R h k (E_X4_findsBerth (R_X4_findsBerth n) (nI k) (nI dp) h)
    unfold E_X4_findsBerth
    rw [if_neg (show ¬ nI k < 0 from Int32.not_lt.mpr (nI_pos' (by omega))), if_neg (show ¬ (20 : Int32) ≤ nI k from nI_ge (b := 20) hk (by decide)), if_pos (show nI dp ≤ 16 from nI_le (b := 16) (by omega) (by decide))]
    exact pl_loop hk hok hdp hn IH 16 0 mb_fu h rfl (by unfold mb_fu; omega) (pl_F.rf h) rfl (fun c _ z => z) (fun c hc => absurd hc (Nat.not_lt_zero c)) (fun c _ z1 z2 => by rw [z1] at z2; cases z2)
/-! mostFrom -/
theorem sp_cnt_add {P Q R : Nat → Bool} : ∀ {m j : Nat}, (∀ k, j ≤ k → k < j + m → (P k = true → Q k = false) ∧ (P k = true → R k = true) ∧ (Q k = true → R k = true)) → sp_cnt P j m + sp_cnt Q j m ≤ sp_cnt R j m := by
  intro m
  induction m with
  | zero => intro j _; exact Nat.le_refl _
  | succ m ih =>
    intro j h
    have h1 := ih (j := j + 1) (fun k a b => h k (by omega) (by omega))
    obtain ⟨a, b, c⟩ := h j (Nat.le_refl _) (by omega)
    show (cond (P j) 1 0) + sp_cnt P (j + 1) m + ((cond (Q j) 1 0) + sp_cnt Q (j + 1) m) ≤ (cond (R j) 1 0) + sp_cnt R (j + 1) m
    cases hp : P j with
    | true => rw [a hp, b hp]; simp only [cond_true, cond_false]; omega
    | false =>
      cases hq : Q j with
      | true => rw [c hq]; simp only [cond_true, cond_false]; omega
      | false => simp only [cond_false]; omega
/-- the boats first .. n - 1 have been looked at, mo of them hold berths -/
def pl_I (wi : Nat → Nat → Bool) (op : Nat → Bool) (a n mo : Nat) (hd : Nat → Int32) : Prop :=
  (∀ b, b < 16 → hd b = -1 ∨ ∃ x, a ≤ x ∧ x < n ∧ hd b = nI x ∧ wi x b = true ∧ op b = true) ∧ (∀ c d, c < 16 → d < 16 → hd c = hd d → hd c ≠ -1 → c = d) ∧ sp_cnt (fun b => !decide (hd b = -1)) 0 16 = mo ∧
  ∃ S : Nat → Bool, fb_cl wi op hd S ∧ ∀ x, a ≤ x → x < n → (∃ b, b < 16 ∧ hd b = nI x) ∨ ∀ c, c < 16 → wi x c = true → op c = true → S c = true
theorem pl_I.no {wi : Nat → Nat → Bool} {op sn : Nat → Bool} {a n mo : Nat} {hd : Nat → Int32} (i : pl_I wi op a n mo hd) (hn : n < 20) (H : fb_no wi op (fun _ => false) sn hd n) : pl_I wi op a (n + 1) mo hd := by
  obtain ⟨i1, i2, i3, S, s1, s2⟩ := i
  refine ⟨fun b hb => ?_, i2, i3, fun c => S c || sn c, fun b hb hs => ?_, fun x h1 h2 => ?_⟩
  · rcases i1 b hb with z | ⟨x, x1, x2, x3⟩
    · exact Or.inl z
    · exact Or.inr ⟨x, x1, by omega, x3⟩
  · have hs : (S b || sn b) = true := hs
    rw [Bool.or_eq_true] at hs
    rcases hs with hs | hs
    · obtain ⟨x, x1, x2, x3⟩ := s1 b hb hs
      exact ⟨x, x1, x2, fun c hc z1 z2 => by show (S c || sn c) = true; rw [x3 c hc z1 z2]; rfl⟩
    · obtain ⟨x, x1, x2, x3⟩ := H.2.2 b hb hs rfl
      exact ⟨x, x1, x2, fun c hc z1 z2 => by show (S c || sn c) = true; rw [x3 c hc z1 z2, Bool.or_true]⟩
  · by_cases q : x = n
    · subst q
      exact Or.inr (fun c hc z1 z2 => by show (S c || sn c) = true; rw [H.2.1 c hc z1 z2, Bool.or_true])
    · rcases s2 x h1 (by omega) with z | z
      · exact Or.inl z
      · exact Or.inr (fun c hc z1 z2 => by show (S c || sn c) = true; rw [z c hc z1 z2]; rfl)
theorem pl_I.ye {wi : Nat → Nat → Bool} {op : Nat → Bool} {a n mo : Nat} {hd hd2 : Nat → Int32} (i : pl_I wi op a n mo hd) (han : a ≤ n) (hn : n < 20) (H : fb_ye wi op (fun _ => false) hd hd2 n) : pl_I wi op a (n + 1) (mo + 1) hd2 := by
  obtain ⟨i1, i2, i3, S, s1, s2⟩ := i
  obtain ⟨-, ⟨b0, hb0, b1, b2, b3⟩, c, d, e, f⟩ := H
  have nn : nI n ≠ -1 := px_neg1 (by omega)
  have hno : ¬ ∃ c, c < 16 ∧ (fun _ : Nat => false) c = false ∧ hd c = nI n := fun ⟨c, hc, _, ec⟩ => by
    rcases i1 c hc with z | ⟨x, x1, x2, x3, -⟩
    · rw [z] at ec; exact nn ec.symm
    · have := (nI_eq (by omega) (by omega)).mp (x3.symm.trans ec); omega
  obtain ⟨-, f2⟩ := f S s1
  refine ⟨fun b hb => ?_, fun x y hx hy exy xne => e (fun c d hc hd3 _ _ q1 q2 => i2 c d hc hd3 q1 q2) hno x y hx hy rfl rfl exy xne, ?_, S, fun b hb hs => ?_, fun x h1 h2 => ?_⟩
  · by_cases q : hd2 b = hd b
    · rw [q]
      rcases i1 b hb with z | ⟨x, x1, x2, x3⟩
      · exact Or.inl z
      · exact Or.inr ⟨x, x1, by omega, x3⟩
    · obtain ⟨x, x1, x2, x3, x4⟩ := c b hb q
      have xn : nI x ≠ -1 := px_neg1 (by omega)
      rcases (d (nI x) xn).mp ⟨b, hb, rfl, x2⟩ with z | ⟨u, hu, _, eu⟩
      · have := (nI_eq (by omega) (by omega)).mp z
        exact Or.inr ⟨x, by omega, by omega, x2, x3, x4⟩
      · rcases i1 u hu with z | ⟨y, y1, y2, y3, -⟩
        · rw [z] at eu; exact absurd eu.symm xn
        · have := (nI_eq (by omega) (by omega)).mp (y3.symm.trans eu)
          exact Or.inr ⟨x, by omega, by omega, x2, x3, x4⟩
  · have g1 : sp_cnt (fun b => !decide (hd b = -1)) 0 16 < sp_cnt (fun b => !decide (hd2 b = -1)) 0 16 := by
      refine sp_cnt_lt (x := b0) ?_ ?_ (fun b _ hb z => ?_) (Nat.zero_le _) (by omega)
      · rw [decide_eq_true b1]; rfl
      · rw [decide_eq_false b2]; rfl
      · rw [Bool.not_eq_true', decide_eq_false_iff_not] at z ⊢
        by_cases q : b = b0
        · subst q; exact b2
        · exact fun u => z ((b3 b (by omega) q).mp u)
    have g2 : sp_cnt (fun b => !decide (hd2 b = -1)) 0 16 ≤ sp_cnt (fun b => !decide (hd b = -1)) 0 16 + 1 := by
      refine sp_cnt_one (fun x y _ hx _ hy q1 q2 q3 q4 => ?_)
      rw [Bool.not_eq_true', decide_eq_false_iff_not] at q1 q3
      rw [Bool.not_eq_false', decide_eq_true_iff] at q2 q4
      have hx0 : x = b0 := Classical.byContradiction fun z => q1 ((b3 x (by omega) z).mpr q2)
      have hy0 : y = b0 := Classical.byContradiction fun z => q3 ((b3 y (by omega) z).mpr q4)
      rw [hx0, hy0]
    omega
  · obtain ⟨x, x1, x2, x3⟩ := s1 b hb hs
    exact ⟨x, x1, by rw [f2 b hb hs]; exact x2, x3⟩
  · by_cases q : x = n
    · subst q
      obtain ⟨u, hu, _, eu⟩ := (d (nI x) nn).mpr (Or.inl rfl)
      exact Or.inl ⟨u, hu, eu⟩
    · rcases s2 x h1 (by omega) with ⟨b, hb, eb⟩ | z
      · obtain ⟨u, hu, _, eu⟩ := (d (nI x) (px_neg1 (by omega))).mpr (Or.inr ⟨b, hb, rfl, eb⟩)
        exact Or.inl ⟨u, hu, eu⟩
      · exact Or.inr z
theorem pl_I.end {wi : Nat → Nat → Bool} {op : Nat → Bool} {a mo : Nat} {hd : Nat → Int32} (i : pl_I wi op a 20 mo hd) (ha : a ≤ 20) : mo = vb wi (20 - a) a op := by
  obtain ⟨i1, i2, i3, S, s1, s2⟩ := i
  have hge : ∀ b, b < 16 → (hd b ≠ -1 ↔ (a : Int) ≤ (hd b).toInt) := fun b hb => by
    rcases i1 b hb with z | ⟨x, x1, x2, x3, -⟩
    · rw [z, show (-1 : Int32).toInt = -1 by decide]
      exact ⟨fun u => absurd rfl u, fun u => by omega⟩
    · rw [x3, nI_toInt (by omega)]
      exact ⟨fun _ => by omega, fun _ => px_neg1 (by omega)⟩
  refine Nat.le_antisymm ?_ ?_
  · have h1 := vb_lo (wi := wi) (hd := hd) (fun b c hb hc e1 e2 => i2 b c hb hc e1 (fun z => by rw [z, show (-1 : Int32).toInt = -1 by decide] at e2; omega)) (20 - a) a op (by omega) (fun b hb q => by
      rcases i1 b hb with z | ⟨x, x1, x2, x3, x4, x5⟩
      · rw [z, show (-1 : Int32).toInt = -1 by decide] at q; omega
      · exact ⟨x, by omega, x3, x4, x5⟩)
    have h2 : sp_cnt (fun b => !decide (hd b = -1)) 0 16 ≤ sp_cnt (fun b => decide ((a : Int) ≤ (hd b).toInt)) 0 16 := sp_cnt_mono (fun b _ hb q => by
      rw [Bool.not_eq_true', decide_eq_false_iff_not] at q
      rw [decide_eq_true_iff]
      exact (hge b (by omega)).mp q)
    omega
  · have h1 := vb_up (wi := wi) (D := fun b => !S b) (hd := hd) (20 - a) a op S (by omega) (fun x h1 h2 => by
      rcases s2 x h1 (by omega) with ⟨b, hb, eb⟩ | z
      · cases hs : S b with
        | false => exact Or.inl ⟨b, hb, by show (!S b) = true; rw [hs]; rfl, eb⟩
        | true =>
          obtain ⟨y, y1, y2, y3⟩ := s1 b hb hs
          have := (nI_eq (by omega) (by omega)).mp (y2.symm.trans eb)
          subst this
          exact Or.inr y3
      · exact Or.inr z)
    have h2 : sp_cnt S 0 16 + sp_cnt (fun b => (!S b) && decide ((a : Int) ≤ (hd b).toInt)) 0 16 ≤ sp_cnt (fun b => !decide (hd b = -1)) 0 16 := by
      refine sp_cnt_add (fun b _ hb => ⟨fun z => by rw [z]; rfl, fun z => ?_, fun z => ?_⟩)
      · obtain ⟨y, y1, y2, y3⟩ := s1 b (by omega) z
        rw [Bool.not_eq_true', decide_eq_false_iff_not, y2]
        exact px_neg1 (by omega)
      · rw [Bool.and_eq_true, decide_eq_true_iff] at z
        rw [Bool.not_eq_true', decide_eq_false_iff_not]
        exact (hge b (by omega)).mpr z.2
    have h3 : vb wi (20 - a) a op ≤ sp_cnt S 0 16 + sp_cnt (fun b => (!S b) && decide ((a : Int) ≤ (hd b).toInt)) 0 16 := h1
    omega
theorem c4_mf25 {a : Nat} : ∀ (m n f mo : Nat) (h : mb_AH), n + m = 20 → a ≤ n ∨ 20 < a → m < f → pl_I (pl_wi h) (pl_op h) a n mo (pl_hd h) → a ≤ n → ∃ g, B_X4_mostFrom_25 f (nI mo) (nI n) h = mb_rI (nI (vb (pl_wi h) (20 - a) a (pl_op h))) g ∧ pl_F h g := by
  intro m
  induction m with
  | zero =>
    intro n f mo h hn _ hf i ha
    obtain ⟨f, rfl⟩ : ∃ g, f = g + 1 := ⟨f - 1, by omega⟩
    have : n = 20 := by omega
    subst this
    refine ⟨h, ?_, pl_F.rf h⟩
    rw [B_X4_mostFrom_25, if_pos (show (20 : Int32) ≤ nI 20 by decide), ← i.end ha]
  | succ m ih =>
    intro n f mo h hn _ hf i ha
    obtain ⟨f, rfl⟩ : ∃ g, f = g + 1 := ⟨f - 1, by omega⟩
    have hn20 : n < 20 := by omega
    rw [B_X4_mostFrom_25, if_neg (show ¬ (20 : Int32) ≤ nI n from nI_ge (b := 20) hn20 (by decide))]
    simp only [px_cI, px_cIx, px_cV, px_cVx, px_cL, px_cLx, px_cR0, px_cR1, px_cRx, px_lI, px_lL, px_up, px_gZ0, px_gZ1, px_gZb, px_g0, px_g1, px_g2, px_g3, px_g4, px_g5, px_g6, px_g7, px_g8, px_g9, px_g10, px_g11, px_g12, px_g13, px_g14, px_c0, px_c1, px_c2, px_c3, px_c4, px_c5, px_c6, px_c7, px_c8, px_c9, px_c10, px_c11, px_c12, px_c13, px_c14]
    have fr0 : pl_F h (mb_sI h 4 0 0 3 0) := pl_F.sn h 0
    have hh0 : pl_hd (mb_sI h 4 0 0 3 0) = pl_hd h := by show (mb_sI h 4 0 0 3 0).1 15 0 0 = h.1 15 0 0; rw [mb_sI_o _ _ _ _ _ _ (by decide)]
    have hs0 : pl_sn (mb_sI h 4 0 0 3 0) = fun _ => false := by
      funext c
      show xb ((mb_sI h 4 0 0 3 0).1 4 0 0 3) c = false
      rw [mb_sI_s, xb_0]
    have hc0 : sp_cnt (fun b => !pl_sn (mb_sI h 4 0 0 3 0) b) 0 16 ≤ 16 := sp_cnt_le _ _ _
    have hok : pl_ok (pl_hd (mb_sI h 4 0 0 3 0)) := fun b hb => by
      rw [hh0]
      rcases i.1 b hb with z | ⟨x, x1, x2, x3, -⟩
      · exact Or.inl z
      · exact Or.inr ⟨x, by omega, x3⟩
    have hm := pl_main 20 n 0 (mb_sI h 4 0 0 3 0) hn20 hok (by omega) (by omega)
    have hm : pl_R (mb_sI h 4 0 0 3 0) n (F_X4_findsBerth (nI n) 0 (mb_sI h 4 0 0 3 0)) := hm
    generalize mb_sI h 4 0 0 3 0 = h0 at fr0 hh0 hs0 hm ⊢
    rcases hm with ⟨g, r1, r2, r3, r4⟩ | ⟨g, r1, r2, r3, r4⟩
    · rw [r1]
      simp only [px_cI, px_cIx, px_cV, px_cVx, px_cL, px_cLx, px_cR0, px_cR1, px_cRx, px_lI, px_lL, px_up, px_gZ0, px_gZ1, px_gZb, px_g0, px_g1, px_g2, px_g3, px_g4, px_g5, px_g6, px_g7, px_g8, px_g9, px_g10, px_g11, px_g12, px_g13, px_g14, px_c0, px_c1, px_c2, px_c3, px_c4, px_c5, px_c6, px_c7, px_c8, px_c9, px_c10, px_c11, px_c12, px_c13, px_c14]
      rw [if_pos trivial, nI_1]
      rw [hs0, fr0.wi, fr0.op, hh0] at r4
      have fr := fr0.tr r2
      have hg : pl_hd g = pl_hd h := by
        rw [← hh0]
        show g.1 15 0 0 = h0.1 15 0 0
        rw [r3]
      have i2 : pl_I (pl_wi g) (pl_op g) a (n + 1) mo (pl_hd g) := by
        rw [fr.wi, fr.op, hg]
        exact i.no hn20 r4
      obtain ⟨g2, e1, e2⟩ := ih (n + 1) f mo g (by omega) (Or.inl (by omega)) (by omega) i2 (by omega)
      refine ⟨g2, ?_, fr.tr e2⟩
      rw [e1, fr.wi, fr.op]
    · rw [r1]
      simp only [px_cI, px_cIx, px_cV, px_cVx, px_cL, px_cLx, px_cR0, px_cR1, px_cRx, px_lI, px_lL, px_up, px_gZ0, px_gZ1, px_gZb, px_g0, px_g1, px_g2, px_g3, px_g4, px_g5, px_g6, px_g7, px_g8, px_g9, px_g10, px_g11, px_g12, px_g13, px_g14, px_c0, px_c1, px_c2, px_c3, px_c4, px_c5, px_c6, px_c7, px_c8, px_c9, px_c10, px_c11, px_c12, px_c13, px_c14]
      rw [if_neg (by decide), nI_1, nI_1]
      rw [hs0, fr0.wi, fr0.op, hh0] at r4
      have fr := fr0.tr r2
      have i2 : pl_I (pl_wi g) (pl_op g) a (n + 1) (mo + 1) (pl_hd g) := by
        rw [fr.wi, fr.op]
        exact i.ye ha hn20 r4
      obtain ⟨g2, e1, e2⟩ := ih (n + 1) f (mo + 1) g (by omega) (Or.inl (by omega)) (by omega) i2 (by omega)
      refine ⟨g2, ?_, fr.tr e2⟩
      rw [e1, fr.wi, fr.op]
theorem c4_mf2 (x : Int32) : ∀ (m j f : Nat) (h : mb_AH), j + m = 16 → m < f → (∀ b, b < j → h.1 15 0 0 b = -1) → ∃ g, B_X4_mostFrom_2 f x (nI j) h = B_X4_mostFrom_25 mb_fu 0 x g ∧ pl_F h g ∧ ∀ b, b < 16 → g.1 15 0 0 b = -1 := by
  intro m
  induction m with
  | zero =>
    intro j f h hj hf hb
    obtain ⟨f, rfl⟩ : ∃ g, f = g + 1 := ⟨f - 1, by omega⟩
    refine ⟨h, ?_, pl_F.rf h, fun b hb2 => hb b (by omega)⟩
    rw [B_X4_mostFrom_2, if_pos (show (16 : Int32) ≤ nI j from nI_le (a := 16) (by omega) (by omega))]
  | succ m ih =>
    intro j f h hj hf hb
    obtain ⟨f, rfl⟩ : ∃ g, f = g + 1 := ⟨f - 1, by omega⟩
    obtain ⟨g, e1, e2, e3⟩ := ih (j + 1) f (mb_sI h 15 0 0 j (-1)) (by omega) (by omega) (fun b hb2 => by
      by_cases q : b = j
      · subst q; exact mb_sI_s _ _ _ _ _ _
      · rw [mb_sI_j _ _ _ _ _ _ q]; exact hb b (by omega))
    refine ⟨g, ?_, (pl_F.hd h j (-1)).tr e2, e3⟩
    rw [B_X4_mostFrom_2, if_neg (show ¬ (16 : Int32) ≤ nI j from nI_ge (b := 16) (by omega) (by decide)), px_gB (show j < 16 by omega) (by decide), nI_clamp (by omega)]
    simp only [px_cI, px_cIx, px_cV, px_cVx, px_cL, px_cLx, px_cR0, px_cR1, px_cRx, px_lI, px_lL, px_up, px_gZ0, px_gZ1, px_gZb, px_g0, px_g1, px_g2, px_g3, px_g4, px_g5, px_g6, px_g7, px_g8, px_g9, px_g10, px_g11, px_g12, px_g13, px_g14, px_c0, px_c1, px_c2, px_c3, px_c4, px_c5, px_c6, px_c7, px_c8, px_c9, px_c10, px_c11, px_c12, px_c13, px_c14, nI_1]
    exact e1
theorem c4_mostFrom {a : Nat} (ha : a ≤ 20) (h : mb_AH) : ∃ g, F_X4_mostFrom (nI a) h = mb_rI (nI (vb (pl_wi h) (20 - a) a (pl_op h))) g ∧ pl_F h g := by
  obtain ⟨g, e1, e2, e3⟩ := c4_mf2 (nI a) 16 0 mb_fu h rfl (by unfold mb_fu; omega) (fun b hb => absurd hb (Nat.not_lt_zero b))
  have i : pl_I (pl_wi g) (pl_op g) a a 0 (pl_hd g) := by
    refine ⟨fun b hb => Or.inl (e3 b hb), fun c d hc _ _ z => absurd (e3 c hc) z, sp_cnt_0 (fun b _ hb => ?_), (fun _ => false), (fun b _ hs => by cases hs), (fun x h1 h2 => by omega)⟩
    show (!decide (g.1 15 0 0 b = -1)) = false
    rw [decide_eq_true (e3 b (by omega))]; rfl
  obtain ⟨g2, f1, f2⟩ := c4_mf25 (a := a) (20 - a) a mb_fu 0 g (by omega) (Or.inl (Nat.le_refl _)) (by unfold mb_fu; omega) i (Nat.le_refl _)
  refine ⟨g2, ?_, e2.tr f2⟩
  unfold F_X4_mostFrom
  have e1 : B_X4_mostFrom_2 mb_fu (nI a) 0 h = B_X4_mostFrom_25 mb_fu 0 (nI a) g := e1
  rw [e1]
  have f1 : B_X4_mostFrom_25 mb_fu 0 (nI a) g = _ := f1
  rw [f1, e2.wi, e2.op]
/-- the berth that boat k gets -/
def gv (wi : Nat → Nat → Bool) (k : Nat) (op : Nat → Bool) : Option Nat := sp_find (fun b => (wi k b && op b) && decide (vb wi (19 - k) (k + 1) (rm op b) + 1 = vb wi (20 - k) k op)) 0 16
/-- what a gift leaves open -/
def gv_o (o : Option Nat) (op : Nat → Bool) : Nat → Bool := match o with
  | none => op
  | some b => rm op b
/-- nothing but what is open, seen and who holds has changed -/
def pl_G (h g : mb_AH) : Prop := (∀ k, k ≠ 4 → k ≠ 15 → g.1 k = h.1 k) ∧ g.2 = h.2
theorem pl_G.wi {h g : mb_AH} (a : pl_G h g) : pl_wi g = pl_wi h := by
  funext x b
  show xb (g.1 14 0 0 x) b = xb (h.1 14 0 0 x) b
  rw [a.1 14 (by decide) (by decide)]
theorem pl_G.tr {h g f : mb_AH} (a : pl_G h g) (b : pl_G g f) : pl_G h f := ⟨fun k h1 h2 => (b.1 k h1 h2).trans (a.1 k h1 h2), b.2.trans a.2⟩
theorem pl_F.g {h g : mb_AH} (a : pl_F h g) : pl_G h g := ⟨a.1, a.2.2⟩
theorem pl_G.op (h : mb_AH) (x : Int32) : pl_G h (mb_sI h 4 0 0 2 x) := ⟨fun k h1 _ => mb_sI_o _ _ _ _ _ _ h1, rfl⟩
theorem pl_op_m (h : mb_AH) {j : Nat} (hj : j < 16) : ∀ c, c < 32 → pl_op (mb_sI h 4 0 0 2 (h.1 4 0 0 2 &&& (((1 : Int32) <<< (nI j &&& 31)) ^^^ (-1)))) c = rm (pl_op h) j c := by
  intro c hc
  show xb ((mb_sI h 4 0 0 2 (h.1 4 0 0 2 &&& (((1 : Int32) <<< (nI j &&& 31)) ^^^ (-1)))).1 4 0 0 2) c = _
  rw [mb_sI_s, xb_and, xb_not _ hc, xb_1 (by omega) hc]; rfl
theorem c4_gt_loop {k : Nat} (hk : k < 20) : ∀ (m j f : Nat) (h : mb_AH), j + m = 16 → m < f → ∃ g, B_X4_giveTo_8 f (nI k) (nI (vb (pl_wi h) (20 - k) k (pl_op h))) (nI j) h = mb_rI (mb_oi (sp_find (fun b => (pl_wi h k b && pl_op h b) && decide (vb (pl_wi h) (19 - k) (k + 1) (rm (pl_op h) b) + 1 = vb (pl_wi h) (20 - k) k (pl_op h))) j m)) g ∧ pl_G h g ∧ ∀ c, c < 16 → pl_op g c = gv_o (sp_find (fun b => (pl_wi h k b && pl_op h b) && decide (vb (pl_wi h) (19 - k) (k + 1) (rm (pl_op h) b) + 1 = vb (pl_wi h) (20 - k) k (pl_op h))) j m) (pl_op h) c := by
  intro m
  induction m with
  | zero =>
    intro j f h hj hf
    obtain ⟨f, rfl⟩ : ∃ g, f = g + 1 := ⟨f - 1, by omega⟩
    refine ⟨h, ?_, ⟨fun _ _ _ => rfl, rfl⟩, fun _ _ => rfl⟩
    rw [B_X4_giveTo_8, if_pos (show (16 : Int32) ≤ nI j from nI_le (a := 16) (by omega) (by omega))]
    rfl
  | succ m ih =>
    intro j f h hj hf
    obtain ⟨f, rfl⟩ : ∃ g, f = g + 1 := ⟨f - 1, by omega⟩
    have hj16 : j < 16 := by omega
    rw [B_X4_giveTo_8, if_neg (show ¬ (16 : Int32) ≤ nI j from nI_ge (b := 16) (by omega) (by decide))]
    simp only [px_cI, px_cIx, px_cV, px_cVx, px_cL, px_cLx, px_cR0, px_cR1, px_cRx, px_lI, px_lL, px_up, px_gZ0, px_gZ1, px_gZb, px_g0, px_g1, px_g2, px_g3, px_g4, px_g5, px_g6, px_g7, px_g8, px_g9, px_g10, px_g11, px_g12, px_g13, px_g14, px_c0, px_c1, px_c2, px_c3, px_c4, px_c5, px_c6, px_c7, px_c8, px_c9, px_c10, px_c11, px_c12, px_c13, px_c14]
    rw [px_gB hk (by decide), nI_clamp (by omega), nI_1, nI_1, sp_find]
    have hb : xb ((h.1 14 0 0 k) &&& (h.1 4 0 0 2)) j = (pl_wi h k j && pl_op h j) := by rw [xb_and]
    by_cases q : (pl_wi h k j && pl_op h j) = true
    · rw [if_neg (fun z => by rw [xb_tst (by omega), hb, q] at z; cases z), q, Bool.true_and]
      obtain ⟨g, e1, e2⟩ := c4_mostFrom (a := k + 1) (by omega) (mb_sI h 4 0 0 2 (h.1 4 0 0 2 &&& (((1 : Int32) <<< (nI j &&& 31)) ^^^ (-1))))
      have fo := pl_op_m h hj16
      have fg : pl_G h (mb_sI h 4 0 0 2 (h.1 4 0 0 2 &&& (((1 : Int32) <<< (nI j &&& 31)) ^^^ (-1)))) := pl_G.op _ _
      have f2 : (mb_sI h 4 0 0 2 (h.1 4 0 0 2 &&& (((1 : Int32) <<< (nI j &&& 31)) ^^^ (-1)))).1 4 0 0 2 = h.1 4 0 0 2 &&& (((1 : Int32) <<< (nI j &&& 31)) ^^^ (-1)) := mb_sI_s _ _ _ _ _ _
      generalize mb_sI h 4 0 0 2 (h.1 4 0 0 2 &&& (((1 : Int32) <<< (nI j &&& 31)) ^^^ (-1))) = h1 at e1 e2 fo fg f2 ⊢
      rw [e1]
      simp only [px_cI, px_cIx, px_cV, px_cVx, px_cL, px_cLx, px_cR0, px_cR1, px_cRx, px_lI, px_lL, px_up, px_gZ0, px_gZ1, px_gZb, px_g0, px_g1, px_g2, px_g3, px_g4, px_g5, px_g6, px_g7, px_g8, px_g9, px_g10, px_g11, px_g12, px_g13, px_g14, px_c0, px_c1, px_c2, px_c3, px_c4, px_c5, px_c6, px_c7, px_c8, px_c9, px_c10, px_c11, px_c12, px_c13, px_c14]
      have ev : vb (pl_wi h1) (20 - (k + 1)) (k + 1) (pl_op h1) = vb (pl_wi h) (19 - k) (k + 1) (rm (pl_op h) j) := by
        rw [fg.wi, show 20 - (k + 1) = 19 - k by omega]
        exact vb_cg (fun _ _ _ _ => rfl) _ _ _ _ (by omega) (fun b hb _ => fo b (by omega))
      rw [ev, nI_1]
      have lt1 : ∀ (r k : Nat) (op : Nat → Bool), vb (pl_wi h) r k op ≤ r := by
        intro r
        induction r with
        | zero => intro k op; exact Nat.le_refl _
        | succ r ihr =>
          intro k op
          rcases (vb_s (x := vb (pl_wi h) (r + 1) k op)).mp (Nat.le_refl _) with z | ⟨b, -, -, -, z⟩
          · have := ihr (k + 1) op; omega
          · have := ihr (k + 1) (rm op b); omega
      have l1 := lt1 (19 - k) (k + 1) (rm (pl_op h) j)
      have l2 := lt1 (20 - k) k (pl_op h)
      by_cases q2 : vb (pl_wi h) (19 - k) (k + 1) (rm (pl_op h) j) + 1 = vb (pl_wi h) (20 - k) k (pl_op h)
      · rw [if_pos (by rw [q2]), decide_eq_true q2]
        refine ⟨g, rfl, fg.tr e2.g, fun c hc => ?_⟩
        show pl_op g c = rm (pl_op h) j c
        rw [e2.op]
        exact fo c (by omega)
      · rw [if_neg (fun z => q2 ((nI_eq (by omega) (by omega)).mp z)), decide_eq_false q2]
        have fr : pl_G h (mb_sI g 4 0 0 2 (g.1 4 0 0 2 ||| ((1 : Int32) <<< (nI j &&& 31)))) := (fg.tr e2.g).tr (pl_G.op _ _)
        have eo : (mb_sI g 4 0 0 2 (g.1 4 0 0 2 ||| ((1 : Int32) <<< (nI j &&& 31)))).1 4 0 0 2 = h.1 4 0 0 2 := by
          rw [mb_sI_s, e2.2.1, f2]
          refine xb_ext (fun i hi => ?_)
          rw [xb_or, xb_and, xb_not _ hi, xb_1 (by omega) hi]
          by_cases z : i = j
          · subst z
            rw [Bool.and_eq_true] at q
            rw [show xb (h.1 4 0 0 2) i = true from q.2, decide_eq_true rfl]; rfl
          · rw [decide_eq_false z]; simp
        generalize mb_sI g 4 0 0 2 (g.1 4 0 0 2 ||| ((1 : Int32) <<< (nI j &&& 31))) = g1 at fr eo ⊢
        have eop : pl_op g1 = pl_op h := by funext c; show xb (g1.1 4 0 0 2) c = xb (h.1 4 0 0 2) c; rw [eo]
        obtain ⟨g2, r1, r2, r3⟩ := ih (j + 1) f g1 (by omega) (by omega)
        rw [fr.wi, eop] at r1 r3
        exact ⟨g2, r1, fr.tr r2, r3⟩
    · have qf := bf_t q
      rw [if_pos (by rw [xb_tst (by omega), hb, qf]), qf]
      exact ih (j + 1) f h (by omega) (by omega)
theorem c4_giveTo {k : Nat} (hk : k < 20) (h : mb_AH) : ∃ g, F_X4_giveTo (nI k) h = mb_rI (mb_oi (gv (pl_wi h) k (pl_op h))) g ∧ pl_G h g ∧ ∀ c, c < 16 → pl_op g c = gv_o (gv (pl_wi h) k (pl_op h)) (pl_op h) c := by
  obtain ⟨g, e1, e2⟩ := c4_mostFrom (a := k) (by omega) h
  obtain ⟨g2, r1, r2, r3⟩ := c4_gt_loop hk 16 0 mb_fu g rfl (by unfold mb_fu; omega)
  rw [e2.wi, e2.op] at r1 r3
  refine ⟨g2, ?_, e2.g.tr r2, r3⟩
  unfold F_X4_giveTo
  rw [e1]
  simp only [px_cI, px_cIx, px_cV, px_cVx, px_cL, px_cLx, px_cR0, px_cR1, px_cRx, px_lI, px_lL, px_up, px_gZ0, px_gZ1, px_gZb, px_g0, px_g1, px_g2, px_g3, px_g4, px_g5, px_g6, px_g7, px_g8, px_g9, px_g10, px_g11, px_g12, px_g13, px_g14, px_c0, px_c1, px_c2, px_c3, px_c4, px_c5, px_c6, px_c7, px_c8, px_c9, px_c10, px_c11, px_c12, px_c13, px_c14]
  exact r1
