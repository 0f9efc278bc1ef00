/-! ===== pure: bits of an int; the greatest number of boats for berths; alternating ways ===== -/
def xb (x : Int32) (i : Nat) : Bool := x.toBitVec.getLsbD i
theorem xb_and (x y : Int32) (i : Nat) : xb (x &&& y) i = (xb x i && xb y i) := by
  show (x.toBitVec &&& y.toBitVec).getLsbD i = _
  rw [BitVec.getLsbD_and]; rfl
theorem xb_or (x y : Int32) (i : Nat) : xb (x ||| y) i = (xb x i || xb y i) := by
  show (x.toBitVec ||| y.toBitVec).getLsbD i = _
  rw [BitVec.getLsbD_or]; rfl
theorem xb_not (x : Int32) {i : Nat} (hi : i < 32) : xb (x ^^^ (-1)) i = !xb x i := by
  show (x.toBitVec ^^^ (-1 : Int32).toBitVec).getLsbD i = _
  have h : ∀ i : Fin 32, (-1 : Int32).toBitVec.getLsbD i.1 = true := by decide +kernel
  rw [BitVec.getLsbD_xor, h ⟨i, hi⟩, Bool.xor_true]; rfl
theorem xb_1 {b i : Nat} (hb : b < 32) (hi : i < 32) : xb ((1 : Int32) <<< (nI b &&& 31)) i = decide (i = b) := by
  have h : ∀ b i : Fin 32, ((1 : Int32) <<< (nI b.1 &&& 31)).toBitVec.getLsbD i.1 = decide (i.1 = b.1) := by decide +kernel
  exact h ⟨b, hb⟩ ⟨i, hi⟩
theorem xb_0 (i : Nat) : xb 0 i = false := by
  show (0#32).getLsbD i = false
  simp
theorem xb_all {i : Nat} (hi : i < 16) : xb 65535 i = true := by
  have h : ∀ i : Fin 16, (65535 : Int32).toBitVec.getLsbD i.1 = true := by decide +kernel
  exact h ⟨i, hi⟩
theorem xb_ext {x y : Int32} (h : ∀ i, i < 32 → xb x i = xb y i) : x = y := Int32.toBitVec_inj.mp (BitVec.eq_of_getLsbD_eq (fun i hi => h i hi))
theorem xb_tst {x : Int32} {b : Nat} (hb : b < 32) : (x &&& ((1 : Int32) <<< (nI b &&& 31))) = 0 ↔ xb x b = false := by
  constructor
  · intro e
    have h := congrArg (fun z => xb z b) e
    simp only [xb_and, xb_1 hb hb, xb_0, decide_true, Bool.and_true] at h
    exact h
  · intro e
    refine xb_ext (fun i hi => ?_)
    rw [xb_and, xb_1 hb hi, xb_0]
    by_cases q : i = b
    · subst q; rw [e]; rfl
    · rw [decide_eq_false q, Bool.and_false]
def mxf (f : Nat → Nat) : Nat → Nat → Nat
  | _, 0 => 0
  | j, m + 1 => max (f j) (mxf f (j + 1) m)
theorem mxf_le (f : Nat → Nat) (x : Nat) : ∀ (m j : Nat), x ≤ mxf f j m ↔ x = 0 ∨ ∃ b, j ≤ b ∧ b < j + m ∧ x ≤ f b := by
  intro m
  induction m with
  | zero =>
    intro j
    show x ≤ 0 ↔ _
    exact ⟨fun h => Or.inl (by omega), fun h => by rcases h with h | ⟨b, h1, h2, -⟩ <;> omega⟩
  | succ m ih =>
    intro j
    show x ≤ max (f j) (mxf f (j + 1) m) ↔ _
    have h1 : x ≤ max (f j) (mxf f (j + 1) m) ↔ x ≤ f j ∨ x ≤ mxf f (j + 1) m := by omega
    rw [h1, ih]
    constructor
    · rintro (h | h | ⟨b, h2, h3, h4⟩)
      · exact Or.inr ⟨j, Nat.le_refl _, by omega, h⟩
      · exact Or.inl h
      · exact Or.inr ⟨b, by omega, by omega, h4⟩
    · rintro (h | ⟨b, h2, h3, h4⟩)
      · exact Or.inr (Or.inl h)
      · by_cases q : b = j
        · subst q; exact Or.inl h4
        · exact Or.inr (Or.inr ⟨b, by omega, by omega, h4⟩)
def rm (op : Nat → Bool) (b : Nat) : Nat → Bool := fun c => op c && !decide (c = b)
theorem rm_t {op : Nat → Bool} {b c : Nat} : rm op b c = true ↔ op c = true ∧ c ≠ b := by
  unfold rm
  rw [Bool.and_eq_true, Bool.not_eq_true', decide_eq_false_iff_not]
/-- how many of the boats k .. k + r - 1 can have one of the open berths each -/
def vb (wi : Nat → Nat → Bool) : Nat → Nat → (Nat → Bool) → Nat
  | 0, _, _ => 0
  | r + 1, k, op => max (vb wi r (k + 1) op) (mxf (fun b => cond (wi k b && op b) (1 + vb wi r (k + 1) (rm op b)) 0) 0 16)
theorem vb_s {wi : Nat → Nat → Bool} {r k x : Nat} {op : Nat → Bool} : x ≤ vb wi (r + 1) k op ↔ x ≤ vb wi r (k + 1) op ∨ ∃ b, b < 16 ∧ wi k b = true ∧ op b = true ∧ x ≤ 1 + vb wi r (k + 1) (rm op b) := by
  have h1 : x ≤ vb wi (r + 1) k op ↔ x ≤ vb wi r (k + 1) op ∨ x ≤ mxf (fun b => cond (wi k b && op b) (1 + vb wi r (k + 1) (rm op b)) 0) 0 16 := by
    show x ≤ max _ _ ↔ _
    omega
  rw [h1, mxf_le]
  constructor
  · rintro (h | h | ⟨b, -, h3, h4⟩)
    · exact Or.inl h
    · exact Or.inl (by omega)
    · cases hc : (wi k b && op b) with
      | false =>
        rw [hc] at h4
        have h4 : x ≤ 0 := h4
        exact Or.inl (by omega)
      | true =>
        rw [hc] at h4
        have hc2 := hc
        rw [Bool.and_eq_true] at hc2
        exact Or.inr ⟨b, by omega, hc2.1, hc2.2, h4⟩
  · rintro (h | ⟨b, h3, h5, h6, h4⟩)
    · exact Or.inl h
    · refine Or.inr (Or.inr ⟨b, Nat.zero_le _, by omega, ?_⟩)
      rw [h5, h6]
      exact h4
theorem nat_eq {a b : Nat} (h : ∀ x, x ≤ a ↔ x ≤ b) : a = b := Nat.le_antisymm ((h a).mp (Nat.le_refl _)) ((h b).mpr (Nat.le_refl _))
theorem vb_cg {wi wi2 : Nat → Nat → Bool} (hw : ∀ x b, x < 20 → b < 16 → wi x b = wi2 x b) : ∀ (r k : Nat) (op op2 : Nat → Bool), k + r ≤ 20 → (∀ b, b < 16 → (∃ x, x < 20 ∧ wi x b = true) → op b = op2 b) → vb wi r k op = vb wi2 r k op2 := by
  intro r
  induction r with
  | zero => intro k op op2 _ _; rfl
  | succ r ih =>
    intro k op op2 hk h
    refine nat_eq (fun x => ?_)
    rw [vb_s, vb_s, ih (k + 1) op op2 (by omega) h]
    have hr : ∀ b, vb wi r (k + 1) (rm op b) = vb wi2 r (k + 1) (rm op2 b) := fun b => ih (k + 1) _ _ (by omega) (fun c hc hx => by unfold rm; rw [h c hc hx])
    constructor
    · rintro (h1 | ⟨b, h1, h2, h3, h4⟩)
      · exact Or.inl h1
      · exact Or.inr ⟨b, h1, by rw [← hw k b (by omega) h1]; exact h2, by rw [← h b h1 ⟨k, by omega, h2⟩]; exact h3, by rw [← hr]; exact h4⟩
    · rintro (h1 | ⟨b, h1, h2, h3, h4⟩)
      · exact Or.inl h1
      · have h2 : wi k b = true := by rw [hw k b (by omega) h1]; exact h2
        exact Or.inr ⟨b, h1, h2, by rw [h b h1 ⟨k, by omega, h2⟩]; exact h3, by rw [hr]; exact h4⟩
theorem vb_skip {wi : Nat → Nat → Bool} {r k : Nat} {op : Nat → Bool} (h : ∀ b, b < 16 → wi k b = false) : vb wi (r + 1) k op = vb wi r (k + 1) op := by
  refine nat_eq (fun x => ?_)
  rw [vb_s]
  constructor
  · rintro (h1 | ⟨b, h1, h2, -⟩)
    · exact h1
    · rw [h b h1] at h2; cases h2
  · exact Or.inl
theorem vb_up {wi : Nat → Nat → Bool} {D : Nat → Bool} {hd : Nat → Int32} : ∀ (r k : Nat) (op S : Nat → Bool), k + r ≤ 20 → (∀ x, k ≤ x → x < k + r → (∃ b, b < 16 ∧ D b = true ∧ hd b = nI x) ∨ ∀ b, b < 16 → wi x b = true → op b = true → S b = true) → vb wi r k op ≤ sp_cnt S 0 16 + sp_cnt (fun b => D b && decide ((k : Int) ≤ (hd b).toInt)) 0 16 := by
  intro r
  induction r with
  | zero => intro k op S _ _; exact Nat.zero_le _
  | succ r ih =>
    intro k op S hk h
    have hmono : sp_cnt (fun b => D b && decide (((k + 1 : Nat) : Int) ≤ (hd b).toInt)) 0 16 ≤ sp_cnt (fun b => D b && decide ((k : Int) ≤ (hd b).toInt)) 0 16 := sp_cnt_mono (fun b _ _ hb => by
      rw [Bool.and_eq_true, decide_eq_true_iff] at hb ⊢
      exact ⟨hb.1, by have := hb.2; omega⟩)
    rcases (vb_s (x := vb wi (r + 1) k op)).mp (Nat.le_refl _) with h1 | ⟨b0, h1, h2, h3, h4⟩
    · have := ih (k + 1) op S (by omega) (fun x a b => h x (by omega) (by omega))
      omega
    · cases hs : S b0 with
      | true =>
        have h5 := ih (k + 1) (rm op b0) (rm S b0) (by omega) (fun x a b => by
          rcases h x (by omega) (by omega) with q | q
          · exact Or.inl q
          · exact Or.inr (fun c hc hw ho => rm_t.mpr ⟨q c hc hw (rm_t.mp ho).1, (rm_t.mp ho).2⟩))
        have h6 : sp_cnt (rm S b0) 0 16 < sp_cnt S 0 16 := sp_cnt_lt (x := b0) (by unfold rm; simp) hs (fun c _ _ hc => (rm_t.mp hc).1) (Nat.zero_le _) (by omega)
        omega
      | false =>
        rcases h k (Nat.le_refl _) (by omega) with ⟨b1, q1, q2, q3⟩ | q
        · have h5 := ih (k + 1) (rm op b0) S (by omega) (fun x a b => by
            rcases h x (by omega) (by omega) with q | q
            · exact Or.inl q
            · exact Or.inr (fun c hc hw ho => q c hc hw (rm_t.mp ho).1))
          have h6 : sp_cnt (fun b => D b && decide (((k + 1 : Nat) : Int) ≤ (hd b).toInt)) 0 16 < sp_cnt (fun b => D b && decide ((k : Int) ≤ (hd b).toInt)) 0 16 := by
            refine sp_cnt_lt (x := b1) ?_ ?_ (fun b _ _ hb => ?_) (Nat.zero_le _) (by omega)
            · rw [q3, nI_toInt (by omega), decide_eq_false (by omega), Bool.and_false]
            · rw [q2, q3, nI_toInt (by omega), decide_eq_true (by omega)]; rfl
            · rw [Bool.and_eq_true, decide_eq_true_iff] at hb ⊢
              exact ⟨hb.1, by have := hb.2; omega⟩
          omega
        · rw [q b0 h1 h2 h3] at hs; cases hs
theorem sp_cnt_0 {P : Nat → Bool} : ∀ {m j : Nat}, (∀ k, j ≤ k → k < j + m → P k = false) → sp_cnt P j m = 0 := by
  intro m
  induction m with
  | zero => intro j _; rfl
  | succ m ih =>
    intro j h
    show (cond (P j) 1 0) + sp_cnt P (j + 1) m = 0
    rw [h j (Nat.le_refl _) (by omega), ih (fun k a b => h k (by omega) (by omega))]
    rfl
theorem vb_lo {wi : Nat → Nat → Bool} {hd : Nat → Int32} (inj : ∀ b c, b < 16 → c < 16 → hd b = hd c → 0 ≤ (hd b).toInt → b = c) : ∀ (r k : Nat) (op : Nat → Bool), k + r ≤ 20 → (∀ b, b < 16 → (k : Int) ≤ (hd b).toInt → ∃ x, x < k + r ∧ hd b = nI x ∧ wi x b = true ∧ op b = true) → sp_cnt (fun b => decide ((k : Int) ≤ (hd b).toInt)) 0 16 ≤ vb wi r k op := by
  intro r
  induction r with
  | zero =>
    intro k op hk h
    rw [sp_cnt_0 (fun b _ hb => ?_)]
    · exact Nat.zero_le _
    · rw [decide_eq_false_iff_not]
      intro q
      obtain ⟨x, h1, h2, -⟩ := h b (by omega) q
      rw [h2, nI_toInt (by omega)] at q
      omega
  | succ r ih =>
    intro k op hk h
    by_cases he : ∃ b0, b0 < 16 ∧ hd b0 = nI k
    · obtain ⟨b0, q1, q2⟩ := he
      have h1 : sp_cnt (fun b => decide ((k : Int) ≤ (hd b).toInt)) 0 16 ≤ sp_cnt (fun b => decide (((k + 1 : Nat) : Int) ≤ (hd b).toInt)) 0 16 + 1 := by
        refine sp_cnt_one (fun a b _ ha _ hb a1 a2 b1 b2 => ?_)
        rw [decide_eq_true_iff] at a1 b1
        rw [decide_eq_false_iff_not] at a2 b2
        exact inj a b (by omega) (by omega) (Int32.toInt_inj.mp (by omega)) (by omega)
      have h2 := ih (k + 1) (rm op b0) (by omega) (fun b hb q => by
        obtain ⟨x, y1, y2, y3, y4⟩ := h b hb (by omega)
        refine ⟨x, by omega, y2, y3, rm_t.mpr ⟨y4, fun e => ?_⟩⟩
        subst e
        rw [q2, nI_toInt (by omega)] at q
        omega)
      obtain ⟨x, y1, y2, y3, y4⟩ := h b0 q1 (by rw [q2, nI_toInt (by omega)]; omega)
      have hx : x = k := (nI_eq (by omega) (by omega)).mp (y2.symm.trans q2)
      subst hx
      exact vb_s.mpr (Or.inr ⟨b0, q1, y3, y4, by omega⟩)
    · have h1 : sp_cnt (fun b => decide ((k : Int) ≤ (hd b).toInt)) 0 16 ≤ sp_cnt (fun b => decide (((k + 1 : Nat) : Int) ≤ (hd b).toInt)) 0 16 := by
        refine sp_cnt_mono (fun b _ hb q => ?_)
        rw [decide_eq_true_iff] at q ⊢
        obtain ⟨x, y1, y2, -⟩ := h b (by omega) q
        have hne : x ≠ k := fun e => he ⟨b, by omega, by rw [y2, e]⟩
        rw [y2, nI_toInt (by omega)] at q ⊢
        omega
      have h2 := ih (k + 1) op (by omega) (fun b hb q => by
        obtain ⟨x, y1, y2, y3, y4⟩ := h b hb (by omega)
        exact ⟨x, by omega, y2, y3, y4⟩)
      exact vb_s.mpr (Or.inl (by omega))
/-! alternating ways -/
def fb_cl (wi : Nat → Nat → Bool) (op : Nat → Bool) (hd : Nat → Int32) (S : Nat → Bool) : Prop := ∀ b, b < 16 → S b = true → ∃ x, x < 20 ∧ hd b = nI x ∧ ∀ c, c < 16 → wi x c = true → op c = true → S c = true
def fb_no (wi : Nat → Nat → Bool) (op sn sn2 : Nat → Bool) (hd : Nat → Int32) (k : Nat) : Prop := (∀ c, c < 16 → sn c = true → sn2 c = true) ∧ (∀ c, c < 16 → wi k c = true → op c = true → sn2 c = true) ∧ ∀ c, c < 16 → sn2 c = true → sn c = false → ∃ x, x < 20 ∧ hd c = nI x ∧ ∀ d, d < 16 → wi x d = true → op d = true → sn2 d = true
def fb_ye (wi : Nat → Nat → Bool) (op sn : Nat → Bool) (hd hd2 : Nat → Int32) (k : Nat) : Prop :=
  (∀ c, c < 16 → sn c = true → hd2 c = hd c) ∧ (∃ b, b < 16 ∧ hd b = -1 ∧ hd2 b ≠ -1 ∧ ∀ c, c < 16 → c ≠ b → (hd2 c = -1 ↔ hd c = -1)) ∧ (∀ c, c < 16 → hd2 c ≠ hd c → ∃ x, x < 20 ∧ hd2 c = nI x ∧ wi x c = true ∧ op c = true) ∧
  (∀ v : Int32, v ≠ -1 → ((∃ c, c < 16 ∧ sn c = false ∧ hd2 c = v) ↔ (v = nI k ∨ ∃ c, c < 16 ∧ sn c = false ∧ hd c = v))) ∧
  ((∀ c d, c < 16 → d < 16 → sn c = false → sn d = false → hd c = hd d → hd c ≠ -1 → c = d) → (¬ ∃ c, c < 16 ∧ sn c = false ∧ hd c = nI k) → ∀ c d, c < 16 → d < 16 → sn c = false → sn d = false → hd2 c = hd2 d → hd2 c ≠ -1 → c = d) ∧
  ∀ S : Nat → Bool, fb_cl wi op hd S → (∃ c, c < 16 ∧ wi k c = true ∧ op c = true ∧ S c = false) ∧ ∀ c, c < 16 → S c = true → hd2 c = hd c
theorem bf_t {b : Bool} (h : ¬ b = true) : b = false := by cases b <;> simp_all
theorem fb_mono {wi : Nat → Nat → Bool} {op sn sn2 : Nat → Bool} {hd hd2 : Nat → Int32} {k : Nat} (hk : nI k ≠ -1) (hs : ∀ c, c < 16 → sn c = true → sn2 c = true) (H : fb_ye wi op sn2 hd hd2 k) : fb_ye wi op sn hd hd2 k := by
  obtain ⟨a, b, c, d, e, f⟩ := H
  have hf : ∀ c, c < 16 → sn2 c = false → sn c = false := fun c hc h => bf_t (fun z => by rw [hs c hc z] at h; cases h)
  refine ⟨fun c hc h => a c hc (hs c hc h), b, c, fun v hv => ⟨?_, ?_⟩, fun hin hno x y hx hy sx sy exy xne => ?_, f⟩
  · rintro ⟨x, hx, sx, ex⟩
    cases h2 : sn2 x with
    | true => exact Or.inr ⟨x, hx, sx, by rw [← a x hx h2]; exact ex⟩
    | false =>
      rcases (d v hv).mp ⟨x, hx, h2, ex⟩ with q | ⟨y, hy, sy, ey⟩
      · exact Or.inl q
      · exact Or.inr ⟨y, hy, hf y hy sy, ey⟩
  · rintro (q | ⟨y, hy, sy, ey⟩)
    · obtain ⟨x, hx, sx, ex⟩ := (d v hv).mpr (Or.inl q)
      exact ⟨x, hx, hf x hx sx, ex⟩
    · cases h2 : sn2 y with
      | true => exact ⟨y, hy, sy, by rw [a y hy h2]; exact ey⟩
      | false =>
        obtain ⟨x, hx, sx, ex⟩ := (d v hv).mpr (Or.inr ⟨y, hy, h2, ey⟩)
        exact ⟨x, hx, hf x hx sx, ex⟩
  · have key : ∀ x y, x < 16 → y < 16 → sn x = false → sn y = false → sn2 x = true → sn2 y = false → hd2 x = hd2 y → hd2 x ≠ -1 → False := by
      intro x y hx hy sx sy tx ty exy xne
      have ex := a x hx tx
      rcases (d (hd2 x) xne).mp ⟨y, hy, ty, exy.symm⟩ with q | ⟨z, hz, sz, ez⟩
      · exact hno ⟨x, hx, sx, by rw [← ex]; exact q⟩
      · have := hin z x hz hx (hf z hz sz) sx (by rw [ez, ex]) (by rw [ez]; exact xne)
        subst this
        rw [tx] at sz; cases sz
    cases tx : sn2 x with
    | true =>
      cases ty : sn2 y with
      | true => exact hin x y hx hy sx sy (by rw [← a x hx tx, ← a y hy ty]; exact exy) (by rw [← a x hx tx]; exact xne)
      | false => exact absurd (key x y hx hy sx sy tx ty exy xne) id
    | false =>
      cases ty : sn2 y with
      | true => exact absurd (key y x hy hx sy sx ty tx exy.symm (by rw [← exy]; exact xne)) id
      | false => exact e (fun c d hc hd3 sc sd ecd cne => hin c d hc hd3 (hf c hc sc) (hf d hd3 sd) ecd cne) (fun ⟨c, hc, sc, ec⟩ => hno ⟨c, hc, hf c hc sc, ec⟩) x y hx hy tx ty exy xne
theorem fb_base {wi : Nat → Nat → Bool} {op sn : Nat → Bool} {hd hd2 : Nat → Int32} {k j : Nat} (hk : k < 20) (hj : j < 16) (hf : hd j = -1) (h1 : wi k j = true) (h2 : op j = true) (h3 : sn j = false) (e1 : hd2 j = nI k) (e2 : ∀ c, c ≠ j → hd2 c = hd c) : fb_ye wi op sn hd hd2 k := by
  have kn : nI k ≠ -1 := px_neg1 (by omega)
  refine ⟨fun c hc h => e2 c (fun z => by subst z; rw [h] at h3; cases h3), ⟨j, hj, hf, by rw [e1]; exact kn, fun c hc z => by rw [e2 c z]⟩, fun c hc z => ?_, fun v hv => ⟨?_, ?_⟩, fun hin hno x y hx hy sx sy exy xne => ?_, fun S hS => ?_⟩
  · by_cases q : c = j
    · subst q; exact ⟨k, hk, e1, h1, h2⟩
    · exact absurd (e2 c q) z
  · rintro ⟨x, hx, sx, ex⟩
    by_cases q : x = j
    · subst q; exact Or.inl (ex.symm.trans e1)
    · exact Or.inr ⟨x, hx, sx, by rw [← e2 x q]; exact ex⟩
  · rintro (q | ⟨y, hy, sy, ey⟩)
    · exact ⟨j, hj, h3, by rw [e1, q]⟩
    · have : y ≠ j := fun z => by subst z; rw [hf] at ey; exact hv ey.symm
      exact ⟨y, hy, sy, by rw [e2 y this]; exact ey⟩
  · by_cases qx : x = j
    · by_cases qy : y = j
      · rw [qx, qy]
      · exfalso
        rw [qx, e1, e2 y qy] at exy
        exact hno ⟨y, hy, sy, exy.symm⟩
    · by_cases qy : y = j
      · exfalso
        rw [qy, e1, e2 x qx] at exy
        exact hno ⟨x, hx, sx, exy⟩
      · rw [e2 x qx, e2 y qy] at exy
        rw [e2 x qx] at xne
        exact hin x y hx hy sx sy exy xne
  · have sj : S j = false := bf_t (fun z => by
      obtain ⟨x, hx, ex, -⟩ := hS j hj z
      rw [hf] at ex
      exact px_neg1 (show x < 2 ^ 31 by omega) ex.symm)
    exact ⟨⟨j, hj, h1, h2, sj⟩, fun c hc sc => e2 c (fun z => by subst z; rw [sc] at sj; cases sj)⟩
theorem fb_nest {wi : Nat → Nat → Bool} {op sn : Nat → Bool} {hd hd1 hd2 : Nat → Int32} {k j y : Nat} (hk : k < 20) (hy : y < 20) (hj : j < 16) (hf : hd j = nI y) (h1 : wi k j = true) (h2 : op j = true) (h3 : sn j = false) (H : fb_ye wi op (fun c => sn c || decide (c = j)) hd hd1 y) (e1 : hd2 j = nI k) (e2 : ∀ c, c ≠ j → hd2 c = hd1 c) : fb_ye wi op sn hd hd2 k := by
  have kn : nI k ≠ -1 := px_neg1 (by omega)
  have yn : nI y ≠ -1 := px_neg1 (by omega)
  obtain ⟨a, ⟨b, b0, b1, b2, b3⟩, cc, d, e, f⟩ := H
  have nf : ∀ c, (sn c || decide (c = j)) = false ↔ (sn c = false ∧ c ≠ j) := fun c => by rw [Bool.or_eq_false_iff, decide_eq_false_iff_not]
  have hbj : b ≠ j := fun z => by subst z; rw [hf] at b1; exact yn b1
  refine ⟨fun c hc h => ?_, ⟨b, b0, b1, by rw [e2 b hbj]; exact b2, fun c hc z => ?_⟩, fun c hc z => ?_, fun v hv => ⟨?_, ?_⟩, fun hin hno x z hx hz sx sz exz xne => ?_, fun S hS => ?_⟩
  · rw [e2 c (fun z => by subst z; rw [h] at h3; cases h3)]
    exact a c hc (show (sn c || decide (c = j)) = true by rw [h]; rfl)
  · by_cases q : c = j
    · subst q
      rw [e1, hf]
      exact ⟨fun z => absurd z kn, fun z => absurd z yn⟩
    · rw [e2 c q]; exact b3 c hc z
  · by_cases q : c = j
    · subst q; exact ⟨k, hk, e1, h1, h2⟩
    · rw [e2 c q] at z ⊢
      exact cc c hc z
  · rintro ⟨x, hx, sx, ex⟩
    by_cases q : x = j
    · subst q; exact Or.inl (ex.symm.trans e1)
    · rw [e2 x q] at ex
      rcases (d v hv).mp ⟨x, hx, (nf x).mpr ⟨sx, q⟩, ex⟩ with z | ⟨u, hu, su, eu⟩
      · exact Or.inr ⟨j, hj, h3, by rw [hf, z]⟩
      · exact Or.inr ⟨u, hu, ((nf u).mp su).1, eu⟩
  · have back : (v = nI y ∨ ∃ c, c < 16 ∧ (sn c || decide (c = j)) = false ∧ hd c = v) → ∃ c, c < 16 ∧ sn c = false ∧ hd2 c = v := fun q => by
      obtain ⟨x, hx, sx, ex⟩ := (d v hv).mpr q
      have := (nf x).mp sx
      exact ⟨x, hx, this.1, by rw [e2 x this.2]; exact ex⟩
    rintro (q | ⟨u, hu, su, eu⟩)
    · exact ⟨j, hj, h3, by rw [e1, q]⟩
    · by_cases q : u = j
      · subst q; exact back (Or.inl (eu.symm.trans hf))
      · exact back (Or.inr ⟨u, hu, (nf u).mpr ⟨su, q⟩, eu⟩)
  · have i1 := e (fun c d hc hd3 sc sd ecd cne => hin c d hc hd3 ((nf c).mp sc).1 ((nf d).mp sd).1 ecd cne) (fun ⟨u, hu, su, eu⟩ => ((nf u).mp su).2 (hin u j hu hj ((nf u).mp su).1 h3 (by rw [eu, hf]) (by rw [eu]; exact yn)))
    have key : ∀ z, z < 16 → sn z = false → z ≠ j → hd1 z = nI k → False := by
      intro z hz sz zj ez
      rcases (d (nI k) kn).mp ⟨z, hz, (nf z).mpr ⟨sz, zj⟩, ez⟩ with q | ⟨u, hu, su, eu⟩
      · exact hno ⟨j, hj, h3, by rw [hf, q]⟩
      · exact hno ⟨u, hu, ((nf u).mp su).1, eu⟩
    by_cases qx : x = j
    · by_cases qz : z = j
      · rw [qx, qz]
      · rw [qx, e1, e2 z qz] at exz
        exact absurd (key z hz sz qz exz.symm) id
    · by_cases qz : z = j
      · rw [qz, e1, e2 x qx] at exz
        exact absurd (key x hx sx qx exz) id
      · rw [e2 x qx, e2 z qz] at exz
        rw [e2 x qx] at xne
        exact i1 x z hx hz ((nf x).mpr ⟨sx, qx⟩) ((nf z).mpr ⟨sz, qz⟩) exz xne
  · obtain ⟨⟨c0, g1, g2, g3, g4⟩, g5⟩ := f S hS
    have sj : S j = false := bf_t (fun z => by
      obtain ⟨x, hx, ex, q⟩ := hS j hj z
      have : x = y := (nI_eq (by omega) (by omega)).mp (ex.symm.trans hf)
      subst this
      rw [q c0 g1 g2 g3] at g4; cases g4)
    exact ⟨⟨j, hj, h1, h2, sj⟩, fun c hc sc => by rw [e2 c (fun z => by subst z; rw [sc] at sj; cases sj)]; exact g5 c hc sc⟩
