/-! ===== pure: ranks; bits of naturals; the reference's sets of taken shelters ===== -/
theorem xb_nI {n i : Nat} (hi : i < 32) : xb (nI n) i = n.testBit i := by
  show (BitVec.ofNat 32 n).getLsbD i = _
  rw [BitVec.getLsbD_ofNat, decide_eq_true hi, Bool.true_and]
theorem px_or (a b : Nat) : nI a ||| nI b = nI (a ||| b) := xb_ext (fun i hi => by rw [xb_or, xb_nI hi, xb_nI hi, xb_nI hi, Nat.testBit_or])
theorem px_s31 {p : Nat} (hp : p < 32) : ((nI p &&& 31).toBitVec.smod 32).toNat = p := by
  have h : ∀ p : Fin 32, ((nI p.1 &&& 31).toBitVec.smod 32).toNat = p.1 := by decide +kernel
  exact h ⟨p, hp⟩
theorem px_shl {a p : Nat} (hp : p < 32) (h : a * 2 ^ p < 2 ^ 32) : nI a <<< (nI p &&& 31) = nI (a * 2 ^ p) := pk_shlN _ p (px_s31 hp) h
theorem px_bit {t j : Nat} (ht : t < 65536) (hj : j < 16) : ((nI t >>> (nI j &&& 31)) &&& 1) = 0 ↔ t.testBit j = false := by
  rw [pk_shrN (by omega) _ j (px_s31 (by omega)), show (1 : Int32) = (1 : Int32) <<< (nI 0 &&& 31) by decide, xb_tst (by decide), xb_nI (by decide), Nat.testBit_div_two_pow, Nat.zero_add]
theorem px_m1 (x : Int32) : x + (-1) = x - 1 := by rw [Int32.sub_eq_add_neg]
def rkk (P : Nat → Bool) (k : Nat) : Nat := sp_cnt P 0 k
theorem sp_cnt_last (P : Nat → Bool) : ∀ (m j : Nat), sp_cnt P j (m + 1) = sp_cnt P j m + cond (P (j + m)) 1 0 := by
  intro m
  induction m with
  | zero => intro j; show (cond (P j) 1 0) + 0 = 0 + cond (P j) 1 0; omega
  | succ m ih =>
    intro j
    show (cond (P j) 1 0) + sp_cnt P (j + 1) (m + 1) = (cond (P j) 1 0) + sp_cnt P (j + 1) m + cond (P (j + (m + 1))) 1 0
    rw [ih (j + 1), show j + 1 + m = j + (m + 1) by omega, Nat.add_assoc]
theorem rkk_s (P : Nat → Bool) (k : Nat) : rkk P (k + 1) = rkk P k + cond (P k) 1 0 := by
  unfold rkk
  rw [sp_cnt_last, Nat.zero_add]
theorem rkk_t {P : Nat → Bool} {k : Nat} (h : P k = true) : rkk P (k + 1) = rkk P k + 1 := by rw [rkk_s, h]; rfl
theorem rkk_f {P : Nat → Bool} {k : Nat} (h : P k = false) : rkk P (k + 1) = rkk P k := by rw [rkk_s, h]; rfl
theorem rkk_le (P : Nat → Bool) (a : Nat) : ∀ d, rkk P a ≤ rkk P (a + d) := by
  intro d
  induction d with
  | zero => exact Nat.le_refl _
  | succ d ih =>
    have := rkk_s P (a + d)
    rw [show a + (d + 1) = a + d + 1 from rfl]
    omega
theorem rkk_mono (P : Nat → Bool) {a b : Nat} (h : a ≤ b) : rkk P a ≤ rkk P b := by
  have := rkk_le P a (b - a)
  rw [show a + (b - a) = b by omega] at this
  exact this
theorem rkk_lt {P : Nat → Bool} {a b : Nat} (h : a < b) (ha : P a = true) : rkk P a < rkk P b := by
  have h1 := rkk_t ha
  have h2 := rkk_mono P (show a + 1 ≤ b by omega)
  omega
theorem rkk_inj {P : Nat → Bool} {a b : Nat} (ha : P a = true) (hb : P b = true) (e : rkk P a = rkk P b) : a = b := by
  rcases Nat.lt_trichotomy a b with z | z | z
  · have := rkk_lt z ha; omega
  · exact z
  · have := rkk_lt z hb; omega
theorem rkk_ex {P : Nat → Bool} : ∀ (N i : Nat), i < rkk P N → ∃ x, x < N ∧ P x = true ∧ rkk P x = i := by
  intro N
  induction N with
  | zero => intro i h; exact absurd h (Nat.not_lt_zero i)
  | succ N ih =>
    intro i h
    by_cases q : i < rkk P N
    · obtain ⟨x, h1, h2, h3⟩ := ih i q
      exact ⟨x, by omega, h2, h3⟩
    · cases hp : P N with
      | false => rw [rkk_f hp] at h; exact absurd h q
      | true => rw [rkk_t hp] at h; exact ⟨N, by omega, hp, by omega⟩
theorem rkk_gap {P : Nat → Bool} {a b : Nat} (h : rkk P a = rkk P b) : ∀ x, a ≤ x → x < b → P x = false := fun x h1 h2 => bf_t (fun z => by
  have h3 := rkk_mono P h1
  have h4 := rkk_lt h2 z
  omega)
def nth (P : Nat → Bool) (N i : Nat) : Nat := (sp_find (fun x => P x && decide (rkk P x = i)) 0 N).getD 0
theorem nth_spec {P : Nat → Bool} {N i : Nat} (h : i < rkk P N) : nth P N i < N ∧ P (nth P N i) = true ∧ rkk P (nth P N i) = i := by
  unfold nth
  obtain ⟨x, h1, h2, h3⟩ := rkk_ex N i h
  cases e : sp_find (fun x => P x && decide (rkk P x = i)) 0 N with
  | none =>
    have := sp_find_none e x (Nat.zero_le _) (by omega)
    rw [h2, h3, decide_eq_true rfl] at this; cases this
  | some y =>
    obtain ⟨-, h4, h5⟩ := sp_find_some e
    rw [Bool.and_eq_true, decide_eq_true_iff] at h5
    exact ⟨by show y < N; omega, h5.1, h5.2⟩
theorem nth_of {P : Nat → Bool} {N x : Nat} (hx : x < N) (h : P x = true) : nth P N (rkk P x) = x := by
  have h1 := rkk_lt hx h
  obtain ⟨-, h3, h4⟩ := nth_spec h1
  exact rkk_inj h3 h h4
theorem sp_find_eq {P : Nat → Bool} {x : Nat} (px : P x = true) : ∀ {m j : Nat}, j ≤ x → x < j + m → (∀ y, j ≤ y → y < x → P y = false) → sp_find P j m = some x := by
  intro m
  induction m with
  | zero => intro j h1 h2; omega
  | succ m ih =>
    intro j h1 h2 h
    show cond (P j) (some j) (sp_find P (j + 1) m) = some x
    by_cases q : x = j
    · subst q; rw [px]; rfl
    · rw [h j (Nat.le_refl _) (by omega)]
      exact ih (by omega) (by omega) (fun y a b => h y (by omega) b)
theorem sp_find_no {P : Nat → Bool} : ∀ {m j : Nat}, (∀ y, j ≤ y → y < j + m → P y = false) → sp_find P j m = none := by
  intro m
  induction m with
  | zero => intro j _; rfl
  | succ m ih =>
    intro j h
    show cond (P j) (some j) (sp_find P (j + 1) m) = none
    rw [h j (Nat.le_refl _) (by omega)]
    exact ih (fun y a b => h y (by omega) (by omega))
theorem vb_skips {wi : Nat → Nat → Bool} {op : Nat → Bool} {a b : Nat} (hab : a ≤ b) (hb : b ≤ 20) (h : ∀ x, a ≤ x → x < b → ∀ c, c < 16 → wi x c = false) : vb wi (20 - a) a op = vb wi (20 - b) b op := by
  obtain ⟨d, rfl⟩ : ∃ d, b = a + d := ⟨b - a, by omega⟩
  induction d with
  | zero => rfl
  | succ d ih =>
    rw [ih (by omega) (by omega) (fun x h1 h2 => h x h1 (by omega)), show 20 - (a + d) = (20 - (a + (d + 1))) + 1 by omega, vb_skip (fun c hc => h (a + d) (by omega) (by omega) c hc)]
    rfl
theorem opk_skip {wi : Nat → Nat → Bool} {a b : Nat} (hab : a ≤ b) (h : ∀ x, a ≤ x → x < b → ∀ c, c < 16 → wi x c = false) : opk wi b = opk wi a := by
  obtain ⟨d, rfl⟩ : ∃ d, b = a + d := ⟨b - a, by omega⟩
  induction d with
  | zero => rfl
  | succ d ih =>
    rw [← ih (by omega) (fun x h1 h2 => h x h1 (by omega))]
    show gv_o (asg wi (a + d)) (opk wi (a + d)) = _
    rw [asg_none (fun c hc => h (a + d) (by omega) (by omega) c hc)]
    rfl
theorem sp_cnt_inj {f : Nat → Nat} {N : Nat} : ∀ (m j : Nat) (P Q : Nat → Bool), (∀ x, j ≤ x → x < j + m → P x = true → f x < N ∧ Q (f x) = true) → (∀ x y, j ≤ x → x < j + m → j ≤ y → y < j + m → P x = true → P y = true → f x = f y → x = y) → sp_cnt P j m ≤ sp_cnt Q 0 N := by
  intro m
  induction m with
  | zero => intro j P Q _ _; exact Nat.zero_le _
  | succ m ih =>
    intro j P Q h1 h2
    show (cond (P j) 1 0) + sp_cnt P (j + 1) m ≤ _
    cases hp : P j with
    | false =>
      have := ih (j + 1) P Q (fun x a b => h1 x (by omega) (by omega)) (fun x y a b c d => h2 x y (by omega) (by omega) (by omega) (by omega))
      simp only [cond_false]; omega
    | true =>
      obtain ⟨g1, g2⟩ := h1 j (Nat.le_refl _) (by omega) hp
      have h3 := ih (j + 1) P (rm Q (f j)) (fun x a b c => by
        obtain ⟨g3, g4⟩ := h1 x (by omega) (by omega) c
        refine ⟨g3, rm_t.mpr ⟨g4, fun e => ?_⟩⟩
        have := h2 x j (by omega) (by omega) (Nat.le_refl _) (by omega) c hp e
        omega) (fun x y a b c d => h2 x y (by omega) (by omega) (by omega) (by omega))
      have h4 : sp_cnt (rm Q (f j)) 0 N < sp_cnt Q 0 N := sp_cnt_lt (x := f j) (by unfold rm; simp) g2 (fun c _ _ hc => (rm_t.mp hc).1) (Nat.zero_le _) (by omega)
      simp only [cond_true]; omega
section
variable {h g : mb_AH} {w v : Nat → Int32} {B K T D U n o : Nat}
def mvk (w : Nat → Int32) (K : Nat) : Nat → Bool := fun k => decide (k < K) && mvr w k
abbrev w_many (w : Nat → Int32) (K : Nat) : Nat := rkk (mvk w K) 20
abbrev w_pl (w : Nat → Int32) (B K : Nat) : Nat := rkk (shb w B K) 16
theorem mvk_t {k : Nat} : mvk w K k = true ↔ k < K ∧ mvr w k = true := by
  unfold mvk
  rw [Bool.and_eq_true, decide_eq_true_iff]
theorem wis_s {k b : Nat} (h : wis w B K T k b = true) : shb w B K b = true := by
  unfold wis at h
  rw [Bool.and_eq_true, Bool.and_eq_true (shb w B K b)] at h
  exact h.2.1
theorem wis_f {k : Nat} (h : mvk w K k = false) : ∀ c, c < 16 → wis w B K T k c = false := fun c _ => by
  unfold wis
  unfold mvk at h
  rw [h]; rfl
theorem w_fit16 (hw : mb_W w B K T D U) : w_many w K + w_pl w B K ≤ 16 := by
  have hB := hw.B16
  have h1 : w_many w K ≤ sp_cnt (fun b => decide (b < B) && decide (bt w b 2 = 1)) 0 16 := by
    refine sp_cnt_inj (f := fun k => (bo w k 4).toNatClampNeg) 20 0 _ _ (fun x _ _ hx => ?_) (fun x y _ _ _ _ hx hy e => ?_)
    · obtain ⟨x1, x2⟩ := mvk_t.mp hx
      obtain ⟨b, b1, b2, b3, b4⟩ := mvr_in hw x1 x2
      show (bo w x 4).toNatClampNeg < 16 ∧ (decide ((bo w x 4).toNatClampNeg < B) && decide (bt w (bo w x 4).toNatClampNeg 2 = 1)) = true
      rw [b3, nI_clamp (by omega), decide_eq_true b1, decide_eq_true b4]
      exact ⟨by omega, rfl⟩
    · obtain ⟨x1, x2⟩ := mvk_t.mp hx
      obtain ⟨y1, y2⟩ := mvk_t.mp hy
      obtain ⟨b, b1, b2, b3, b4⟩ := mvr_in hw x1 x2
      obtain ⟨c, c1, c2, c3, c4⟩ := mvr_in hw y1 y2
      have e : (bo w x 4).toNatClampNeg = (bo w y 4).toNatClampNeg := e
      rw [b3, c3, nI_clamp (by omega), nI_clamp (by omega)] at e
      exact hw.2.2.2.2.2.1 x y x1 y1 b2 c2 (by rw [b3, c3, e])
  have h2 : sp_cnt (fun b => decide (b < B) && decide (bt w b 2 = 1)) 0 16 + w_pl w B K ≤ sp_cnt (fun _ => true) 0 16 := by
    refine sp_cnt_add (fun b _ _ => ⟨fun z => ?_, fun _ => rfl, fun _ => rfl⟩)
    rw [Bool.and_eq_true, decide_eq_true_iff, decide_eq_true_iff] at z
    unfold shb
    rw [z.2, decide_eq_false (show ¬ (1 : Int32) = 0 by decide)]
    simp
  have h3 := sp_cnt_le (fun _ => true) 16 0
  omega
/-- which shelters a set of taken ones leaves open -/
def opt (S : Nat → Bool) (t : Nat) : Nat → Bool := fun b => !t.testBit (rkk S b)
theorem opt_or {S : Nat → Bool} {t b c : Nat} (hb : S b = true) (hc : S c = true) : opt S (t ||| 2 ^ rkk S b) c = rm (opt S t) b c := by
  unfold opt rm
  rw [Nat.testBit_or, Nat.testBit_two_pow, Bool.not_or]
  by_cases q : c = b
  · subst q; rw [decide_eq_true rfl, decide_eq_true rfl]
  · rw [decide_eq_false q, decide_eq_false (fun e => q (rkk_inj hc hb e.symm))]
theorem idx_lt {i m t P : Nat} (hi : i ≤ m) (ht : t < P) (h : (m + 1) * P ≤ 65536) : i * P + t < 65536 := by
  have h1 : (i + 1) * P ≤ (m + 1) * P := Nat.mul_le_mul_right P (by omega)
  rw [Nat.add_mul, Nat.one_mul] at h1
  omega
theorem idx_ne {i i2 t t2 P : Nat} (hi : i < i2) (ht : t < P) : i * P + t ≠ i2 * P + t2 := by
  have h1 : (i + 1) * P ≤ i2 * P := Nat.mul_le_mul_right P (by omega)
  rw [Nat.add_mul, Nat.one_mul] at h1
  omega
theorem w_room (hw : mb_W w B K T D U) : (w_many w K + 1) * 2 ^ w_pl w B K ≤ 65536 := by
  have h1 := w_fit16 hw
  have h2 : w_many w K + 1 ≤ 2 ^ w_many w K := Nat.lt_two_pow_self
  have h3 : (w_many w K + 1) * 2 ^ w_pl w B K ≤ 2 ^ w_many w K * 2 ^ w_pl w B K := Nat.mul_le_mul_right _ h2
  rw [← Nat.pow_add] at h3
  have h4 : 2 ^ (w_many w K + w_pl w B K) ≤ 2 ^ 16 := Nat.pow_le_pow_right (by decide) h1
  omega
/-- how many boats, with the boat of rank i on shelter j -/
def its (wi : Nat → Nat → Bool) (S : Nat → Bool) (fit : Nat → Nat → Bool) (x t j : Nat) : Nat := cond (!t.testBit j && fit x (nth S 16 j)) (1 + vb wi (19 - x) (x + 1) (opt S (t ||| 2 ^ j))) 0
theorem its_max (hw : mb_W w B K T D U) {x t : Nat} (hx : mvk w K x = true) : max (vb (wis w B K T) (19 - x) (x + 1) (opt (shb w B K) t)) (mxf (its (wis w B K T) (shb w B K) (sp_fit w T) x t) 0 (w_pl w B K)) = vb (wis w B K T) (20 - x) x (opt (shb w B K) t) := by
  have hK := hw.K20; have hB := hw.B16
  have hxK := (mvk_t.mp hx).1
  refine nat_eq (fun y => ?_)
  have h1 : ∀ a b : Nat, y ≤ max a b ↔ y ≤ a ∨ y ≤ b := fun a b => by omega
  rw [h1, mxf_le, show 20 - x = (19 - x) + 1 by omega, vb_s]
  constructor
  · rintro (z | z | ⟨j, -, j2, z⟩)
    · exact Or.inl z
    · exact Or.inl (by omega)
    · unfold its at z
      cases hc : (!t.testBit j && sp_fit w T x (nth (shb w B K) 16 j)) with
      | false => rw [hc] at z; have z : y ≤ 0 := z; exact Or.inl (by omega)
      | true =>
        rw [hc] at z
        have z : y ≤ 1 + vb (wis w B K T) (19 - x) (x + 1) (opt (shb w B K) (t ||| 2 ^ j)) := z
        rw [Bool.and_eq_true] at hc
        have j3 : j < w_pl w B K := by omega
        obtain ⟨n1, n2, n3⟩ := nth_spec (show j < rkk (shb w B K) 16 from j3)
        refine Or.inr ⟨nth (shb w B K) 16 j, n1, ?_, ?_, ?_⟩
        · unfold wis
          unfold mvk at hx
          rw [hx, n2, hc.2]; rfl
        · unfold opt
          rw [n3]; exact hc.1
        · rw [vb_cg (wi2 := wis w B K T) (fun _ _ _ _ => rfl) (19 - x) (x + 1) (rm (opt (shb w B K) t) (nth (shb w B K) 16 j)) (opt (shb w B K) (t ||| 2 ^ j)) (by omega) (fun c hc2 ⟨u, hu, hu2⟩ => by
            have hsc : shb w B K c = true := wis_s hu2
            rw [← opt_or n2 hsc, n3])]
          exact z
  · rintro (z | ⟨b, b1, b2, b3, z⟩)
    · exact Or.inl z
    · have hs : shb w B K b = true := wis_s b2
      have hf := (wis_t b2).2.2.2.2.2
      have hr : rkk (shb w B K) b < w_pl w B K := rkk_lt b1 hs
      refine Or.inr (Or.inr ⟨rkk (shb w B K) b, Nat.zero_le _, by omega, ?_⟩)
      unfold its
      rw [nth_of b1 hs, hf]
      have hb3 : (!t.testBit (rkk (shb w B K) b)) = true := b3
      rw [hb3]
      show y ≤ 1 + vb (wis w B K T) (19 - x) (x + 1) (opt (shb w B K) (t ||| 2 ^ rkk (shb w B K) b))
      rw [vb_cg (wi2 := wis w B K T) (fun _ _ _ _ => rfl) (19 - x) (x + 1) (opt (shb w B K) (t ||| 2 ^ rkk (shb w B K) b)) (rm (opt (shb w B K) t) b) (by omega) (fun c hc2 ⟨u, hu, hu2⟩ => by
        have hsc : shb w B K c = true := wis_s hu2
        exact opt_or hs hsc)]
      exact z
theorem vb_le (wi : Nat → Nat → Bool) : ∀ (r k : Nat) (op : Nat → Bool), vb wi r k op ≤ r := by
  intro r
  induction r with
  | zero => intro k op; exact Nat.le_refl _
  | succ r ihr =>
    intro k op
    rcases (vb_s (x := vb wi (r + 1) k op)).mp (Nat.le_refl _) with z | ⟨b, -, -, -, z⟩
    · have := ihr (k + 1) op; omega
    · have := ihr (k + 1) (rm op b); omega
theorem its_le (wi : Nat → Nat → Bool) (S : Nat → Bool) (fit : Nat → Nat → Bool) (x t j : Nat) : its wi S fit x t j ≤ 20 := by
  unfold its
  have := vb_le wi (19 - x) (x + 1) (opt S (t ||| 2 ^ j))
  cases (!t.testBit j && fit x (nth S 16 j)) with
  | false => exact Nat.zero_le _
  | true => show 1 + vb wi (19 - x) (x + 1) (opt S (t ||| 2 ^ j)) ≤ 20; omega
/-- what the reference's search stands on -/
def ws_ok (w : Nat → Int32) (B K T : Nat) (h : mb_AH) : Prop := mb_W0 (h.1 20 0 0) B K T ∧ (∀ x b, x < 20 → b < 16 → sp_fit (h.1 20 0 0) T x b = sp_fit w T x b) ∧ (∀ i, i < w_many w K → h.1 24 0 0 i = nI (nth (mvk w K) 20 i)) ∧ ∀ j, j < w_pl w B K → h.1 25 0 0 j = nI (nth (shb w B K) 16 j)
/-- rows n .. many of the table are laid -/
def lb_ok (w : Nat → Int32) (B K T : Nat) (h : mb_AH) (n : Nat) : Prop := ∀ i, n ≤ i → i ≤ w_many w K → ∀ t, t < 2 ^ w_pl w B K → ∀ k, k ≤ 20 → rkk (mvk w K) k = i → h.1 26 0 0 (i * 2 ^ w_pl w B K + t) = nI (vb (wis w B K T) (20 - k) k (opt (shb w B K) t))
theorem or_lt {t j p : Nat} (ht : t < 2 ^ p) (hj : j < p) : t ||| 2 ^ j < 2 ^ p := Nat.or_lt_two_pow ht (Nat.pow_lt_pow_right (by decide) hj)
theorem pw_le {p : Nat} (hp : p ≤ 16) : 2 ^ p ≤ 65536 := Nat.pow_le_pow_right (n := 2) (by decide) hp
theorem m6_withShelter (hw : mb_W w B K T D U) (ws : ws_ok w B K T h) {i j t : Nat} (hi : i < w_many w K) (hj : j < w_pl w B K) (ht : t < 2 ^ w_pl w B K) (lb : lb_ok w B K T h (i + 1)) : F_X6_withShelter (nI i) (nI j) (nI (w_pl w B K)) (nI t) h = mb_rI (nI (its (wis w B K T) (shb w B K) (sp_fit w T) (nth (mvk w K) 20 i) t j)) h := by
  have h16 := w_fit16 hw
  have hrm := w_room hw
  have hpw := pw_le (show w_pl w B K ≤ 16 by omega)
  obtain ⟨x1, x2, x3⟩ := nth_spec (show i < rkk (mvk w K) 20 from hi)
  obtain ⟨b1, b2, b3⟩ := nth_spec (show j < rkk (shb w B K) 16 from hj)
  obtain ⟨z0, z1, z2, z3⟩ := ws
  have h0 : B_X6_withShelter_32 (nI i) (nI j) (nI (w_pl w B K)) (nI t) h = mb_rI 0 h := by
    unfold B_X6_withShelter_32 B_X6_withShelter_33
    rw [if_pos rfl]
  unfold F_X6_withShelter its
  cases hb : t.testBit j with
  | true =>
    rw [if_neg (fun z => by rw [px_bit (by omega) (by omega), hb] at z; cases z), h0]
    rfl
  | false =>
    rw [if_pos ((px_bit (by omega) (by omega)).mpr hb), px_gB (show i < 20 by omega) (by decide), px_gB (show j < 16 by omega) (by decide), nI_clamp (by omega), nI_clamp (by omega), z2 i hi, z3 j hj, m6_isFit z0 x1 b1, z1 _ _ x1 b1]
    simp only [px_cI, px_cIx, px_cV, px_cVx, px_cL, px_cLx, px_cR0, px_cR1, px_cRx, px_lI, px_lL, px_up, px_gZ0, px_gZ1, px_gZb, px_g0, px_g1, px_g2, px_g3, px_g4, px_g5, px_g6, px_g7, px_g8, px_g9, px_g10, px_g11, px_g12, px_g13, px_g14, px_c0, px_c1, px_c2, px_c3, px_c4, px_c5, px_c6, px_c7, px_c8, px_c9, px_c10, px_c11, px_c12, px_c13, px_c14]
    cases hf : sp_fit w T (nth (mvk w K) 20 i) (nth (shb w B K) 16 j) with
    | false => rw [if_pos (by rfl), h0]; rfl
    | true =>
      rw [if_neg (by decide)]
      have ho := or_lt ht hj
      have e1 : (nI i + 1) <<< (nI (w_pl w B K) &&& 31) = nI ((i + 1) * 2 ^ w_pl w B K) := by
        rw [nI_1]
        refine px_shl (by omega) ?_
        have := idx_lt (show i + 1 ≤ w_many w K by omega) ho hrm
        omega
      have e2 : nI t ||| ((1 : Int32) <<< (nI j &&& 31)) = nI (t ||| 2 ^ j) := by
        rw [show (1 : Int32) = nI 1 from rfl, px_shl (by omega) (by
          have : 2 ^ j ≤ 2 ^ 16 := Nat.pow_le_pow_right (by decide) (by omega)
          omega), Nat.one_mul, px_or]
      have hid := idx_lt (show i + 1 ≤ w_many w K by omega) ho hrm
      have hl := lb (i + 1) (Nat.le_refl _) (by omega) (t ||| 2 ^ j) ho (nth (mvk w K) 20 i + 1) (by omega) (by rw [rkk_t x2, x3])
      unfold B_X6_withShelter_33
      rw [if_neg (by decide), e1, e2, nI_add, px_gB hid (by decide), nI_clamp (by omega), hl, show (1 : Int32) = nI 1 from rfl, nI_add, show 20 - (nth (mvk w K) 20 i + 1) = 19 - nth (mvk w K) 20 i by omega]
      rfl
end
