/-! ===== constructors: Marina ===== -/
theorem ct_d0 : ∀ j, j < 4 → defaultValue (tyX0 j) = vp_V [.int 0, .int 0, .int 0, .int 0] j := by
  intro j hj
  rcases (show j = 0 ∨ j = 1 ∨ j = 2 ∨ j = 3 by omega) with rfl | rfl | rfl | rfl <;> rfl
theorem ct_d1 : ∀ j, j < 9 → defaultValue (tyX1 j) = vp_V [.int 0, .int 0, .int 0, .int 0, .int 0, .int 0, .int 0, .int 0, .int 0] j := by
  intro j hj
  rcases (show j = 0 ∨ j = 1 ∨ j = 2 ∨ j = 3 ∨ j = 4 ∨ j = 5 ∨ j = 6 ∨ j = 7 ∨ j = 8 by omega) with rfl | rfl | rfl | rfl | rfl | rfl | rfl | rfl | rfl <;> rfl
theorem ct_d2 : ∀ j, j < 15 → defaultValue (tyX2 j) = vp_V [.null, .int 0, .null, .int 0, .null, .int 0, .int 0, .int 0, .int 0, .int 0, .int 0, .int 0, .int 0, .long 0, .int 0] j := by
  intro j hj
  rcases (show j = 0 ∨ j = 1 ∨ j = 2 ∨ j = 3 ∨ j = 4 ∨ j = 5 ∨ j = 6 ∨ j = 7 ∨ j = 8 ∨ j = 9 ∨ j = 10 ∨ j = 11 ∨ j = 12 ∨ j = 13 ∨ j = 14 by omega) with rfl | rfl | rfl | rfl | rfl | rfl | rfl | rfl | rfl | rfl | rfl | rfl | rfl | rfl | rfl <;> rfl
theorem ct_d3 : ∀ j, j < 4 → defaultValue (tyX3 j) = vp_V [.null, .int 0, .null, .int 0] j := by
  intro j hj
  rcases (show j = 0 ∨ j = 1 ∨ j = 2 ∨ j = 3 by omega) with rfl | rfl | rfl | rfl <;> rfl
theorem ct_d4 : ∀ j, j < 4 → defaultValue (tyX4 j) = vp_V [.null, .null, .int 0, .int 0] j := by
  intro j hj
  rcases (show j = 0 ∨ j = 1 ∨ j = 2 ∨ j = 3 by omega) with rfl | rfl | rfl | rfl <;> rfl
theorem ct_d5 : ∀ j, j < 6 → defaultValue (tyX5 j) = vp_V [.null, .null, .null, .int 0, .null, .null] j := by
  intro j hj
  rcases (show j = 0 ∨ j = 1 ∨ j = 2 ∨ j = 3 ∨ j = 4 ∨ j = 5 by omega) with rfl | rfl | rfl | rfl | rfl | rfl <;> rfl
theorem ct_d6 : ∀ j, j < 16 → defaultValue (tyX6 j) = vp_V [.null, .null, .null, .int 0, .int 0, .null, .int 0, .null, .null, .null, .int 0, .int 0, .int 0, .int 0, .null, .long 0] j := by
  intro j hj
  rcases (show j = 0 ∨ j = 1 ∨ j = 2 ∨ j = 3 ∨ j = 4 ∨ j = 5 ∨ j = 6 ∨ j = 7 ∨ j = 8 ∨ j = 9 ∨ j = 10 ∨ j = 11 ∨ j = 12 ∨ j = 13 ∨ j = 14 ∨ j = 15 by omega) with rfl | rfl | rfl | rfl | rfl | rfl | rfl | rfl | rfl | rfl | rfl | rfl | rfl | rfl | rfl | rfl <;> rfl
theorem ct_nI (n : Nat) (h : n < 1000) : (nI n).toNatClampNeg = n := nI_clamp (by omega)
theorem ct_nge (n k : Nat) (h : n < k) (hk : k < 1000) : ¬ nI k ≤ nI n := fun h1 => by
  have := nI_ge (a := n) (b := k) (by omega) (by omega)
  exact this h1
theorem ct_vin (n k : Nat) (h : n < k) (hk : k < 1000) : vp_in (nI n) k := fun h1 => by
  rcases h1 with h1 | h1
  · exact nI_pos (by omega) h1
  · rw [ct_nI n (by omega)] at h1
    omega
theorem ct_inc (n : Nat) : nI n + Int32.ofInt 1 = nI (n + 1) := nI_add n 1
abbrev ct_fv (f : Nat → Option Nat) : (Nat → Int32) ⊕ (Nat → Int64) ⊕ (Nat → UInt32) ⊕ (Nat → UInt64) ⊕ (Nat → Option Nat) := .inr (.inr (.inr (.inr f)))
abbrev ct_U2 : Type := (Nat × Nat × Nat) × (Nat → Nat) × (Nat → Nat)
abbrev ct_T2 (a b c : Nat) : va_E := .inr (2, [.ref a, .int 0, .ref b, .int 0, .ref c, .int 1, .int 0, .int 30, .int 0, .int 270, .int 90, .int 0, .int 0, .long 0, .int 0])
abbrev ct_D2 : va_E := .inr (2, [.null, .int 0, .null, .int 0, .null, .int 0, .int 0, .int 0, .int 0, .int 0, .int 0, .int 0, .int 0, .long 0, .int 0])
def ct_wM (aC : Nat → ClassId) (h0 : Nat) (u : ct_U2) : va_W := (h0, ct_T2 u.1.1 u.1.2.1 u.1.2.2) :: (u.1.1, .inl (aC 3, (16, ct_fv (fun k => some (u.2.1 k))))) :: (u.1.2.1, .inl (aC 4, (20, ct_fv (fun k => some (u.2.2 k))))) :: (u.1.2.2, .inl (aC 0, (14, .inl (fun _ => 0)))) :: ((List.range 16).map (fun k => (u.2.1 k, ct_B0)) ++ (List.range 20).map (fun k => (u.2.2 k, ct_B1)))
/-- the world while the boats are made: f, g what the arrays hold -/
def ct_wN (aC : Nat → ClassId) (h0 a b c : Nat) (f g : Nat → Option Nat) (l1 l2 : va_W) : va_W := (h0, ct_T2 a b c) :: (a, .inl (aC 3, (16, ct_fv f))) :: (b, .inl (aC 4, (20, ct_fv g))) :: (c, .inl (aC 0, (14, .inl (fun _ => 0)))) :: (l1 ++ l2)
def ct_up (f : Nat → Nat) (n q : Nat) : Nat → Nat := fun k => if k = n then q else f k
theorem ct_mapS (f : Nat → Nat) (n q : Nat) (e : va_E) : (List.range n).map (fun k => (f k, e)) ++ [(q, e)] = (List.range (n + 1)).map (fun k => (ct_up f n q k, e)) := by
  rw [List.range_succ, List.map_append]
  congr 1
  · apply List.map_congr_left
    intro k hk
    have h1 := List.mem_range.mp hk
    show _ = (if k = n then q else f k, e)
    rw [if_neg (by omega)]
  · show _ = [(if n = n then q else f n, e)]
    rw [if_pos rfl]
theorem ct_arrq (cA : ClassId) (n : Nat) (f g : Nat → Option Nat) (h : ∀ k, k < n → f k = g k) : vp_cell cA (n, ct_fv f) = vp_cell cA (n, ct_fv g) := by
  rw [vp_cell_q, vp_cell_q]
  unfold arrV
  congr 1
  apply Array.ext
  · simp
  · intro i h1 h2
    simp only [Array.getElem_ofFn]
    rw [h i (by simpa using h1)]
theorem ct_Pset {D : va_G} {cl : List vw_C} {w1 w2 : va_W} {H : Heap} (h : va_P D cl w1 H) (e : ∀ k : Nat, w2[k]? = w1[k]? ∨ ∃ (q : Nat) (x y : ClassId × vp_A), w2[k]? = some (q, (Sum.inl x : va_E)) ∧ w1[k]? = some (q, (Sum.inl y : va_E)) ∧ vp_cell x.1 x.2 = vp_cell y.1 y.2) : va_P D cl w2 H := by
  intro k q hq
  rcases e k with h1 | ⟨q2, x, y, h1, h2, h3⟩
  · exact h k q (by rw [← h1]; exact hq)
  · rw [hq] at h1
    cases h1
    have := h k _ h2
    show H[q2]? = some (vp_cell x.1 x.2)
    rw [h3]
    exact this
theorem ct_Dset {A : Nat → Prop} {w1 w2 : va_W} (h : va_D A w1) (e : w2.map (fun q => q.1) = w1.map (fun q => q.1)) : va_D A w2 := by
  have key : ∀ (k : Nat) (q : Nat × va_E), w2[k]? = some q → ∃ q2, w1[k]? = some q2 ∧ q2.1 = q.1 := by
    intro k q hq
    have h1 : (w2.map (fun q => q.1))[k]? = some q.1 := by rw [List.getElem?_map, hq]; rfl
    rw [e, List.getElem?_map] at h1
    cases h2 : w1[k]? with
    | none => rw [h2] at h1; cases h1
    | some q2 => rw [h2] at h1; exact ⟨q2, rfl, Option.some.inj h1⟩
  refine ⟨fun i j x y hi hj hxy => ?_, fun k q hk => ?_⟩
  · obtain ⟨x2, h1, e1⟩ := key i x hi
    obtain ⟨y2, h2, e2⟩ := key j y hj
    exact h.1 i j x2 y2 h1 h2 (by rw [e1, e2, hxy])
  · obtain ⟨q2, h1, e1⟩ := key k q hk
    rw [← e1]
    exact h.2 k q2 h1
section CT2
variable {p : Program} {l : Launch} {e : Env} {R : Room} {s : State} {m : MethodId} {args : Array Value} {below : List Frame} {meth : Method} {c : Code} {A : Nat → Prop} {D : va_G} {aC : Nat → ClassId} {h0 a0 a1 a2 : Nat}
/-- the boats, from the n-th on -/
theorem ct_boats (B : ct_Cx p s m args c cX2_init 2 RX2 D (ct_ty aC)) (hR : R = { frames := 2, cells := 39, slots := 294, locals := 32 }) (hr : meth.sig.returnType = none) (hlocks : meth.locks = false) (hA : ∀ q : Nat, s.heap.size ≤ q → A q) (qs : Nat → Nat) :
    ∀ (f n : Nat) (bs : Nat → Nat) (g : Nat → Option Nat) (H : Heap) (locs : List Loc) (ls : Array Slot) (cells slots : Nat), f + n = 20 → (∀ k, k < n → g k = some (bs k)) →
      va_P D vwCl (ct_wN aC h0 a0 a1 a2 (fun k => some (qs k)) g ((List.range 16).map (fun k => (qs k, ct_B0))) ((List.range n).map (fun k => (bs k, ct_B1)))) H → va_D A (ct_wN aC h0 a0 a1 a2 (fun k => some (qs k)) g ((List.range 16).map (fun k => (qs k, ct_B0))) ((List.range n).map (fun k => (bs k, ct_B1)))) → va_S A s.heap H locs → lv_has ls 2 [(1, .int (nI n)), (0, .ref h0)] → cells ≤ 19 + n → slots ≤ 114 + 9 * n →
      W p l e R s m args below meth c H locs cells slots (MQ below (va_Qv (fun _ : ct_U2 => True) (fun u t => va_P D vwCl (ct_wM aC h0 u) t.heap ∧ va_D A (ct_wM aC h0 u)) A) args s 39 294 A) (F0 m 83 ls []) := by
  intro f
  induction f with
  | zero =>
    intro n bs g H locs ls cells slots hn hg hP hD hS hl hc hs
    obtain rfl : n = 20 := by omega
    refine lv_iload_n B.1 B.2.1 dX2_init_83 rfl (lv_at hl 0 rfl) ?_
    refine lv_bipush (v := 20) B.1 B.2.1 dX2_init_84 (by decide) ?_
    refine lv_icmp_ge (tgt := 108) B.1 B.2.1 dX2_init_86 (by decide) (fun _ => ?_) (fun h => absurd (show (20 : Int32) ≤ nI 20 by decide) h)
    refine ct_ret (Wf := ct_wM aC h0) ((a0, a1, a2), qs, bs) B hr hlocks ?_ ?_ hS dX2_init_108 (by omega) (by omega)
    · refine ct_Pset hP (fun k => ?_)
      rcases k with _ | _ | _ | k
      · exact Or.inl rfl
      · exact Or.inl rfl
      · exact Or.inr ⟨_, _, _, rfl, rfl, ct_arrq _ _ _ _ (fun k hk => (hg k hk).symm)⟩
      · exact Or.inl rfl
    · refine ct_Dset hD rfl
  | succ f ih =>
    intro n bs g H locs ls cells slots hn hg hP hD hS hl hc hs
    subst hR
    refine lv_iload_n B.1 B.2.1 dX2_init_83 rfl (lv_at hl 0 rfl) ?_
    refine lv_bipush (v := 20) B.1 B.2.1 dX2_init_84 (by decide) ?_
    refine lv_icmp_ge (tgt := 108) B.1 B.2.1 dX2_init_86 (by decide) (fun h => absurd h ?_) (fun _ => ?_)
    · exact ct_nge n 20 (by omega) (by decide)
    refine lv_aload_n B.1 B.2.1 dX2_init_89 rfl (lv_at hl 1 rfl) ?_
    refine va_get (D := D) (ci := 2) (C := RX2) (T := TX2) (N := 15) B.1 B.2.1 B.2.2.2.2.1 in_X2 B.2.2.2.1 B.2.2.2.2.2.1 hP 0 rfl rfl 2 (by decide) (B.2.2.2.2.1 _ (mb_tb 113 (by decide +kernel) (by decide +kernel))) (fun _ h9 => h9) rfl dX2_init_90 ?_
    refine lv_iload_n B.1 B.2.1 dX2_init_93 rfl (lv_at hl 0 rfl) ?_
    refine ct_make (pn := 101) B (ct_X1 l D aC) (ct_cwN (host := "MarinaBerths") B B.2.2.2.2.2.2.2.1 (mb_tb 62 (by decide +kernel) (by decide +kernel)) (mb_tb 63 (by decide +kernel) (by decide +kernel)) (mb_tb 4 (by decide +kernel) (by decide +kernel)) rfl rfl rfl (by decide +kernel) ⟨Nat.le_of_ble_eq_true rfl, Nat.le_of_ble_eq_true rfl⟩) in_X1 tyX1 tyX1_ok (mb_tb 31 (by decide +kernel) (by decide +kernel)) (mb_tb 60 (by decide +kernel) (by decide +kernel)) (mb_tb 4 (by decide +kernel) (by decide +kernel)) rfl ct_d1
      hP hD hS hA hl.1 (Nat.le_of_ble_eq_true rfl) (by show cells + 1 + 0 ≤ 39; omega) (by show slots + 9 + 0 ≤ 294; omega) dX2_init_94 rfl dX2_init_97 rfl dX2_init_98 rfl (fun q _ H1 locs1 hP1 hD1 hS1 => ?_)
    obtain ⟨qk, hqk⟩ := List.getElem?_of_mem (List.mem_append_right (ct_wN aC h0 a0 a1 a2 (fun k => some (qs k)) g ((List.range 16).map (fun k => (qs k, ct_B0))) ((List.range n).map (fun k => (bs k, ct_B1)))) (List.mem_singleton.mpr (rfl : (q, ct_B1) = (q, ct_B1))))
    refine va_astq B.1 B.2.1 B.2.2.2.2.2.1 hP1 hD1 hS1 2 4 qk 1 rfl rfl hqk rfl (ct_vin n 20 (by omega) (by decide)) dX2_init_101 (fun H2 locs2 hP2 hD2 hS2 => ?_)
    refine lv_iinc (k := 0) (v := nI (n + 1)) B.1 B.2.1 dX2_init_102 hl rfl (ct_inc n) (by decide) rfl (fun ls2 hl2 => ?_)
    refine lv_goto (tgt := 83) B.1 B.2.1 dX2_init_105 (by decide) ?_
    have hl2 : lv_has ls2 2 [(1, .int (nI (n + 1))), (0, .ref h0)] := hl2
    have e1 : (ct_wN aC h0 a0 a1 a2 (fun k => some (qs k)) g ((List.range 16).map (fun k => (qs k, ct_B0))) ((List.range n).map (fun k => (bs k, ct_B1))) ++ [(q, ct_B1)]).set 2 (a1, .inl (aC 4, 20, ct_fv (va_up g (nI n).toNatClampNeg (some q)))) = ct_wN aC h0 a0 a1 a2 (fun k => some (qs k)) (va_up g (nI n).toNatClampNeg (some q)) ((List.range 16).map (fun k => (qs k, ct_B0))) ((List.range (n + 1)).map (fun k => (ct_up bs n q k, ct_B1))) := by
      rw [← ct_mapS]
      unfold ct_wN
      rw [← List.append_assoc]
      rfl
    rw [e1] at hP2 hD2
    refine ih (n + 1) (ct_up bs n q) _ H2 locs2 ls2 _ _ (by omega) (fun k hk => ?_) hP2 hD2 hS2 hl2 (by omega) (by omega)
    rw [ct_nI n (by omega)]
    unfold va_up ct_up
    by_cases hkn : k = n
    · rw [if_pos hkn, if_pos hkn]
    · rw [if_neg hkn, if_neg hkn]
      exact hg k (by omega)
/-- the berths, from the n-th on, then the boats -/
theorem ct_berths (B : ct_Cx p s m args c cX2_init 2 RX2 D (ct_ty aC)) (hR : R = { frames := 2, cells := 39, slots := 294, locals := 32 }) (hr : meth.sig.returnType = none) (hlocks : meth.locks = false) (hA : ∀ q : Nat, s.heap.size ≤ q → A q) :
    ∀ (f n : Nat) (qs : Nat → Nat) (g : Nat → Option Nat) (H : Heap) (locs : List Loc) (ls : Array Slot) (cells slots : Nat), f + n = 16 → (∀ k, k < n → g k = some (qs k)) →
      va_P D vwCl (ct_wN aC h0 a0 a1 a2 g (fun _ => none) ((List.range n).map (fun k => (qs k, ct_B0))) []) H → va_D A (ct_wN aC h0 a0 a1 a2 g (fun _ => none) ((List.range n).map (fun k => (qs k, ct_B0))) []) → va_S A s.heap H locs → lv_has ls 2 [(1, .int (nI n)), (0, .ref h0)] → cells ≤ 3 + n → slots ≤ 50 + 4 * n →
      W p l e R s m args below meth c H locs cells slots (MQ below (va_Qv (fun _ : ct_U2 => True) (fun u t => va_P D vwCl (ct_wM aC h0 u) t.heap ∧ va_D A (ct_wM aC h0 u)) A) args s 39 294 A) (F0 m 56 ls []) := by
  intro f
  induction f with
  | zero =>
    intro n qs g H locs ls cells slots hn hg hP hD hS hl hc hs
    obtain rfl : n = 16 := by omega
    refine lv_iload_n B.1 B.2.1 dX2_init_56 rfl (lv_at hl 0 rfl) ?_
    refine lv_bipush (v := 16) B.1 B.2.1 dX2_init_57 (by decide) ?_
    refine lv_icmp_ge (tgt := 81) B.1 B.2.1 dX2_init_59 (by decide) (fun _ => ?_) (fun h => absurd (show (16 : Int32) ≤ nI 16 by decide) h)
    refine lv_iconst (v := 0) B.1 B.2.1 dX2_init_81 (by decide) ?_
    refine lv_istore_n B.1 B.2.1 dX2_init_82 rfl hl (by decide) rfl (fun ls2 hl2 => ?_)
    have hl2 : lv_has ls2 2 [(1, .int (nI 0)), (0, .ref h0)] := hl2
    refine ct_boats (a0 := a0) (a1 := a1) (a2 := a2) B hR hr hlocks hA qs 20 0 (fun _ => 0) (fun _ => none) H locs ls2 cells slots rfl (fun k hk => absurd hk (Nat.not_lt_zero _)) ?_ ?_ hS hl2 (by omega) (by omega)
    · refine ct_Pset hP (fun k => ?_)
      rcases k with _ | _ | k
      · exact Or.inl rfl
      · exact Or.inr ⟨_, _, _, rfl, rfl, ct_arrq _ _ _ _ (fun k hk => (hg k hk).symm)⟩
      · exact Or.inl rfl
    · exact ct_Dset hD rfl
  | succ f ih =>
    intro n qs g H locs ls cells slots hn hg hP hD hS hl hc hs
    subst hR
    refine lv_iload_n B.1 B.2.1 dX2_init_56 rfl (lv_at hl 0 rfl) ?_
    refine lv_bipush (v := 16) B.1 B.2.1 dX2_init_57 (by decide) ?_
    refine lv_icmp_ge (tgt := 81) B.1 B.2.1 dX2_init_59 (by decide) (fun h => absurd h ?_) (fun _ => ?_)
    · exact ct_nge n 16 (by omega) (by decide)
    refine lv_aload_n B.1 B.2.1 dX2_init_62 rfl (lv_at hl 1 rfl) ?_
    refine va_get (D := D) (ci := 2) (C := RX2) (T := TX2) (N := 15) B.1 B.2.1 B.2.2.2.2.1 in_X2 B.2.2.2.1 B.2.2.2.2.2.1 hP 0 rfl rfl 0 (by decide) (B.2.2.2.2.1 _ (mb_tb 109 (by decide +kernel) (by decide +kernel))) (fun _ h9 => h9) rfl dX2_init_63 ?_
    refine lv_iload_n B.1 B.2.1 dX2_init_66 rfl (lv_at hl 0 rfl) ?_
    refine ct_make (pn := 74) B (ct_X0 l D aC) (ct_cwN (host := "MarinaBerths") B B.2.2.2.2.2.2.1 (mb_tb 35 (by decide +kernel) (by decide +kernel)) (mb_tb 36 (by decide +kernel) (by decide +kernel)) (mb_tb 3 (by decide +kernel) (by decide +kernel)) rfl rfl rfl (by decide +kernel) ⟨Nat.le_of_ble_eq_true rfl, Nat.le_of_ble_eq_true rfl⟩) in_X0 tyX0 tyX0_ok (mb_tb 29 (by decide +kernel) (by decide +kernel)) (mb_tb 33 (by decide +kernel) (by decide +kernel)) (mb_tb 3 (by decide +kernel) (by decide +kernel)) rfl ct_d0
      hP hD hS hA hl.1 (Nat.le_of_ble_eq_true rfl) (by show cells + 1 + 0 ≤ 39; omega) (by show slots + 4 + 0 ≤ 294; omega) dX2_init_67 rfl dX2_init_70 rfl dX2_init_71 rfl (fun q _ H1 locs1 hP1 hD1 hS1 => ?_)
    obtain ⟨qk, hqk⟩ := List.getElem?_of_mem (List.mem_append_right (ct_wN aC h0 a0 a1 a2 g (fun _ => none) ((List.range n).map (fun k => (qs k, ct_B0))) []) (List.mem_singleton.mpr (rfl : (q, ct_B0) = (q, ct_B0))))
    refine va_astq B.1 B.2.1 B.2.2.2.2.2.1 hP1 hD1 hS1 1 3 qk 0 rfl rfl hqk rfl (ct_vin n 16 (by omega) (by decide)) dX2_init_74 (fun H2 locs2 hP2 hD2 hS2 => ?_)
    refine lv_iinc (k := 0) (v := nI (n + 1)) B.1 B.2.1 dX2_init_75 hl rfl (ct_inc n) (by decide) rfl (fun ls2 hl2 => ?_)
    refine lv_goto (tgt := 56) B.1 B.2.1 dX2_init_78 (by decide) ?_
    have hl2 : lv_has ls2 2 [(1, .int (nI (n + 1))), (0, .ref h0)] := hl2
    have e1 : (ct_wN aC h0 a0 a1 a2 g (fun _ => none) ((List.range n).map (fun k => (qs k, ct_B0))) [] ++ [(q, ct_B0)]).set 1 (a0, .inl (aC 3, 16, ct_fv (va_up g (nI n).toNatClampNeg (some q)))) = ct_wN aC h0 a0 a1 a2 (va_up g (nI n).toNatClampNeg (some q)) (fun _ => none) ((List.range (n + 1)).map (fun k => (ct_up qs n q k, ct_B0))) [] := by
      rw [← ct_mapS]
      unfold ct_wN
      rw [List.append_nil, List.append_nil]
      rfl
    rw [e1] at hP2 hD2
    refine ih (n + 1) (ct_up qs n q) _ H2 locs2 ls2 _ _ (by omega) (fun k hk => ?_) hP2 hD2 hS2 hl2 (by omega) (by omega)
    rw [ct_nI n (by omega)]
    unfold va_up ct_up
    by_cases hkn : k = n
    · rw [if_pos hkn, if_pos hkn]
    · rw [if_neg hkn, if_neg hkn]
      exact hg k (by omega)
end CT2
theorem ct_X2 (l : Launch) (D : va_G) (aC : Nat → ClassId) : ct_Mt (S := ct_U2) l D (ct_ty aC) yX2_init cX2_init 2 { frames := 2, cells := 39, slots := 294, locals := 32 } 39 294 ct_D2 (ct_wM aC) := by
  refine ct_of (own := RX2) (idx := 3) (by decide) rfl rfl (mb_tb 28 (by decide +kernel) (by decide +kernel)) (by decide) dX2_init_0 dX2_init_1 (Nat.le_of_ble_eq_true rfl) (Nat.le_of_ble_eq_true rfl) ?_
  intro p e R s m args below meth c h0 ls A hR B hin hr hlocks hP hD hS hA hAe hl
  have hR0 := hR
  subst hR
  refine lv_aload_n B.1 B.2.1 dX2_init_4 rfl (lv_at hl 0 rfl) ?_
  refine lv_bipush (v := 16) B.1 B.2.1 dX2_init_5 (by decide) ?_
  refine ct_newq (C := RX0) (cA := aC 3) (N' := 16) (pn := 10) B (mb_tb 29 (by decide +kernel) (by decide +kernel)) B.2.2.2.2.2.2.2.2.2.2.1 3 rfl hP hD hS hA (by decide) (by decide) (by decide) (Nat.le_of_ble_eq_true rfl) (Nat.le_of_ble_eq_true rfl) dX2_init_7 rfl (fun a0 H hP hD hS => ?_)
  refine ct_put (pn := 13) B hin in_X2 tyX2 tyX2_ok nmX2 rfl 0 (by decide) (mb_tb 109 (by decide +kernel) (by decide +kernel)) rfl rfl rfl dX2_init_10 rfl hP hD hS 0 rfl (Nat.le_of_ble_eq_true rfl) (fun H locs hP hD hS => ?_)
  refine lv_aload_n B.1 B.2.1 dX2_init_13 rfl (lv_at hl 0 rfl) ?_
  refine lv_bipush (v := 20) B.1 B.2.1 dX2_init_14 (by decide) ?_
  refine ct_newq (C := RX1) (cA := aC 4) (N' := 20) (pn := 19) B (mb_tb 31 (by decide +kernel) (by decide +kernel)) B.2.2.2.2.2.2.2.2.2.2.2.1 4 rfl hP hD hS hA (by decide) (by decide) (by decide) (Nat.le_of_ble_eq_true rfl) (Nat.le_of_ble_eq_true rfl) dX2_init_16 rfl (fun a1 H hP hD hS => ?_)
  refine ct_put (pn := 22) B hin in_X2 tyX2 tyX2_ok nmX2 rfl 2 (by decide) (mb_tb 113 (by decide +kernel) (by decide +kernel)) rfl rfl rfl dX2_init_19 rfl hP hD hS 0 rfl (Nat.le_of_ble_eq_true rfl) (fun H locs hP hD hS => ?_)
  refine lv_aload_n B.1 B.2.1 dX2_init_22 rfl (lv_at hl 0 rfl) ?_
  refine lv_bipush (v := 14) B.1 B.2.1 dX2_init_23 (by decide) ?_
  refine ct_newa (ty := .int) (cA := aC 0) (N' := 14) (a0 := (14, .inl (fun _ => 0))) B (mb_tb 59 (by decide +kernel) (by decide +kernel)) rfl 0 rfl hP hD hS hA (fun _ => rfl) (by decide) (by decide) (by decide) (Nat.le_of_ble_eq_true rfl) (Nat.le_of_ble_eq_true rfl) dX2_init_25 rfl (fun a2 H hP hD hS => ?_)
  refine ct_put (pn := 30) B hin in_X2 tyX2 tyX2_ok nmX2 rfl 4 (by decide) (mb_tb 117 (by decide +kernel) (by decide +kernel)) rfl rfl rfl dX2_init_27 rfl hP hD hS 0 rfl (Nat.le_of_ble_eq_true rfl) (fun H locs hP hD hS => ?_)
  refine lv_aload_n B.1 B.2.1 dX2_init_30 rfl (lv_at hl 0 rfl) ?_
  refine lv_iconst (v := 1) B.1 B.2.1 dX2_init_31 (by decide) ?_
  refine ct_put (pn := 35) B hin in_X2 tyX2 tyX2_ok nmX2 rfl 5 (by decide) (mb_tb 118 (by decide +kernel) (by decide +kernel)) rfl rfl rfl dX2_init_32 rfl hP hD hS 0 rfl (Nat.le_of_ble_eq_true rfl) (fun H locs hP hD hS => ?_)
  refine lv_aload_n B.1 B.2.1 dX2_init_35 rfl (lv_at hl 0 rfl) ?_
  refine lv_bipush (v := 30) B.1 B.2.1 dX2_init_36 (by decide) ?_
  refine ct_put (pn := 41) B hin in_X2 tyX2 tyX2_ok nmX2 rfl 7 (by decide) (mb_tb 122 (by decide +kernel) (by decide +kernel)) rfl rfl rfl dX2_init_38 rfl hP hD hS 0 rfl (Nat.le_of_ble_eq_true rfl) (fun H locs hP hD hS => ?_)
  refine lv_aload_n B.1 B.2.1 dX2_init_41 rfl (lv_at hl 0 rfl) ?_
  refine lv_sipush (v := 270) B.1 B.2.1 dX2_init_42 (by decide) ?_
  refine ct_put (pn := 48) B hin in_X2 tyX2 tyX2_ok nmX2 rfl 9 (by decide) (mb_tb 126 (by decide +kernel) (by decide +kernel)) rfl rfl rfl dX2_init_45 rfl hP hD hS 0 rfl (Nat.le_of_ble_eq_true rfl) (fun H locs hP hD hS => ?_)
  refine lv_aload_n B.1 B.2.1 dX2_init_48 rfl (lv_at hl 0 rfl) ?_
  refine lv_bipush (v := 90) B.1 B.2.1 dX2_init_49 (by decide) ?_
  refine ct_put (pn := 54) B hin in_X2 tyX2 tyX2_ok nmX2 rfl 10 (by decide) (mb_tb 128 (by decide +kernel) (by decide +kernel)) rfl rfl rfl dX2_init_51 rfl hP hD hS 0 rfl (Nat.le_of_ble_eq_true rfl) (fun H locs hP hD hS => ?_)
  refine lv_iconst (v := 0) B.1 B.2.1 dX2_init_54 (by decide) ?_
  refine lv_istore_n B.1 B.2.1 dX2_init_55 rfl hl (by decide) rfl (fun ls2 hl2 => ?_)
  have hl2 : lv_has ls2 2 [(1, .int (nI 0)), (0, .ref h0)] := hl2
  exact ct_berths (a0 := a0) (a1 := a1) (a2 := a2) B rfl hr hlocks hA 16 0 (fun _ => 0) (fun _ => none) H locs ls2 _ _ rfl (fun k hk => absurd hk (Nat.not_lt_zero _)) hP hD hS hl2 (Nat.le_of_ble_eq_true rfl) (Nat.le_of_ble_eq_true rfl)
