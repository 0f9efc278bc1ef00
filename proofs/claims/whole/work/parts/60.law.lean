/-! ===== the law's start ===== -/
theorem cl_start {p : Program} {e : Env} {s : State} {m : MethodId} {below : List Frame} {meth : Method} {c : Code} {l : Launch} (hst : l.stackTraces = false) {b L : Nat} {xs : Nat → Int32} (hL : L ≤ 2560) (C0 : lw_At p s m meth c b L xs) {D : va_G} {aC : Nat → ClassId} (hK : va_K D vwCl (ct_ty aC) s) {ls : Array Slot} (hl : lv_has ls 7 [(0, .ref b)]) :
    W p l e room_1 s m #[Value.ref b] below meth c s.heap [] 0 0 (lw_Z below #[Value.ref b] s) (F0 m 0 ls []) := by
  obtain ⟨hx, hb, hr, hml, hown, hts, hX, hbl, hlocks, hg⟩ := C0
  have hG := cs_GW hts
  have B : ct_Cx p s m #[Value.ref b] c cL_law 7 RL D (ct_ty aC) := ⟨hx, hb, hml, hown, hG, hK, cs_FW hts⟩
  have hP : va_P D vwCl [] s.heap := fun k q h => by simp at h
  have hD : va_D (mb_A9 s) [] := ⟨fun i j p q h => by simp at h, fun k q h => by simp at h⟩
  have hS : va_S (mb_A9 s) s.heap s.heap [] := va_S.rf
  have hA : ∀ q : Nat, s.heap.size ≤ q → mb_A9 s q := fun _ h => h
  refine ct_make (pn := 7) B (ct_X5 l D aC) (ct_cwI B (mb_tb 17 (by decide +kernel) (by decide +kernel)) (mb_tb 18 (by decide +kernel) (by decide +kernel)) (mb_tb 19 (by decide +kernel) (by decide +kernel)) (mb_tb 1 (by decide +kernel) (by decide +kernel)) rfl rfl rfl (by decide +kernel) ⟨Nat.le_of_ble_eq_true rfl, Nat.le_of_ble_eq_true rfl⟩) in_X5 tyX5 tyX5_ok (mb_tb 15 (by decide +kernel) (by decide +kernel)) (mb_tb 16 (by decide +kernel) (by decide +kernel)) (mb_tb 1 (by decide +kernel) (by decide +kernel)) rfl ct_d5
    hP hD hS hA hl.1 (Nat.le_of_ble_eq_true rfl) (Nat.le_of_ble_eq_true rfl) (Nat.le_of_ble_eq_true rfl) dL_law_0 rfl dL_law_3 rfl dL_law_4 rfl (fun m5 u H locs hP hD hS => ?_)
  refine lv_astore_n hx hb dL_law_7 rfl hl (by decide) rfl (fun ls1 hl1 => ?_)
  have hl1 : lv_has ls1 7 [(1, .ref m5), (0, .ref b)] := hl1
  refine ct_make (pn := 15) B (ct_X6 l D aC) (ct_cwI B (mb_tb 839 (by decide +kernel) (by decide +kernel)) (mb_tb 840 (by decide +kernel) (by decide +kernel)) (mb_tb 841 (by decide +kernel) (by decide +kernel)) (mb_tb 7 (by decide +kernel) (by decide +kernel)) rfl rfl rfl (by decide +kernel) ⟨Nat.le_of_ble_eq_true rfl, Nat.le_of_ble_eq_true rfl⟩) in_X6 tyX6 tyX6_ok (mb_tb 837 (by decide +kernel) (by decide +kernel)) (mb_tb 838 (by decide +kernel) (by decide +kernel)) (mb_tb 7 (by decide +kernel) (by decide +kernel)) rfl ct_d6
    hP hD hS hA hl1.1 (Nat.le_of_ble_eq_true rfl) (Nat.le_of_ble_eq_true rfl) (Nat.le_of_ble_eq_true rfl) dL_law_8 rfl dL_law_11 rfl dL_law_12 rfl (fun m6 v H locs hP hD hS => ?_)
  refine lv_astore_n hx hb dL_law_15 rfl hl1 (by decide) rfl (fun ls2 hl2 => ?_)
  have hl2 : lv_has ls2 7 [(2, .ref m6), (1, .ref m5), (0, .ref b)] := hl2
  refine lv_iconst (v := 1) hx hb dL_law_16 (by decide) ?_
  refine ct_newa (ty := .long) (cA := aC 2) (N' := 1) (a0 := (1, .inr (.inl (fun _ => 0)))) B (mb_tb 1225 (by decide +kernel) (by decide +kernel)) rfl 2 rfl hP hD hS hA (fun _ => rfl) (by decide) (by decide) (by decide) (Nat.le_of_ble_eq_true rfl) (Nat.le_of_ble_eq_true rfl) dL_law_17 rfl (fun out H hP hD hS => ?_)
  refine lv_astore_n hx hb dL_law_19 rfl hl2 (by decide) rfl (fun ls3 hl3 => ?_)
  have hl3 : lv_has ls3 7 [(3, .ref out), (2, .ref m6), (1, .ref m5), (0, .ref b)] := hl3
  refine lv_iconst (v := 0) hx hb dL_law_20 (by decide) ?_
  refine lv_istore hx hb dL_law_21 hl3 (by decide) rfl (fun ls4 hl4 => ?_)
  have hl4 : lv_has ls4 7 [(4, .int (nI (5 * 0))), (3, .ref out), (2, .ref m6), (1, .ref m5), (0, .ref b)] := hl4
  have hP : va_P D vwCl ((ct_w5 aC m5 u ++ ct_w6 aC m6 v) ++ [(out, .inl (aC 2, (1, .inr (.inl (fun _ => 0)))))]) H := hP
  have hD : va_D (mb_A9 s) ((ct_w5 aC m5 u ++ ct_w6 aC m6 v) ++ [(out, .inl (aC 2, (1, .inr (.inl (fun _ => 0)))))]) := hD
  have hAA := cw_A (D := D) hD
  have hXW : mb_XW (mb_A (cw_G D aC m5 u m6 v out)) s := cs_XW hts hg (fun a ha h => Nat.not_lt.mpr (hAA a h) ha)
  have BL : mb_Lx p l s m #[Value.ref b] c (cw_G D aC m5 u m6 v out) RL code 7 (mb_A9 s) := ⟨hx, hb, hml, hown, hG, hK, hXW, cw_gok hD, hAA, fun q hq h => absurd hq (Nat.not_lt.mpr h), cs_NC hg⟩
  exact law_loop mb_step hst hL BL hr hlocks hX hbl 513 0 cw_h0 H locs ls4 _ _ (by omega) (by omega) cw_S hS (cw_wd hP) hl4 (Nat.le_of_ble_eq_true rfl) (Nat.le_of_ble_eq_true rfl)
theorem whole_start {p : Program} {e : Env} {s : State} {m : MethodId} {below : List Frame} {meth : Method} {c : Code} (l : Launch) (hflags : l.flags = flags0) {b L : Nat} {xs : Nat → Int32} (hL : L ≤ 2560) (C0 : lw_At p s m meth c b L xs) : W p l e room_1 s m #[Value.ref b] below meth c s.heap [] 0 0 (lw_Z below #[Value.ref b] s) (entryFrame m ([Value.ref b] : List Value).toArray 7) := by
  have hst : l.stackTraces = false := by
    unfold Launch.stackTraces
    rw [hflags]
    decide
  obtain ⟨D, aC, hK⟩ := cs_K C0.2.2.2.2.2.1
  have hl := lv_entry ([.ref b]) (n := 7) (Nat.le_of_ble_eq_true rfl)
  rw [lg_entry_eq]
  generalize (lg_sl ([.ref b]) ++ List.replicate (7 - (lg_sl ([.ref b])).length) Slot.unset).toArray = ls at hl ⊢
  have hl : lv_has ls 7 [(0, .ref b)] := hl
  exact cl_start hst hL C0 hK hl
