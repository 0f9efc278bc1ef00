/-! ===== constructors: Berth, Boat, TableText, WinterPlan ===== -/
abbrev ct_B0 : va_E := .inr (0, [.int 0, .int 0, .int 0, .int 0])
abbrev ct_B1 : va_E := .inr (1, [.int 0, .int 0, .int 0, .int 0, .int 0, .int 0, .int 0, .int 0, .int 0])
abbrev ct_ty (aC : Nat → ClassId) : List (ClassId × FieldType) := [(aC 0, .int), (aC 1, .char), (aC 2, .long), (aC 3, .object RX0), (aC 4, .object RX1), (aC 5, .object RX2)]
abbrev ct_r1 : Room := { frames := 1, cells := 0, slots := 0, locals := 12 }
theorem ct_X0 (l : Launch) (D : va_G) (aC : Nat → ClassId) : ct_Mt (S := Unit) l D (ct_ty aC) yX0_init cX0_init 1 ct_r1 0 0 ct_B0 (fun h0 _ => [(h0, ct_B0)]) := by
  refine ct_of (own := RX0) (idx := 1) (by decide) rfl rfl (mb_tb 37 (by decide +kernel) (by decide +kernel)) (Nat.le_refl _) dX0_init_0 dX0_init_1 (Nat.le_refl _) (Nat.le_refl _) ?_
  intro p e R s m args below meth c h0 ls A hR B hin hr hlocks hP hD hS hA hAe hl
  exact ct_ret () B hr hlocks hP hD hS dX0_init_4 (Nat.le_refl _) (Nat.le_refl _)
theorem ct_X1 (l : Launch) (D : va_G) (aC : Nat → ClassId) : ct_Mt (S := Unit) l D (ct_ty aC) yX1_init cX1_init 1 ct_r1 0 0 ct_B1 (fun h0 _ => [(h0, ct_B1)]) := by
  refine ct_of (own := RX1) (idx := 3) (by decide) rfl rfl (mb_tb 64 (by decide +kernel) (by decide +kernel)) (Nat.le_refl _) dX1_init_0 dX1_init_1 (Nat.le_refl _) (Nat.le_refl _) ?_
  intro p e R s m args below meth c h0 ls A hR B hin hr hlocks hP hD hS hA hAe hl
  exact ct_ret () B hr hlocks hP hD hS dX1_init_4 (Nat.le_refl _) (Nat.le_refl _)
abbrev ct_wT (aC : Nat → ClassId) (h0 : Nat) (u : Nat × Nat) : va_W := [(h0, .inr (3, [.ref u.1, .int 0, .ref u.2, .int 0])), (u.1, .inl (aC 1, (70, .inl (fun _ => 0)))), (u.2, .inl (aC 0, (14, .inl (fun _ => 0))))]
theorem ct_X3 (l : Launch) (D : va_G) (aC : Nat → ClassId) : ct_Mt (S := Nat × Nat) l D (ct_ty aC) yX3_init cX3_init 1 { frames := 1, cells := 2, slots := 84, locals := 12 } 2 84 (.inr (3, [.null, .int 0, .null, .int 0])) (ct_wT aC) := by
  refine ct_of (own := RX3) (idx := 3) (by decide) rfl rfl (mb_tb 193 (by decide +kernel) (by decide +kernel)) (Nat.le_refl _) dX3_init_0 dX3_init_1 (Nat.le_refl _) (Nat.le_refl _) ?_
  intro p e R s m args below meth c h0 ls A hR B hin hr hlocks hP hD hS hA hAe hl
  subst hR
  refine lv_aload_n B.1 B.2.1 dX3_init_4 rfl (lv_at hl 0 rfl) ?_
  refine lv_bipush (v := 70) B.1 B.2.1 dX3_init_5 (by decide) ?_
  refine ct_newa (ty := .char) (cA := aC 1) (N' := 70) (a0 := (70, .inl (fun _ => 0))) B (mb_tb 210 (by decide +kernel) (by decide +kernel)) rfl 1 rfl hP hD hS hA (fun _ => rfl) (by decide) (by decide) (by decide) (Nat.le_of_ble_eq_true rfl) (Nat.le_of_ble_eq_true rfl) dX3_init_7 rfl (fun a0 H hP hD hS => ?_)
  refine ct_put (pn := 12) B hin in_X3 tyX3 tyX3_ok nmX3 rfl 0 (by decide) (mb_tb 194 (by decide +kernel) (by decide +kernel)) rfl rfl rfl dX3_init_9 rfl hP hD hS 0 rfl (Nat.le_of_ble_eq_true rfl) (fun H locs hP hD hS => ?_)
  refine lv_aload_n B.1 B.2.1 dX3_init_12 rfl (lv_at hl 0 rfl) ?_
  refine lv_bipush (v := 14) B.1 B.2.1 dX3_init_13 (by decide) ?_
  refine ct_newa (ty := .int) (cA := aC 0) (N' := 14) (a0 := (14, .inl (fun _ => 0))) B (mb_tb 59 (by decide +kernel) (by decide +kernel)) rfl 0 rfl hP hD hS hA (fun _ => rfl) (by decide) (by decide) (by decide) (Nat.le_of_ble_eq_true rfl) (Nat.le_of_ble_eq_true rfl) dX3_init_15 rfl (fun a1 H hP hD hS => ?_)
  refine ct_put (pn := 20) B hin in_X3 tyX3 tyX3_ok nmX3 rfl 2 (by decide) (mb_tb 197 (by decide +kernel) (by decide +kernel)) rfl rfl rfl dX3_init_17 rfl hP hD hS 0 rfl (Nat.le_of_ble_eq_true rfl) (fun H locs hP hD hS => ?_)
  exact ct_ret (Wf := ct_wT aC h0) (a0, a1) B hr hlocks hP hD hS dX3_init_20 (Nat.le_of_ble_eq_true rfl) (Nat.le_of_ble_eq_true rfl)
abbrev ct_wP (aC : Nat → ClassId) (h0 : Nat) (u : Nat × Nat) : va_W := [(h0, .inr (4, [.ref u.1, .ref u.2, .int 0, .int 0])), (u.1, .inl (aC 0, (20, .inl (fun _ => 0)))), (u.2, .inl (aC 0, (16, .inl (fun _ => 0))))]
theorem ct_X4 (l : Launch) (D : va_G) (aC : Nat → ClassId) : ct_Mt (S := Nat × Nat) l D (ct_ty aC) yX4_init cX4_init 1 { frames := 1, cells := 2, slots := 36, locals := 12 } 2 36 (.inr (4, [.null, .null, .int 0, .int 0])) (ct_wP aC) := by
  refine ct_of (own := RX4) (idx := 3) (by decide) rfl rfl (mb_tb 174 (by decide +kernel) (by decide +kernel)) (Nat.le_refl _) dX4_init_0 dX4_init_1 (Nat.le_refl _) (Nat.le_refl _) ?_
  intro p e R s m args below meth c h0 ls A hR B hin hr hlocks hP hD hS hA hAe hl
  subst hR
  refine lv_aload_n B.1 B.2.1 dX4_init_4 rfl (lv_at hl 0 rfl) ?_
  refine lv_bipush (v := 20) B.1 B.2.1 dX4_init_5 (by decide) ?_
  refine ct_newa (ty := .int) (cA := aC 0) (N' := 20) (a0 := (20, .inl (fun _ => 0))) B (mb_tb 59 (by decide +kernel) (by decide +kernel)) rfl 0 rfl hP hD hS hA (fun _ => rfl) (by decide) (by decide) (by decide) (Nat.le_of_ble_eq_true rfl) (Nat.le_of_ble_eq_true rfl) dX4_init_7 rfl (fun a0 H hP hD hS => ?_)
  refine ct_put (pn := 12) B hin in_X4 tyX4 tyX4_ok nmX4 rfl 0 (by decide) (mb_tb 175 (by decide +kernel) (by decide +kernel)) rfl rfl rfl dX4_init_9 rfl hP hD hS 0 rfl (Nat.le_of_ble_eq_true rfl) (fun H locs hP hD hS => ?_)
  refine lv_aload_n B.1 B.2.1 dX4_init_12 rfl (lv_at hl 0 rfl) ?_
  refine lv_bipush (v := 16) B.1 B.2.1 dX4_init_13 (by decide) ?_
  refine ct_newa (ty := .int) (cA := aC 0) (N' := 16) (a0 := (16, .inl (fun _ => 0))) B (mb_tb 59 (by decide +kernel) (by decide +kernel)) rfl 0 rfl hP hD hS hA (fun _ => rfl) (by decide) (by decide) (by decide) (Nat.le_of_ble_eq_true rfl) (Nat.le_of_ble_eq_true rfl) dX4_init_15 rfl (fun a1 H hP hD hS => ?_)
  refine ct_put (pn := 20) B hin in_X4 tyX4 tyX4_ok nmX4 rfl 1 (by decide) (mb_tb 176 (by decide +kernel) (by decide +kernel)) rfl rfl rfl dX4_init_17 rfl hP hD hS 0 rfl (Nat.le_of_ble_eq_true rfl) (fun H locs hP hD hS => ?_)
  exact ct_ret (Wf := ct_wP aC h0) (a0, a1) B hr hlocks hP hD hS dX4_init_20 (Nat.le_of_ble_eq_true rfl) (Nat.le_of_ble_eq_true rfl)
