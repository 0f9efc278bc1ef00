/-! ===== constructors: MarinaBerthsModel ===== -/
def ct_row : Nat → Int32 := upd (upd (upd (upd (fun _ => 0) 0 30) 2 270) 3 90) 8 1
abbrev ct_D6 : va_E := .inr (6, [.null, .null, .null, .int 0, .int 0, .null, .int 0, .null, .null, .null, .int 0, .int 0, .int 0, .int 0, .null, .long 0])
def ct_w6n (aC : Nat → ClassId) (h0 : Nat) (u : Nat → Nat) (f : Nat → Int32) : va_W := [(h0, .inr (6, [.ref (u 0), .ref (u 1), .ref (u 2), .int 0, .int 0, .ref (u 3), .int 0, .ref (u 4), .ref (u 5), .ref (u 6), .int 0, .int 0, .int 0, .int 0, .ref (u 7), .long 0])),
  (u 0, .inl (aC 0, (270, .inl f))), (u 1, .inl (aC 0, (1080, .inl (fun _ => 0)))), (u 2, .inl (aC 0, (270, .inl (fun _ => 0)))), (u 3, .inl (aC 0, (70, .inl (fun _ => 0)))), (u 4, .inl (aC 0, (20, .inl (fun _ => 0)))), (u 5, .inl (aC 0, (16, .inl (fun _ => 0)))), (u 6, .inl (aC 0, (65536, .inl (fun _ => 0)))), (u 7, .inl (aC 0, (14, .inl (fun _ => 0))))]
def ct_w6 (aC : Nat → ClassId) (h0 : Nat) (u : Nat → Nat) : va_W := ct_w6n aC h0 u ct_row
abbrev ct_r6 : Room := { frames := 1, cells := 8, slots := 67276, locals := 12 }
theorem ct_X6 (l : Launch) (D : va_G) (aC : Nat → ClassId) : ct_Mt (S := Nat → Nat) l D (ct_ty aC) yX6_init cX6_init 1 ct_r6 8 67276 ct_D6 (ct_w6 aC) := by
  refine ct_of (own := RX6) (idx := 1) (by decide) rfl rfl (mb_tb 842 (by decide +kernel) (by decide +kernel)) (by decide) dX6_init_0 dX6_init_1 (Nat.le_of_ble_eq_true rfl) (Nat.le_of_ble_eq_true rfl) ?_
  intro p e R s m args below meth c h0 ls A hR B hin hr hlocks hP hD hS hA hAe hl
  subst hR
  refine lv_aload_n B.1 B.2.1 dX6_init_4 rfl (lv_at hl 0 rfl) ?_
  refine lv_sipush (v := 270) B.1 B.2.1 dX6_init_5 (by decide) ?_
  refine ct_newa (ty := .int) (cA := aC 0) (N' := 270) (a0 := (270, .inl (fun _ => 0))) B (mb_tb 59 (by decide +kernel) (by decide +kernel)) rfl 0 rfl hP hD hS hA (fun _ => rfl) (by decide) (by decide) (by decide) (Nat.le_of_ble_eq_true rfl) (Nat.le_of_ble_eq_true rfl) dX6_init_8 rfl (fun a0 H hP hD hS => ?_)
  refine ct_put (pn := 13) B hin in_X6 tyX6 tyX6_ok nmX6 rfl 0 (by decide) (mb_tb 844 (by decide +kernel) (by decide +kernel)) rfl rfl rfl dX6_init_10 rfl hP hD hS 0 rfl (Nat.le_of_ble_eq_true rfl) (fun H locs hP hD hS => ?_)
  refine lv_aload_n B.1 B.2.1 dX6_init_13 rfl (lv_at hl 0 rfl) ?_
  refine lv_sipush (v := 1080) B.1 B.2.1 dX6_init_14 (by decide) ?_
  refine ct_newa (ty := .int) (cA := aC 0) (N' := 1080) (a0 := (1080, .inl (fun _ => 0))) B (mb_tb 59 (by decide +kernel) (by decide +kernel)) rfl 0 rfl hP hD hS hA (fun _ => rfl) (by decide) (by decide) (by decide) (Nat.le_of_ble_eq_true rfl) (Nat.le_of_ble_eq_true rfl) dX6_init_17 rfl (fun a1 H hP hD hS => ?_)
  refine ct_put (pn := 22) B hin in_X6 tyX6 tyX6_ok nmX6 rfl 1 (by decide) (mb_tb 845 (by decide +kernel) (by decide +kernel)) rfl rfl rfl dX6_init_19 rfl hP hD hS 0 rfl (Nat.le_of_ble_eq_true rfl) (fun H locs hP hD hS => ?_)
  refine lv_aload_n B.1 B.2.1 dX6_init_22 rfl (lv_at hl 0 rfl) ?_
  refine lv_sipush (v := 270) B.1 B.2.1 dX6_init_23 (by decide) ?_
  refine ct_newa (ty := .int) (cA := aC 0) (N' := 270) (a0 := (270, .inl (fun _ => 0))) B (mb_tb 59 (by decide +kernel) (by decide +kernel)) rfl 0 rfl hP hD hS hA (fun _ => rfl) (by decide) (by decide) (by decide) (Nat.le_of_ble_eq_true rfl) (Nat.le_of_ble_eq_true rfl) dX6_init_26 rfl (fun a2 H hP hD hS => ?_)
  refine ct_put (pn := 31) B hin in_X6 tyX6 tyX6_ok nmX6 rfl 2 (by decide) (mb_tb 846 (by decide +kernel) (by decide +kernel)) rfl rfl rfl dX6_init_28 rfl hP hD hS 0 rfl (Nat.le_of_ble_eq_true rfl) (fun H locs hP hD hS => ?_)
  refine lv_aload_n B.1 B.2.1 dX6_init_31 rfl (lv_at hl 0 rfl) ?_
  refine lv_bipush (v := 70) B.1 B.2.1 dX6_init_32 (by decide) ?_
  refine ct_newa (ty := .int) (cA := aC 0) (N' := 70) (a0 := (70, .inl (fun _ => 0))) B (mb_tb 59 (by decide +kernel) (by decide +kernel)) rfl 0 rfl hP hD hS hA (fun _ => rfl) (by decide) (by decide) (by decide) (Nat.le_of_ble_eq_true rfl) (Nat.le_of_ble_eq_true rfl) dX6_init_34 rfl (fun a3 H hP hD hS => ?_)
  refine ct_put (pn := 39) B hin in_X6 tyX6 tyX6_ok nmX6 rfl 5 (by decide) (mb_tb 849 (by decide +kernel) (by decide +kernel)) rfl rfl rfl dX6_init_36 rfl hP hD hS 0 rfl (Nat.le_of_ble_eq_true rfl) (fun H locs hP hD hS => ?_)
  refine lv_aload_n B.1 B.2.1 dX6_init_39 rfl (lv_at hl 0 rfl) ?_
  refine lv_bipush (v := 20) B.1 B.2.1 dX6_init_40 (by decide) ?_
  refine ct_newa (ty := .int) (cA := aC 0) (N' := 20) (a0 := (20, .inl (fun _ => 0))) B (mb_tb 59 (by decide +kernel) (by decide +kernel)) rfl 0 rfl hP hD hS hA (fun _ => rfl) (by decide) (by decide) (by decide) (Nat.le_of_ble_eq_true rfl) (Nat.le_of_ble_eq_true rfl) dX6_init_42 rfl (fun a4 H hP hD hS => ?_)
  refine ct_put (pn := 47) B hin in_X6 tyX6 tyX6_ok nmX6 rfl 7 (by decide) (mb_tb 851 (by decide +kernel) (by decide +kernel)) rfl rfl rfl dX6_init_44 rfl hP hD hS 0 rfl (Nat.le_of_ble_eq_true rfl) (fun H locs hP hD hS => ?_)
  refine lv_aload_n B.1 B.2.1 dX6_init_47 rfl (lv_at hl 0 rfl) ?_
  refine lv_bipush (v := 16) B.1 B.2.1 dX6_init_48 (by decide) ?_
  refine ct_newa (ty := .int) (cA := aC 0) (N' := 16) (a0 := (16, .inl (fun _ => 0))) B (mb_tb 59 (by decide +kernel) (by decide +kernel)) rfl 0 rfl hP hD hS hA (fun _ => rfl) (by decide) (by decide) (by decide) (Nat.le_of_ble_eq_true rfl) (Nat.le_of_ble_eq_true rfl) dX6_init_50 rfl (fun a5 H hP hD hS => ?_)
  refine ct_put (pn := 55) B hin in_X6 tyX6 tyX6_ok nmX6 rfl 8 (by decide) (mb_tb 852 (by decide +kernel) (by decide +kernel)) rfl rfl rfl dX6_init_52 rfl hP hD hS 0 rfl (Nat.le_of_ble_eq_true rfl) (fun H locs hP hD hS => ?_)
  refine lv_aload_n B.1 B.2.1 dX6_init_55 rfl (lv_at hl 0 rfl) ?_
  refine lv_ldc (v := 65536) B.1 B.2.1 B.2.2.2.1 (B.2.2.2.2.1 _ (mb_tb 843 (by decide +kernel) (by decide +kernel))) dX6_init_56 ?_
  refine ct_newa (ty := .int) (cA := aC 0) (N' := 65536) (a0 := (65536, .inl (fun _ => 0))) B (mb_tb 59 (by decide +kernel) (by decide +kernel)) rfl 0 rfl hP hD hS hA (fun _ => rfl) (by decide) (by decide) (by decide) (Nat.le_of_ble_eq_true rfl) (Nat.le_of_ble_eq_true rfl) dX6_init_58 rfl (fun a6 H hP hD hS => ?_)
  refine ct_put (pn := 63) B hin in_X6 tyX6 tyX6_ok nmX6 rfl 9 (by decide) (mb_tb 853 (by decide +kernel) (by decide +kernel)) rfl rfl rfl dX6_init_60 rfl hP hD hS 0 rfl (Nat.le_of_ble_eq_true rfl) (fun H locs hP hD hS => ?_)
  refine lv_aload_n B.1 B.2.1 dX6_init_63 rfl (lv_at hl 0 rfl) ?_
  refine lv_bipush (v := 14) B.1 B.2.1 dX6_init_64 (by decide) ?_
  refine ct_newa (ty := .int) (cA := aC 0) (N' := 14) (a0 := (14, .inl (fun _ => 0))) B (mb_tb 59 (by decide +kernel) (by decide +kernel)) rfl 0 rfl hP hD hS hA (fun _ => rfl) (by decide) (by decide) (by decide) (Nat.le_of_ble_eq_true rfl) (Nat.le_of_ble_eq_true rfl) dX6_init_66 rfl (fun a7 H hP hD hS => ?_)
  refine ct_put (pn := 71) B hin in_X6 tyX6 tyX6_ok nmX6 rfl 14 (by decide) (mb_tb 858 (by decide +kernel) (by decide +kernel)) rfl rfl rfl dX6_init_68 rfl hP hD hS 0 rfl (Nat.le_of_ble_eq_true rfl) (fun H locs hP hD hS => ?_)
  have hP : va_P D vwCl (ct_w6n aC h0 (fun k => ([a0, a1, a2, a3, a4, a5, a6, a7] : List Nat).getD k 0) (fun _ => 0)) H := hP
  have hD : va_D A (ct_w6n aC h0 (fun k => ([a0, a1, a2, a3, a4, a5, a6, a7] : List Nat).getD k 0) (fun _ => 0)) := hD
  have e0 : (0 : Int32).toNatClampNeg = 0 := by decide
  have e2 : (2 : Int32).toNatClampNeg = 2 := by decide
  have e3 : (3 : Int32).toNatClampNeg = 3 := by decide
  have e8 : (8 : Int32).toNatClampNeg = 8 := by decide
  refine lv_aload_n B.1 B.2.1 dX6_init_71 rfl (lv_at hl 0 rfl) ?_
  refine va_get (D := D) (ci := 6) (C := RX6) (T := TX6) (N := 16) B.1 B.2.1 B.2.2.2.2.1 in_X6 B.2.2.2.1 B.2.2.2.2.2.1 hP 0 rfl rfl 0 (by decide) (B.2.2.2.2.1 _ (mb_tb 844 (by decide +kernel) (by decide +kernel))) (fun _ h9 => h9) rfl dX6_init_72 ?_
  refine lv_iconst (v := 0) B.1 B.2.1 dX6_init_75 (by decide) ?_
  refine lv_bipush (v := 30) B.1 B.2.1 dX6_init_76 (by decide) ?_
  refine va_iast B.1 B.2.1 B.2.2.2.2.2.1 hP hD hS 1 0 rfl rfl (by unfold vp_in; decide) dX6_init_78 (fun H locs hP hD hS => ?_)
  rw [e0] at hP hD
  have hP : va_P D vwCl (ct_w6n aC h0 (fun k => ([a0, a1, a2, a3, a4, a5, a6, a7] : List Nat).getD k 0) (upd (fun _ => 0) 0 30)) H := hP
  have hD : va_D A (ct_w6n aC h0 (fun k => ([a0, a1, a2, a3, a4, a5, a6, a7] : List Nat).getD k 0) (upd (fun _ => 0) 0 30)) := hD
  refine lv_aload_n B.1 B.2.1 dX6_init_79 rfl (lv_at hl 0 rfl) ?_
  refine va_get (D := D) (ci := 6) (C := RX6) (T := TX6) (N := 16) B.1 B.2.1 B.2.2.2.2.1 in_X6 B.2.2.2.1 B.2.2.2.2.2.1 hP 0 rfl rfl 0 (by decide) (B.2.2.2.2.1 _ (mb_tb 844 (by decide +kernel) (by decide +kernel))) (fun _ h9 => h9) rfl dX6_init_80 ?_
  refine lv_iconst (v := 2) B.1 B.2.1 dX6_init_83 (by decide) ?_
  refine lv_sipush (v := 270) B.1 B.2.1 dX6_init_84 (by decide) ?_
  refine va_iast B.1 B.2.1 B.2.2.2.2.2.1 hP hD hS 1 0 rfl rfl (by unfold vp_in; decide) dX6_init_87 (fun H locs hP hD hS => ?_)
  rw [e2] at hP hD
  have hP : va_P D vwCl (ct_w6n aC h0 (fun k => ([a0, a1, a2, a3, a4, a5, a6, a7] : List Nat).getD k 0) (upd (upd (fun _ => 0) 0 30) 2 270)) H := hP
  have hD : va_D A (ct_w6n aC h0 (fun k => ([a0, a1, a2, a3, a4, a5, a6, a7] : List Nat).getD k 0) (upd (upd (fun _ => 0) 0 30) 2 270)) := hD
  refine lv_aload_n B.1 B.2.1 dX6_init_88 rfl (lv_at hl 0 rfl) ?_
  refine va_get (D := D) (ci := 6) (C := RX6) (T := TX6) (N := 16) B.1 B.2.1 B.2.2.2.2.1 in_X6 B.2.2.2.1 B.2.2.2.2.2.1 hP 0 rfl rfl 0 (by decide) (B.2.2.2.2.1 _ (mb_tb 844 (by decide +kernel) (by decide +kernel))) (fun _ h9 => h9) rfl dX6_init_89 ?_
  refine lv_iconst (v := 3) B.1 B.2.1 dX6_init_92 (by decide) ?_
  refine lv_bipush (v := 90) B.1 B.2.1 dX6_init_93 (by decide) ?_
  refine va_iast B.1 B.2.1 B.2.2.2.2.2.1 hP hD hS 1 0 rfl rfl (by unfold vp_in; decide) dX6_init_95 (fun H locs hP hD hS => ?_)
  rw [e3] at hP hD
  have hP : va_P D vwCl (ct_w6n aC h0 (fun k => ([a0, a1, a2, a3, a4, a5, a6, a7] : List Nat).getD k 0) (upd (upd (upd (fun _ => 0) 0 30) 2 270) 3 90)) H := hP
  have hD : va_D A (ct_w6n aC h0 (fun k => ([a0, a1, a2, a3, a4, a5, a6, a7] : List Nat).getD k 0) (upd (upd (upd (fun _ => 0) 0 30) 2 270) 3 90)) := hD
  refine lv_aload_n B.1 B.2.1 dX6_init_96 rfl (lv_at hl 0 rfl) ?_
  refine va_get (D := D) (ci := 6) (C := RX6) (T := TX6) (N := 16) B.1 B.2.1 B.2.2.2.2.1 in_X6 B.2.2.2.1 B.2.2.2.2.2.1 hP 0 rfl rfl 0 (by decide) (B.2.2.2.2.1 _ (mb_tb 844 (by decide +kernel) (by decide +kernel))) (fun _ h9 => h9) rfl dX6_init_97 ?_
  refine lv_bipush (v := 8) B.1 B.2.1 dX6_init_100 (by decide) ?_
  refine lv_iconst (v := 1) B.1 B.2.1 dX6_init_102 (by decide) ?_
  refine va_iast B.1 B.2.1 B.2.2.2.2.2.1 hP hD hS 1 0 rfl rfl (by unfold vp_in; decide) dX6_init_103 (fun H locs hP hD hS => ?_)
  rw [e8] at hP hD
  have hP : va_P D vwCl (ct_w6n aC h0 (fun k => ([a0, a1, a2, a3, a4, a5, a6, a7] : List Nat).getD k 0) (upd (upd (upd (upd (fun _ => 0) 0 30) 2 270) 3 90) 8 1)) H := hP
  have hD : va_D A (ct_w6n aC h0 (fun k => ([a0, a1, a2, a3, a4, a5, a6, a7] : List Nat).getD k 0) (upd (upd (upd (upd (fun _ => 0) 0 30) 2 270) 3 90) 8 1)) := hD
  exact ct_ret (Wf := ct_w6 aC h0) (fun k => ([a0, a1, a2, a3, a4, a5, a6, a7] : List Nat).getD k 0) B hr hlocks hP hD hS dX6_init_104 (Nat.le_of_ble_eq_true rfl) (Nat.le_of_ble_eq_true rfl)
