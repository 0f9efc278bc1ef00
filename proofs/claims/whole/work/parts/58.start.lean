/-! ===== the start: what the tables and the Statement give ===== -/
section CS
variable {args : Array Value} {s : State}
theorem cs_arr {ty : FieldType} (h : (Cond.arrayClass ty).before args s = true) (hty : ∀ C, ty ≠ .object C) : ∃ cA : ClassId, ArrOfT s cA ty ∧ va_RA s cA ty := by
  obtain ⟨cA, kA, comp, h1, h2, h3⟩ := Cond.arrayClass_spec h
  refine ⟨cA, fun n z => ⟨fun k h => (by cases h), kA, h2, comp, h3⟩, ?_⟩
  cases ty with
  | object C => exact absurd rfl (hty C)
  | _ => exact h1
theorem cs_arrO {C : String} (h : (Cond.arrayOver (.object C)).before args s = true) : ∃ cA : ClassId, ArrOfT s cA (.object C) ∧ va_RA s cA (.object C) := by
  obtain ⟨comp, c, k, h1, h2, h3, h4, h5⟩ := Cond.arrayOver_spec h
  exact ⟨c, fun N z => ⟨fun k h => (by cases h), k, h3, comp, h4⟩, k, comp, h3, h4, h1, h5⟩
theorem cs_tb {w : Cond} (hts : ∀ w ∈ lw_tbl, w.before args s = true) (i : Nat) (h : tables_1[i]? = some w) : w.before args s = true := hts w (List.mem_append_right _ (List.mem_of_getElem? h))
theorem cs_GW (hts : ∀ w ∈ lw_tbl, w.before args s = true) : ∀ w ∈ mb_GW, w.before args s = true := fun w h => hts w (List.mem_filter.mp h).1
theorem cs_K (hts : ∀ w ∈ lw_tbl, w.before args s = true) : ∃ (D : va_G) (aC : Nat → ClassId), va_K D vwCl (ct_ty aC) s := by
  have hG := cs_GW hts
  obtain ⟨c0, i0, k0⟩ := u_known hG in_X0 (hG (Cond.instantiable RX0 4) (mb_tb 33 (by decide +kernel) (by decide +kernel)))
  obtain ⟨c1, i1, k1⟩ := u_known hG in_X1 (hG (Cond.instantiable RX1 9) (mb_tb 60 (by decide +kernel) (by decide +kernel)))
  obtain ⟨c2, i2, k2⟩ := u_known hG in_X2 (hG (Cond.instantiable RX2 15) (mb_tb 24 (by decide +kernel) (by decide +kernel)))
  obtain ⟨c3, i3, k3⟩ := u_known hG in_X3 (hG (Cond.instantiable RX3 4) (mb_tb 189 (by decide +kernel) (by decide +kernel)))
  obtain ⟨c4, i4, k4⟩ := u_known hG in_X4 (hG (Cond.instantiable RX4 4) (mb_tb 170 (by decide +kernel) (by decide +kernel)))
  obtain ⟨c5, i5, k5⟩ := u_known hG in_X5 (hG (Cond.instantiable RX5 6) (mb_tb 16 (by decide +kernel) (by decide +kernel)))
  obtain ⟨c6, i6, k6⟩ := u_known hG in_X6 (hG (Cond.instantiable RX6 16) (mb_tb 838 (by decide +kernel) (by decide +kernel)))
  obtain ⟨a0, e0⟩ := cs_arr (cs_tb (w := Cond.arrayClass .int) hts 59 (by decide +kernel)) (fun C h => by cases h)
  obtain ⟨a1, e1⟩ := cs_arr (cs_tb (w := Cond.arrayClass .char) hts 210 (by decide +kernel)) (fun C h => by cases h)
  obtain ⟨a2, e2⟩ := cs_arr (cs_tb (w := Cond.arrayClass .long) hts 1225 (by decide +kernel)) (fun C h => by cases h)
  obtain ⟨a3, e3⟩ := cs_arrO (cs_tb (w := Cond.arrayOver (.object RX0)) hts 30 (by decide +kernel))
  obtain ⟨a4, e4⟩ := cs_arrO (cs_tb (w := Cond.arrayOver (.object RX1)) hts 32 (by decide +kernel))
  obtain ⟨a5, e5⟩ := cs_arrO (cs_tb (w := Cond.arrayOver (.object RX2)) hts 168 (by decide +kernel))
  refine ⟨(fun c => match c with | 0 => c0 | 1 => c1 | 2 => c2 | 3 => c3 | 4 => c4 | 5 => c5 | _ => c6, fun c => match c with | 0 => i0 | 1 => i1 | 2 => i2 | 3 => i3 | 4 => i4 | 5 => i5 | _ => i6), fun c => match c with | 0 => a0 | 1 => a1 | 2 => a2 | 3 => a3 | 4 => a4 | _ => a5, ?_, ?_⟩
  · intro c q h
    rcases c with _ | _ | _ | _ | _ | _ | _ | c
    · cases h; exact k0
    · cases h; exact k1
    · cases h; exact k2
    · cases h; exact k3
    · cases h; exact k4
    · cases h; exact k5
    · cases h; exact k6
    · cases h
  · intro c q h
    rcases c with _ | _ | _ | _ | _ | _ | c
    · cases h; exact e0
    · cases h; exact e1
    · cases h; exact e2
    · cases h; exact e3
    · cases h; exact e4
    · cases h; exact e5
    · cases h
theorem cs_FW (hts : ∀ w ∈ lw_tbl, w.before args s = true) : ct_FW s :=
  ⟨va_Nw.of rfl (cs_tb hts 34 (by decide +kernel)), va_Nw.of rfl (cs_tb hts 61 (by decide +kernel)), va_Nw.of rfl (cs_tb hts 171 (by decide +kernel)), va_Nw.of rfl (cs_tb hts 190 (by decide +kernel)), va_AO.of (cs_tb hts 30 (by decide +kernel)), va_AO.of (cs_tb hts 32 (by decide +kernel)), va_AO.of (cs_tb hts 168 (by decide +kernel))⟩
theorem cs_s1 : ∀ q ∈ mb_strs, Cond.stringRef RX5 q.1 q.2 ∈ tables_1 := by decide +kernel
theorem cs_s2 : ∀ q ∈ mb_strs, Cond.exactly (.string RX5 q.1) "java/lang/String" ∈ flatC (Jvm.Cond.and given_1 narrow_1) := by decide +kernel
theorem cs_n1 : ∀ q ∈ mb_ncs, Cond.not (.castable q.1 q.2) ∈ flatC (Jvm.Cond.and given_1 narrow_1) := by decide +kernel
theorem cs_NC (hg : (Jvm.Cond.and given_1 narrow_1).before args s = true) : mb_NC s := fun q hq => va_Nc.of (flat_of_before _ hg _ (cs_n1 q hq))
theorem cs_str (hts : ∀ w ∈ lw_tbl, w.before args s = true) (hg : (Jvm.Cond.and given_1 narrow_1).before args s = true) : ∀ q ∈ mb_strs, ∃ a : Nat, vk_R RX5 q.1 q.2 a s := by
  intro q hq
  obtain ⟨a, -, -, -, ha, -⟩ := Cond.exactly_spec (args := args) (first := s) (o := none) (s := s) (idx := []) (t := .string RX5 q.1) (cls := "java/lang/String") (flat_of_before _ hg _ (cs_s2 q hq))
  have h1 := hts _ (List.mem_append_right _ (cs_s1 q hq))
  exact ⟨a, vk_R.of h1 ha⟩
theorem cs_XW (hts : ∀ w ∈ lw_tbl, w.before args s = true) (hg : (Jvm.Cond.and given_1 narrow_1).before args s = true) {A : Nat → Prop} (hA : ∀ a : Nat, a < s.heap.size → ¬ A a) : mb_XW A s := by
  have hi : (Cond.initialized "java/lang/Throwable").before args s = true := hts _ (by decide +kernel)
  refine ⟨vx_Zqof (cs_tb hts 358 (by decide +kernel)) hi (flat_of_before _ hg _ (by decide +kernel)) hA, vx_Zqof (cs_tb hts 360 (by decide +kernel)) hi (flat_of_before _ hg _ (by decide +kernel)) hA, cs_str hts hg, fun w hw => ?_⟩
  have h1 := List.mem_filter.mp hw
  have h2 := h1.2
  rw [Bool.and_eq_true] at h2
  exact va_Nw.of h2.1 (hts w h1.1)
end CS
