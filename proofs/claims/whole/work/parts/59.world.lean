/-! ===== the start's world, by names ===== -/
def cw_h0 : mb_AH := (fun k _ _ j => if k = 1 then (if j = 5 then 1 else if j = 7 then 30 else if j = 9 then 270 else if j = 10 then 90 else 0) else if k = 20 then ct_row j else 0, fun _ _ _ _ => 0, fun k => k + 2)
def cw_q (u : ct_U5) (o : Nat) : Nat := match o with
  | 0 => u.1.1
  | 1 => u.2.1.1
  | o + 2 => u.2.2.2.2.2.1 o
def cw_u (u : ct_U5) (o : Nat) : ct_U2 := match o with
  | 0 => u.1.2
  | 1 => u.2.1.2
  | o + 2 => u.2.2.2.2.2.2 o
def cw_a (m5 : Nat) (u : ct_U5) (m6 : Nat) (v : Nat → Nat) (out : Nat) : mb_RF → Nat := fun t => match t with
  | (0, _, _) => m5
  | (1, o, _) => cw_q u o
  | (2, o, k) => (cw_u u o).2.1 k
  | (3, o, k) => (cw_u u o).2.2 k
  | (4, _, _) => u.2.2.2.1.1
  | (5, _, _) => u.2.2.2.2.1.1
  | (6, _, _) => m6
  | (10, o, _) => (cw_u u o).1.1
  | (11, o, _) => (cw_u u o).1.2.1
  | (12, o, _) => (cw_u u o).1.2.2
  | (13, _, _) => u.2.2.1
  | (14, _, _) => u.2.2.2.1.2.1
  | (15, _, _) => u.2.2.2.1.2.2
  | (16, _, _) => u.2.2.2.2.1.2.1
  | (17, _, _) => u.2.2.2.2.1.2.2
  | (20, _, _) => v 0
  | (21, _, _) => v 1
  | (22, _, _) => v 2
  | (23, _, _) => v 3
  | (24, _, _) => v 4
  | (25, _, _) => v 5
  | (26, _, _) => v 6
  | (27, _, _) => v 7
  | _ => out
def cw_G (D : va_G) (aC : Nat → ClassId) (m5 : Nat) (u : ct_U5) (m6 : Nat) (v : Nat → Nat) (out : Nat) : mb_G := (D, aC, cw_a m5 u m6 v out)
def cw_f (D : va_G) (aC : Nat → ClassId) (m5 : Nat) (u : ct_U5) (m6 : Nat) (v : Nat → Nat) (out : Nat) (t : mb_RF) : Nat × va_E := (cw_a m5 u m6 v out t, mb_eh (cw_G D aC m5 u m6 v out) cw_h0 t)
def cw_LM (o : Nat) : List mb_RF := (1, o, 0) :: (10, o, 0) :: (11, o, 0) :: (12, o, 0) :: ((List.range 16).map (fun k => (2, o, k)) ++ (List.range 20).map (fun k => (3, o, k)))
def cw_L5 : List mb_RF := (0, 0, 0) :: (((((cw_LM 0 ++ cw_LM 1) ++ [(13, 0, 0)]) ++ [(4, 0, 0), (14, 0, 0), (15, 0, 0)]) ++ [(5, 0, 0), (16, 0, 0), (17, 0, 0)]) ++ (List.range 4).flatMap (fun k => cw_LM (k + 2)))
def cw_L6 : List mb_RF := [(6, 0, 0), (20, 0, 0), (21, 0, 0), (22, 0, 0), (23, 0, 0), (24, 0, 0), (25, 0, 0), (26, 0, 0), (27, 0, 0)]
def cw_L : List mb_RF := (cw_L5 ++ cw_L6) ++ [(30, 0, 0)]
theorem cw_L_all : ∀ t ∈ mb_TR, t ∈ cw_L := by decide +kernel
section CW
variable {D : va_G} {aC : Nat → ClassId} {m5 : Nat} {u : ct_U5} {m6 : Nat} {v : Nat → Nat} {out : Nat}
theorem cw_M (o : Nat) : (cw_LM o).map (cw_f D aC m5 u m6 v out) = ct_wM aC (cw_q u o) (cw_u u o) := by
  unfold cw_LM ct_wM
  rw [List.map_cons, List.map_cons, List.map_cons, List.map_cons, List.map_append, List.map_map, List.map_map]
  rfl
theorem cw_5 : cw_L5.map (cw_f D aC m5 u m6 v out) = ct_w5 aC m5 u := by
  unfold cw_L5
  have e : (List.range 4).map (fun k => (cw_LM (k + 2)).map (cw_f D aC m5 u m6 v out)) = (List.range 4).map (fun k => ct_wM aC (u.2.2.2.2.2.1 k) (u.2.2.2.2.2.2 k)) := List.map_congr_left (fun k _ => cw_M (k + 2))
  rw [List.map_cons, List.map_append, List.map_append, List.map_append, List.map_append, List.map_append, cw_M, cw_M, List.map_flatMap, List.flatMap_def, e, ← List.flatMap_def]
  rfl
theorem cw_6 : cw_L6.map (cw_f D aC m5 u m6 v out) = ct_w6 aC m6 v := rfl
theorem cw_all : cw_L.map (cw_f D aC m5 u m6 v out) = (ct_w5 aC m5 u ++ ct_w6 aC m6 v) ++ [(out, .inl (aC 2, (1, .inr (.inl (fun _ => 0)))))] := by
  unfold cw_L
  rw [List.map_append, List.map_append, cw_5, cw_6]
  rfl
theorem cw_at {t : mb_RF} (h : mb_okr t) : ∃ i : Nat, cw_L[i]? = some t := List.getElem?_of_mem (cw_L_all t (mb_TR_mem h))
theorem cw_fat {i : Nat} {t : mb_RF} (h : cw_L[i]? = some t) : (cw_L.map (cw_f D aC m5 u m6 v out))[i]? = some (cw_f D aC m5 u m6 v out t) := by
  rw [List.getElem?_map, h]
  rfl
theorem cw_wd {H : Heap} (hP : va_P D vwCl ((ct_w5 aC m5 u ++ ct_w6 aC m6 v) ++ [(out, .inl (aC 2, (1, .inr (.inl (fun _ => 0)))))]) H) : mb_wd (cw_G D aC m5 u m6 v out) cw_h0 H := by
  rw [← cw_all] at hP
  refine ⟨fun k q hq => ?_, fun k hk => by show k + 2 < 6; omega⟩
  obtain ⟨t, ht, rfl⟩ := mb_wl_of _ _ hq
  obtain ⟨i, hi⟩ := cw_at (mb_TR_ok (List.mem_of_getElem? ht))
  exact hP i _ (cw_fat hi)
theorem cw_gok {A : Nat → Prop} (hD : va_D A ((ct_w5 aC m5 u ++ ct_w6 aC m6 v) ++ [(out, .inl (aC 2, (1, .inr (.inl (fun _ => 0)))))])) : mb_gok (cw_G D aC m5 u m6 v out) := by
  rw [← cw_all (D := D)] at hD
  intro t t2 h1 h2 e
  obtain ⟨i, hi⟩ := cw_at h1
  obtain ⟨j, hj⟩ := cw_at h2
  have := hD.1 i j _ _ (cw_fat hi) (cw_fat hj) e
  subst this
  exact Option.some.inj (hi.symm.trans hj)
theorem cw_A {A : Nat → Prop} (hD : va_D A ((ct_w5 aC m5 u ++ ct_w6 aC m6 v) ++ [(out, .inl (aC 2, (1, .inr (.inl (fun _ => 0)))))])) : ∀ q : Nat, mb_A (cw_G D aC m5 u m6 v out) q → A q := by
  rw [← cw_all (D := D)] at hD
  rintro q ⟨t, h1, rfl⟩
  obtain ⟨i, hi⟩ := cw_at h1
  exact hD.2 i _ (cw_fat hi)
end CW
theorem cw_W : mb_W ct_row 0 0 1 0 0 := by
  refine ⟨⟨rfl, by decide, rfl, by decide, rfl, by decide, by decide⟩, ⟨rfl, by decide⟩, ⟨rfl, by decide⟩, fun k hk => absurd hk (Nat.not_lt_zero _), fun k hk => absurd hk (Nat.not_lt_zero _), fun k j hk => absurd hk (Nat.not_lt_zero _), fun k j hk => absurd hk (Nat.not_lt_zero _), fun k hk => ?_, ⟨30, 0, 270, 90, rfl, by decide, rfl, by decide, rfl, by decide, rfl, by decide, by decide⟩, Or.inl rfl, ⟨0, 0, rfl, by decide, rfl, by decide⟩⟩
  obtain rfl : k = 0 := by omega
  decide
theorem cw_RM : mb_RM cw_h0 0 ct_row 0 0 1 := by
  refine ⟨⟨rfl, rfl, rfl, rfl, rfl, rfl, rfl, rfl, rfl, rfl⟩, by decide +kernel, by decide +kernel, fun k hk => ?_, fun k hk => absurd hk (Nat.not_lt_zero _), fun k hk => absurd hk (Nat.not_lt_zero _)⟩
  obtain rfl : k = 0 := by omega
  rfl
theorem cw_S : mb_S 0 cw_h0 := by
  refine ⟨⟨0, by decide, rfl, rfl, fun k hk => absurd hk (Nat.not_lt_zero _)⟩, ⟨0, by decide, rfl, rfl, fun i hi => ?_, fun i j _ _ e => ?_, fun i hi => absurd hi (Nat.not_lt_zero _)⟩, 0, 0, 1, 0, 0, cw_W, cw_RM, by decide, by decide, ⟨0, rfl, by decide⟩, fun k hk => absurd hk (Nat.not_lt_zero _)⟩
  · show 2 ≤ i + 2 ∧ i + 2 < 6
    omega
  · have e : i + 2 = j + 2 := e
    omega
