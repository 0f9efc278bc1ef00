/-! ===== the world: one fixed set of objects and arrays, named by (kind, owner, place); addresses are a function of the name =====
kinds: 0 MarinaBerths, 1 Marina (6: 0 now, 1 thought, 2.. records), 2 Berth (owner, k), 3 Boat (owner, k), 4 WinterPlan, 5 TableText, 6 MarinaBerthsModel,
10 Berth[] and 11 Boat[] and 12 lows of a Marina, 13 records, 14 wishes, 15 holders, 16 signs, 17 numbers; the model's 20 now, 21 past, 22 kept, 23 text, 24 movers, 25 shelters, 26 best, 27 numbers; 30 the law's out -/
abbrev mb_RF : Type := Nat × Nat × Nat
abbrev mb_AV : Type := Int32 ⊕ Int64 ⊕ Option mb_RF
abbrev mb_AH : Type := (Nat → Nat → Nat → Nat → Int32) × (Nat → Nat → Nat → Nat → Int64) × (Nat → Nat)
abbrev mb_RS : Type := (Option mb_AV ⊕ String) × mb_AH
abbrev mb_I (x : Int32) : mb_AV := .inl x
abbrev mb_L (x : Int64) : mb_AV := .inr (.inl x)
abbrev mb_N : mb_AV := .inr (.inr none)
abbrev mb_F (k a b : Nat) : mb_AV := .inr (.inr (some (k, a, b)))
abbrev mb_G : Type := va_G × (Nat → ClassId) × (mb_RF → Nat)
def mb_cz (G : mb_G) (v : mb_AV) : Value := match v with
  | .inl x => .int x
  | .inr (.inl x) => .long x
  | .inr (.inr none) => .null
  | .inr (.inr (some t)) => .ref (G.2.2 t)
def mb_zq (G : mb_G) (q : Nat × mb_AV) : Nat × Value := (q.1, mb_cz G q.2)
def mb_nA (k : Nat) : Nat := ([1, 6, 6, 6, 1, 1, 1, 0, 0, 0, 6, 6, 6, 1, 1, 1, 1, 1, 0, 0, 1, 1, 1, 1, 1, 1, 1, 1, 0, 0, 1] : List Nat).getD k 0
def mb_nB (k : Nat) : Nat := ([1, 1, 16, 20] : List Nat).getD k 1
/-- how long an array is -/
def mb_al (k : Nat) : Nat := ([0, 0, 0, 0, 0, 0, 0, 0, 0, 0, 16, 20, 14, 4, 20, 16, 70, 14, 0, 0, 270, 1080, 270, 70, 20, 16, 65536, 14, 0, 0, 1] : List Nat).getD k 0
def mb_okr (t : mb_RF) : Prop := t.2.1 < mb_nA t.1 ∧ t.2.2 < mb_nB t.1
def mb_ok (v : mb_AV) : Prop := match v with
  | .inr (.inr (some t)) => mb_okr t
  | _ => True
def mb_oks : List mb_AV → Prop
  | [] => True
  | v :: r => mb_ok v ∧ mb_oks r
def mb_TR : List mb_RF := (List.range 31).flatMap (fun k => (List.range (mb_nA k)).flatMap (fun a => (List.range (mb_nB k)).map (fun b => (k, a, b))))
theorem mb_TR_mem {t : mb_RF} (h : mb_okr t) : t ∈ mb_TR := by
  obtain ⟨k, a, b⟩ := t
  have hk : k < 31 := by
    rcases Nat.lt_or_ge k 31 with h9 | h9
    · exact h9
    · exfalso
      have h1 : a < mb_nA k := h.1
      have h2 : mb_nA k = 0 := by
        unfold mb_nA
        rw [List.getD_eq_getElem?_getD, List.getElem?_eq_none (by simpa using h9)]
        rfl
      omega
  exact List.mem_flatMap.mpr ⟨k, List.mem_range.mpr hk, List.mem_flatMap.mpr ⟨a, List.mem_range.mpr h.1, List.mem_map.mpr ⟨b, List.mem_range.mpr h.2, rfl⟩⟩⟩
theorem mb_TR_ok {t : mb_RF} (h : t ∈ mb_TR) : mb_okr t := by
  obtain ⟨k, -, h⟩ := List.mem_flatMap.mp h
  obtain ⟨a, ha, h⟩ := List.mem_flatMap.mp h
  obtain ⟨b, hb, h⟩ := List.mem_map.mp h
  subst h
  exact ⟨List.mem_range.mp ha, List.mem_range.mp hb⟩
theorem mb_TR_nd : mb_TR.Nodup := by decide +kernel
def mb_ek (G : mb_G) (f : Nat → Int32) (g : Nat → Int64) (r : Nat → Nat) (t : mb_RF) : va_E := match t with
  | (0, _, _) => .inr (5, [.ref (G.2.2 (1, 0, 0)), .ref (G.2.2 (1, 1, 0)), .ref (G.2.2 (13, 0, 0)), .int (f 3), .ref (G.2.2 (4, 0, 0)), .ref (G.2.2 (5, 0, 0))])
  | (1, a, _) => .inr (2, [.ref (G.2.2 (10, a, 0)), .int (f 1), .ref (G.2.2 (11, a, 0)), .int (f 3), .ref (G.2.2 (12, a, 0)), .int (f 5), .int (f 6), .int (f 7), .int (f 8), .int (f 9), .int (f 10), .int (f 11), .int (f 12), .long (g 13), .int (f 14)])
  | (2, _, _) => .inr (0, [.int (f 0), .int (f 1), .int (f 2), .int (f 3)])
  | (3, _, _) => .inr (1, [.int (f 0), .int (f 1), .int (f 2), .int (f 3), .int (f 4), .int (f 5), .int (f 6), .int (f 7), .int (f 8)])
  | (4, _, _) => .inr (4, [.ref (G.2.2 (14, 0, 0)), .ref (G.2.2 (15, 0, 0)), .int (f 2), .int (f 3)])
  | (5, _, _) => .inr (3, [.ref (G.2.2 (16, 0, 0)), .int (f 1), .ref (G.2.2 (17, 0, 0)), .int (f 3)])
  | (6, _, _) => .inr (6, [.ref (G.2.2 (20, 0, 0)), .ref (G.2.2 (21, 0, 0)), .ref (G.2.2 (22, 0, 0)), .int (f 3), .int (f 4), .ref (G.2.2 (23, 0, 0)), .int (f 6), .ref (G.2.2 (24, 0, 0)), .ref (G.2.2 (25, 0, 0)), .ref (G.2.2 (26, 0, 0)), .int (f 10), .int (f 11), .int (f 12), .int (f 13), .ref (G.2.2 (27, 0, 0)), .long (g 15)])
  | (10, a, _) => .inl (G.2.1 3, (16, .inr (.inr (.inr (.inr (fun k => some (G.2.2 (2, a, k))))))))
  | (11, a, _) => .inl (G.2.1 4, (20, .inr (.inr (.inr (.inr (fun k => some (G.2.2 (3, a, k))))))))
  | (13, _, _) => .inl (G.2.1 5, (4, .inr (.inr (.inr (.inr (fun k => some (G.2.2 (1, r k, 0))))))))
  | (16, _, _) => .inl (G.2.1 1, (70, .inl f))
  | (30, _, _) => .inl (G.2.1 2, (1, .inr (.inl g)))
  | (k, _, _) => .inl (G.2.1 0, (mb_al k, .inl f))
abbrev mb_eh (G : mb_G) (h : mb_AH) (t : mb_RF) : va_E := mb_ek G (h.1 t.1 t.2.1 t.2.2) (h.2.1 t.1 t.2.1 t.2.2) h.2.2 t
def mb_wl (G : mb_G) (h : mb_AH) : va_W := mb_TR.map (fun t => (G.2.2 t, mb_eh G h t))
def mb_gok (G : mb_G) : Prop := ∀ t u : mb_RF, mb_okr t → mb_okr u → G.2.2 t = G.2.2 u → t = u
def mb_A (G : mb_G) : Nat → Prop := fun q => ∃ t : mb_RF, mb_okr t ∧ q = G.2.2 t
def mb_wd (G : mb_G) (h : mb_AH) (H : Heap) : Prop := va_P G.1 vwCl (mb_wl G h) H ∧ ∀ k : Nat, k < 4 → h.2.2 k < 6
theorem mb_wl_at (G : mb_G) (h : mb_AH) {q : Nat} {t : mb_RF} (ht : mb_TR[q]? = some t) : (mb_wl G h)[q]? = some (G.2.2 t, mb_eh G h t) := by
  unfold mb_wl
  rw [List.getElem?_map, ht]
  rfl
theorem mb_wl_of (G : mb_G) (h : mb_AH) {q : Nat} {x : Nat × va_E} (hx : (mb_wl G h)[q]? = some x) : ∃ t : mb_RF, mb_TR[q]? = some t ∧ x = (G.2.2 t, mb_eh G h t) := by
  unfold mb_wl at hx
  rw [List.getElem?_map] at hx
  cases ht : mb_TR[q]? with
  | none => rw [ht] at hx; cases hx
  | some t => rw [ht] at hx; exact ⟨t, rfl, (Option.some.inj hx).symm⟩
theorem mb_at {t : mb_RF} (h : mb_okr t) : ∃ q : Nat, mb_TR[q]? = some t := List.getElem?_of_mem (mb_TR_mem h)
theorem mb_nd_inj {α : Type} {l : List α} (hd : l.Nodup) {i j : Nat} (hi : i < l.length) (hj : j < l.length) (e : l[i] = l[j]) : i = j := by
  rcases Nat.lt_trichotomy i j with q | q | q
  · exact absurd e (List.pairwise_iff_getElem.mp hd i j hi hj q)
  · exact q
  · exact absurd e.symm (List.pairwise_iff_getElem.mp hd j i hj hi q)
theorem mb_TR_inj {i j : Nat} {t : mb_RF} (hi : mb_TR[i]? = some t) (hj : mb_TR[j]? = some t) : i = j := by
  obtain ⟨h1, e1⟩ := List.getElem?_eq_some_iff.mp hi
  obtain ⟨h2, e2⟩ := List.getElem?_eq_some_iff.mp hj
  exact mb_nd_inj mb_TR_nd h1 h2 (e1.trans e2.symm)
theorem mb_D {G : mb_G} (hg : mb_gok G) (h : mb_AH) : va_D (mb_A G) (mb_wl G h) := by
  refine ⟨fun i j p q hi hj e => ?_, fun k q hk => ?_⟩
  · obtain ⟨t, ht, rfl⟩ := mb_wl_of G h hi
    obtain ⟨u, hu, rfl⟩ := mb_wl_of G h hj
    have e2 : t = u := hg t u (mb_TR_ok (List.mem_of_getElem? ht)) (mb_TR_ok (List.mem_of_getElem? hu)) e
    subst e2
    exact mb_TR_inj ht hu
  · obtain ⟨t, ht, rfl⟩ := mb_wl_of G h hk
    exact ⟨t, mb_TR_ok (List.mem_of_getElem? ht), rfl⟩
theorem mb_set {G : mb_G} {h h2 : mb_AH} {q : Nat} {t : mb_RF} {e : va_E} (ht : mb_TR[q]? = some t) (ho : ∀ u : mb_RF, mb_okr u → u ≠ t → mb_eh G h2 u = mb_eh G h u) (he : mb_eh G h2 t = e) : (mb_wl G h).set q (G.2.2 t, e) = mb_wl G h2 := by
  apply List.ext_getElem?
  intro i
  rw [List.getElem?_set]
  by_cases hi : q = i
  · subst hi
    have hlt : q < (mb_wl G h).length := by
      have := (List.getElem?_eq_some_iff.mp (mb_wl_at G h ht)).1
      exact this
    rw [if_pos rfl, if_pos hlt, mb_wl_at G h2 ht, he]
  · rw [if_neg hi]
    unfold mb_wl
    rw [List.getElem?_map, List.getElem?_map]
    cases hu : mb_TR[i]? with
    | none => rfl
    | some u =>
      have hne : u ≠ t := fun e2 => hi (mb_TR_inj ht (e2 ▸ hu))
      show some (G.2.2 u, mb_eh G h u) = some (G.2.2 u, mb_eh G h2 u)
      rw [ho u (mb_TR_ok (List.mem_of_getElem? hu)) hne]
def mb_sI (h : mb_AH) (k a b : Nat) (j : Nat) (x : Int32) : mb_AH := (fun k' a' b' j' => if k' = k ∧ a' = a ∧ b' = b ∧ j' = j then x else h.1 k' a' b' j', h.2.1, h.2.2)
def mb_sL (h : mb_AH) (k a b : Nat) (j : Nat) (x : Int64) : mb_AH := (h.1, fun k' a' b' j' => if k' = k ∧ a' = a ∧ b' = b ∧ j' = j then x else h.2.1 k' a' b' j', h.2.2)
def mb_sR (h : mb_AH) (j : Nat) (x : Nat) : mb_AH := (h.1, h.2.1, fun j' => if j' = j then x else h.2.2 j')
theorem mb_sI_eq (h : mb_AH) (k a b j : Nat) (x : Int32) : (mb_sI h k a b j x).1 k a b = upd (h.1 k a b) j x := by
  funext i
  simp [mb_sI, upd]
theorem mb_sL_eq (h : mb_AH) (k a b j : Nat) (x : Int64) : (mb_sL h k a b j x).2.1 k a b = vp_updL (h.2.1 k a b) j x := by
  funext i
  simp [mb_sL, vp_updL]
theorem mb_sI_ne (G : mb_G) (h : mb_AH) (k a b j : Nat) (x : Int32) (u : mb_RF) (hu : u ≠ (k, a, b)) : mb_eh G (mb_sI h k a b j x) u = mb_eh G h u := by
  have e : (mb_sI h k a b j x).1 u.1 u.2.1 u.2.2 = h.1 u.1 u.2.1 u.2.2 := by
    funext i
    simp only [mb_sI]
    rw [if_neg]
    rintro ⟨h1, h2, h3, -⟩
    exact hu (Prod.ext h1 (Prod.ext h2 h3))
  show mb_ek G ((mb_sI h k a b j x).1 u.1 u.2.1 u.2.2) _ _ u = _
  rw [e]
  rfl
theorem mb_sL_ne (G : mb_G) (h : mb_AH) (k a b j : Nat) (x : Int64) (u : mb_RF) (hu : u ≠ (k, a, b)) : mb_eh G (mb_sL h k a b j x) u = mb_eh G h u := by
  have e : (mb_sL h k a b j x).2.1 u.1 u.2.1 u.2.2 = h.2.1 u.1 u.2.1 u.2.2 := by
    funext i
    simp only [mb_sL]
    rw [if_neg]
    rintro ⟨h1, h2, h3, -⟩
    exact hu (Prod.ext h1 (Prod.ext h2 h3))
  show mb_ek G _ ((mb_sL h k a b j x).2.1 u.1 u.2.1 u.2.2) _ u = _
  rw [e]
  rfl
theorem mb_ek_r (G : mb_G) (f : Nat → Int32) (g : Nat → Int64) (r r2 : Nat → Nat) (u : mb_RF) (hu : u.1 ≠ 13) : mb_ek G f g r2 u = mb_ek G f g r u := by
  obtain ⟨k, a, b⟩ := u
  unfold mb_ek
  split <;> first | rfl | (simp_all; done)
def mb_mc (r : mb_RS) : Nat := match r.1 with
  | .inl _ => 0
  | .inr _ => 1
def mb_ms (r : mb_RS) : Nat := match r.1 with
  | .inl _ => 0
  | .inr _ => 6
def mb_GW : List Cond := lw_tbl.filter goodWord
abbrev mb_tys (G : mb_G) : List (ClassId × FieldType) := [(G.2.1 0, .int), (G.2.1 1, .char), (G.2.1 2, .long), (G.2.1 3, .object RX0), (G.2.1 4, .object RX1), (G.2.1 5, .object RX2)]
/-- the texts of the exceptions -/
def mb_strs : List (Nat × String) := [(212, "what is not 0 to 13"), (344, "there is no such berth"), (159, "what is not 0 to 6"), (347, "there is no such boat"), (194, "what is not 0 to 9"), (43, "the text has a fault"), (59, "the day is negative"), (73, "depth, length or rate is out of range"), (80, "there are 16 berths"), (93, "length, draft or bonus is out of range"), (98, "there are 20 boats"), (113, "what or value is out of range, or both days would be the same"), (134, "the rate is out of range"), (217, "the berth is not free, too small for the boat, or exposed in winter"), (223, "the boat is away, or it owes something"), (225, "both boats are the same"), (231, "a boat is in no berth, or does not fit that of the other one"), (233, "the boat is not away"), (242, "the berth is not free, or exposed in winter"), (349, "the number of days is not 1 to 400"), (264, "a boat would owe too much"), (266, "the amount is not from 1 to what the boat owes"), (272, "the amount is negative"), (278, "the boat would owe too much"), (336, "it is winter"), (303, "the code is not 32 to 126"), (306, "the text has 70 characters"), (315, "there is no record")]

/-- words of the tables that stand by the classes alone -/
def mb_FW : List Cond := lw_tbl.filter (fun w => w.onTables && w.faceAtom)
theorem mb_FW_warm {s U : State} (hW : s.WarmedH U.vm) {w : Cond} (hw : w ∈ mb_FW) (h : va_Nw w s) : va_Nw w U := by
  have h1 := (List.mem_filter.mp hw).2
  rw [Bool.and_eq_true] at h1
  exact va_tabs h1.1 (rfl : (s.setVm U.vm).vm = U.vm) (Cond.faceAtom_setVm hW.alike w h1.2 h)
def mb_XW (A : Nat → Prop) (U : State) : Prop := vx_Zq Bundle.tN "UNASSIGNED_STACK" Bundle.steD A U U.heap ∧ vx_Zq Bundle.tN "SUPPRESSED_SENTINEL" Bundle.listD A U U.heap ∧ (∀ q ∈ mb_strs, ∃ a : Nat, (vk_R RX5 q.1 q.2 a U)) ∧ ∀ w ∈ mb_FW, va_Nw w U
/-- what holds all the time that a method runs -/
def mb_Cx (p : Program) (l : Launch) (R : Room) (s : State) (m : MethodId) (args : Array Value) (meth : Method) (c : Code) (G : mb_G) (own : String) (cc : ByteArray) (nL : Nat) (ret : Option FieldType) (d : Nat) (res : mb_RS) : Prop :=
  p.tables.exec = Jvm.exec ∧ c.code = cc ∧ c.maxLocals = nL ∧ s.vm.findClass own = some m.cls ∧ (∀ w ∈ mb_GW, w.before args s = true) ∧ meth.locks = false ∧ meth.sig.returnType = ret ∧ (∀ x ∈ c.exceptionTable.toList, False) ∧
  (8 + d ≤ R.frames ∧ 128 + 64 * d ≤ R.locals ∧ mb_mc res ≤ R.cells ∧ mb_ms res ≤ R.slots) ∧ va_K G.1 vwCl (mb_tys G) s ∧ mb_XW (mb_A G) s ∧ l.stackTraces = false ∧ mb_gok G
def mb_Qc (G : mb_G) (res : mb_RS) : Array Value → State → Outcome → State → Prop := fun _ st o t => (∃ v : Option mb_AV, res.1 = .inl v ∧ o = .returned (v.map (mb_cz G)) ∧ mb_oks v.toList) ∧ mb_wd G res.2 t.heap ∧ va_F (mb_A G) st t
def mb_XC (G : mb_G) (res : mb_RS) : String → State → State → Prop := fun E st t => res.1 = .inr E ∧ mb_wd G res.2 t.heap ∧ va_F (mb_A G) st t
/-- from this place of the method it comes to its end with that outcome -/
def mb_Ev (l : Launch) (G : mb_G) (own : String) (cc : ByteArray) (nL : Nat) (ret : Option FieldType) (d pc : Nat) (lv : List (Nat × mb_AV)) (st : List mb_AV) (h : mb_AH) (res : mb_RS) : Prop :=
  ∀ (p : Program) (e : Env) (R : Room) (s : State) (m : MethodId) (args : Array Value) (below : List Frame) (meth : Method) (c : Code) (H : Heap) (locs : List Loc) (ls : Array Slot),
    mb_Cx p l R s m args meth c G own cc nL ret d res → va_S (mb_A G) s.heap H locs → mb_wd G h H → lv_has ls nL (lv.map (mb_zq G)) → (∀ q ∈ lv, mb_ok q.2) → mb_oks st →
    W p l e R s m args below meth c H locs 0 0 (vx_MQ below (mb_Qc G res) (mb_XC G res) args s (mb_mc res) (mb_ms res) (mb_A G)) (F0 m pc ls (st.map (mb_cz G)))
def mb_rm (d : Nat) (res : mb_RS) : Room := { frames := 8 + d, cells := mb_mc res, slots := mb_ms res, locals := 128 + 64 * d }
def mb_Pc (G : mb_G) (as : List mb_AV) (h : mb_AH) : Array Value → State → Prop := va_Pc (as.map (mb_cz G)) (fun U => mb_wd G h U.heap ∧ va_K G.1 vwCl (mb_tys G) U ∧ mb_XW (mb_A G) U)
/-- a method's contract: at these arguments and this world it has that outcome -/
def mb_Mt (l : Launch) (G : mb_G) (y : MethodName) (cc : ByteArray) (nL : Nat) (ret : Option FieldType) (d : Nat) (as : List mb_AV) (h : mb_AH) (res : mb_RS) : Prop :=
  mb_oks as → vx_Met l y (Cond.code y cc nL ret :: mb_GW) (mb_rm d res) (mb_Pc G as h) (mb_Qc G res) (mb_XC G res) (mb_mc res) (mb_ms res) (mb_A G)
theorem mb_XW_kept {A : Nat → Prop} {u U : State} (hW : u.WarmedH U.vm) (hz : u.heap.size ≤ U.heap.size) (hk : ∀ q : Nat, q < u.heap.size → ¬ A q → U.heap[q]? = u.heap[q]?) (h : mb_XW A u) : mb_XW A U := by
  obtain ⟨h1, h2, h3, h4⟩ := h
  refine ⟨(vx_Zq.kept h1 hk).moved hW.alike, (vx_Zq.kept h2 hk).moved hW.alike, fun q hq => ?_, fun w hw => mb_FW_warm hW hw (h4 w hw)⟩
  obtain ⟨a, ha⟩ := h3 q hq
  exact ⟨a, ha.warm hW⟩
theorem mb_blind (G : mb_G) (as : List mb_AV) (h : mb_AH) : FrameBlind (mb_Pc G as h) := by
  intro a U g mk q
  obtain ⟨q1, q2, q3, q4⟩ := q
  refine ⟨q1, q2, va_K.moved (u := U) (U := U.calling g mk a) (Vm.Alike.refl U.vm) q3, ?_⟩
  exact mb_XW_kept (u := U) (U := U.calling g mk a) (State.WarmedH.refl U) (Nat.le_refl _) (fun _ _ _ => rfl) q4
theorem mb_lat {G : mb_G} {lv : List (Nat × mb_AV)} {j i : Nat} {v : mb_AV} (h : lv[j]? = some (i, v)) : (lv.map (mb_zq G))[j]? = some (i, mb_cz G v) := by
  rw [List.getElem?_map, h]
  rfl
theorem mb_lok {lv : List (Nat × mb_AV)} {j i : Nat} {v : mb_AV} (hl : ∀ q ∈ lv, mb_ok q.2) (h : lv[j]? = some (i, v)) : mb_ok v := hl (i, v) (List.mem_of_getElem? h)
def mb_c2 (v : mb_AV) : Bool := match v with
  | .inr (.inl _) => true
  | _ => false
theorem mb_cat (G : mb_G) (v : mb_AV) : ((mb_cz G v).category == 2) = mb_c2 v := by
  rcases v with x | x | _ | t <;> rfl
def mb_st1 (i : Nat) (lv : List (Nat × mb_AV)) : List (Nat × mb_AV) := lv.filter (fun q => !(q.1 == i) && !(q.1 + 1 == i && mb_c2 q.2))
def mb_st2 (i : Nat) (lv : List (Nat × mb_AV)) : List (Nat × mb_AV) := lv.filter (fun q => !(q.1 == i) && (!(q.1 == i + 1) && !(q.1 + 1 == i && mb_c2 q.2)))
theorem mb_st1_eq (G : mb_G) (i : Nat) (lv : List (Nat × mb_AV)) : (lv.map (mb_zq G)).filter (fun q => !(q.1 == i) && !(q.1 + 1 == i && q.2.category == 2)) = (mb_st1 i lv).map (mb_zq G) := by
  unfold mb_st1
  rw [List.filter_map]
  congr 1
  apply List.filter_congr
  intro q _
  show (!(q.1 == i) && !(q.1 + 1 == i && (mb_cz G q.2).category == 2)) = _
  rw [mb_cat]
theorem mb_st2_eq (G : mb_G) (i : Nat) (lv : List (Nat × mb_AV)) : (lv.map (mb_zq G)).filter (fun q => !(q.1 == i) && (!(q.1 == i + 1) && !(q.1 + 1 == i && q.2.category == 2))) = (mb_st2 i lv).map (mb_zq G) := by
  unfold mb_st2
  rw [List.filter_map]
  congr 1
  apply List.filter_congr
  intro q _
  show (!(q.1 == i) && (!(q.1 == i + 1) && !(q.1 + 1 == i && (mb_cz G q.2).category == 2))) = _
  rw [mb_cat]
theorem mb_st1_ok {i : Nat} {lv : List (Nat × mb_AV)} {v : mb_AV} (hl : ∀ q ∈ lv, mb_ok q.2) (hv : mb_ok v) : ∀ q ∈ (i, v) :: mb_st1 i lv, mb_ok q.2 := by
  intro q hq
  rcases List.mem_cons.mp hq with rfl | h
  · exact hv
  · exact hl q (List.mem_filter.mp h).1
theorem mb_st2_ok {i : Nat} {lv : List (Nat × mb_AV)} {v : mb_AV} (hl : ∀ q ∈ lv, mb_ok q.2) (hv : mb_ok v) : ∀ q ∈ (i, v) :: mb_st2 i lv, mb_ok q.2 := by
  intro q hq
  rcases List.mem_cons.mp hq with rfl | h
  · exact hv
  · exact hl q (List.mem_filter.mp h).1
theorem mb_cat1 (G : mb_G) {v : mb_AV} (h : mb_c2 v = false) : (mb_cz G v).category = 1 := by
  rcases v with x | x | _ | t
  · rfl
  · cases h
  · rfl
  · rfl
section MBR
variable {l : Launch} {G : mb_G} {own : String} {cc : ByteArray} {nL : Nat} {ret : Option FieldType} {d pc pn : Nat} {lv : List (Nat × mb_AV)} {st : List mb_AV} {h : mb_AH} {res : mb_RS}
theorem mb_iconst {n : Int} {v : Int32} (dg : decode cc pc = .ok (.iconst n, 1)) (hv : Int32.ofInt n = v) (hn : pc + 1 = pn) (k : mb_Ev l G own cc nL ret d pn lv (.inl v :: st) h res) : mb_Ev l G own cc nL ret d pc lv (st) h res := by
  subst hn
  exact fun p e R s m args below meth c H locs ls C hS hw hl ol os => lv_iconst C.1 C.2.1 dg hv (k p e R s m args below meth c H locs ls C hS hw hl ol ⟨trivial, os⟩)
theorem mb_bipush {n : Int} {v : Int32} (dg : decode cc pc = .ok (.bipush n, 2)) (hv : (Int8.ofInt n).toInt32 = v) (hn : pc + 2 = pn) (k : mb_Ev l G own cc nL ret d pn lv (.inl v :: st) h res) : mb_Ev l G own cc nL ret d pc lv (st) h res := by
  subst hn
  exact fun p e R s m args below meth c H locs ls C hS hw hl ol os => lv_bipush C.1 C.2.1 dg hv (k p e R s m args below meth c H locs ls C hS hw hl ol ⟨trivial, os⟩)
theorem mb_sipush {n : Int} {v : Int32} (dg : decode cc pc = .ok (.sipush n, 3)) (hv : (Int16.ofInt n).toInt32 = v) (hn : pc + 3 = pn) (k : mb_Ev l G own cc nL ret d pn lv (.inl v :: st) h res) : mb_Ev l G own cc nL ret d pc lv (st) h res := by
  subst hn
  exact fun p e R s m args below meth c H locs ls C hS hw hl ol os => lv_sipush C.1 C.2.1 dg hv (k p e R s m args below meth c H locs ls C hS hw hl ol ⟨trivial, os⟩)
theorem mb_lconst {n : Fin 2} {v : Int64} (dg : decode cc pc = .ok (.lconst n, 1)) (hv : Int64.ofNat (n : Nat) = v) (hn : pc + 1 = pn) (k : mb_Ev l G own cc nL ret d pn lv (.inr (.inl v) :: st) h res) : mb_Ev l G own cc nL ret d pc lv (st) h res := by
  subst hn
  exact fun p e R s m args below meth c H locs ls C hS hw hl ol os => lv_lconst C.1 C.2.1 dg hv (k p e R s m args below meth c H locs ls C hS hw hl ol ⟨trivial, os⟩)
theorem mb_null (dg : decode cc pc = .ok (.aconst_null, 1)) (hn : pc + 1 = pn) (k : mb_Ev l G own cc nL ret d pn lv (mb_N :: st) h res) : mb_Ev l G own cc nL ret d pc lv (st) h res := by
  subst hn
  exact fun p e R s m args below meth c H locs ls C hS hw hl ol os => lv_null C.1 C.2.1 dg (k p e R s m args below meth c H locs ls C hS hw hl ol ⟨trivial, os⟩)
theorem mb_ldc {i : Nat} {v : Int32} (hc : Cond.constant own i v ∈ mb_GW) (dg : decode cc pc = .ok (.ldc i, 2)) (hn : pc + 2 = pn) (k : mb_Ev l G own cc nL ret d pn lv (.inl v :: st) h res) : mb_Ev l G own cc nL ret d pc lv (st) h res := by
  subst hn
  exact fun p e R s m args below meth c H locs ls C hS hw hl ol os => lv_ldc C.1 C.2.1 C.2.2.2.1 (C.2.2.2.2.1 _ hc) dg (k p e R s m args below meth c H locs ls C hS hw hl ol ⟨trivial, os⟩)
theorem mb_ldcw {i : Nat} {v : Int32} (hc : Cond.constant own i v ∈ mb_GW) (dg : decode cc pc = .ok (.ldc_w i, 3)) (hn : pc + 3 = pn) (k : mb_Ev l G own cc nL ret d pn lv (.inl v :: st) h res) : mb_Ev l G own cc nL ret d pc lv (st) h res := by
  subst hn
  exact fun p e R s m args below meth c H locs ls C hS hw hl ol os => lv_ldcw C.1 C.2.1 C.2.2.2.1 (C.2.2.2.2.1 _ hc) dg (k p e R s m args below meth c H locs ls C hS hw hl ol ⟨trivial, os⟩)
theorem mb_ldc2 {i : Nat} {v : Int64} (hc : Cond.constantLong own i v ∈ mb_GW) (dg : decode cc pc = .ok (.ldc2_w i, 3)) (hn : pc + 3 = pn) (k : mb_Ev l G own cc nL ret d pn lv (.inr (.inl v) :: st) h res) : mb_Ev l G own cc nL ret d pc lv (st) h res := by
  subst hn
  exact fun p e R s m args below meth c H locs ls C hS hw hl ol os => lv_ldc2 C.1 C.2.1 C.2.2.2.1 (C.2.2.2.2.1 _ hc) dg (k p e R s m args below meth c H locs ls C hS hw hl ol ⟨trivial, os⟩)
theorem mb_iload_n {kk : Fin 4} {i : Nat} {x : Int32} (j : Nat) (dg : decode cc pc = .ok (.iload_n kk, 1)) (hi : (kk : Nat) = i) (hj : lv[j]? = some (i, .inl x)) (hn : pc + 1 = pn) (k : mb_Ev l G own cc nL ret d pn lv (.inl x :: st) h res) : mb_Ev l G own cc nL ret d pc lv (st) h res := by
  subst hn
  exact fun p e R s m args below meth c H locs ls C hS hw hl ol os => lv_iload_n C.1 C.2.1 dg hi (lv_at hl j (mb_lat hj)) (k p e R s m args below meth c H locs ls C hS hw hl ol ⟨trivial, os⟩)
theorem mb_iload {i : Nat} {x : Int32} (j : Nat) (dg : decode cc pc = .ok (.iload i, 2)) (hj : lv[j]? = some (i, .inl x)) (hn : pc + 2 = pn) (k : mb_Ev l G own cc nL ret d pn lv (.inl x :: st) h res) : mb_Ev l G own cc nL ret d pc lv (st) h res := by
  subst hn
  exact fun p e R s m args below meth c H locs ls C hS hw hl ol os => lv_iload C.1 C.2.1 dg (lv_at hl j (mb_lat hj)) (k p e R s m args below meth c H locs ls C hS hw hl ol ⟨trivial, os⟩)
theorem mb_lload_n {kk : Fin 4} {i : Nat} {x : Int64} (j : Nat) (dg : decode cc pc = .ok (.lload_n kk, 1)) (hi : (kk : Nat) = i) (hj : lv[j]? = some (i, .inr (.inl x))) (hn : pc + 1 = pn) (k : mb_Ev l G own cc nL ret d pn lv (.inr (.inl x) :: st) h res) : mb_Ev l G own cc nL ret d pc lv (st) h res := by
  subst hn
  exact fun p e R s m args below meth c H locs ls C hS hw hl ol os => lv_lload_n C.1 C.2.1 dg hi (lv_at hl j (mb_lat hj)) (k p e R s m args below meth c H locs ls C hS hw hl ol ⟨trivial, os⟩)
theorem mb_lload {i : Nat} {x : Int64} (j : Nat) (dg : decode cc pc = .ok (.lload i, 2)) (hj : lv[j]? = some (i, .inr (.inl x))) (hn : pc + 2 = pn) (k : mb_Ev l G own cc nL ret d pn lv (.inr (.inl x) :: st) h res) : mb_Ev l G own cc nL ret d pc lv (st) h res := by
  subst hn
  exact fun p e R s m args below meth c H locs ls C hS hw hl ol os => lv_lload C.1 C.2.1 dg (lv_at hl j (mb_lat hj)) (k p e R s m args below meth c H locs ls C hS hw hl ol ⟨trivial, os⟩)
theorem mb_aload_n {kk : Fin 4} {i : Nat} {t : mb_RF} (j : Nat) (dg : decode cc pc = .ok (.aload_n kk, 1)) (hi : (kk : Nat) = i) (hj : lv[j]? = some (i, .inr (.inr (some t)))) (hn : pc + 1 = pn) (k : mb_Ev l G own cc nL ret d pn lv (.inr (.inr (some t)) :: st) h res) : mb_Ev l G own cc nL ret d pc lv (st) h res := by
  subst hn
  exact fun p e R s m args below meth c H locs ls C hS hw hl ol os => lv_aload_n C.1 C.2.1 dg hi (lv_at hl j (mb_lat hj)) (k p e R s m args below meth c H locs ls C hS hw hl ol ⟨mb_lok ol hj, os⟩)
theorem mb_aload {i : Nat} {t : mb_RF} (j : Nat) (dg : decode cc pc = .ok (.aload i, 2)) (hj : lv[j]? = some (i, .inr (.inr (some t)))) (hn : pc + 2 = pn) (k : mb_Ev l G own cc nL ret d pn lv (.inr (.inr (some t)) :: st) h res) : mb_Ev l G own cc nL ret d pc lv (st) h res := by
  subst hn
  exact fun p e R s m args below meth c H locs ls C hS hw hl ol os => lv_aload C.1 C.2.1 dg (lv_at hl j (mb_lat hj)) (k p e R s m args below meth c H locs ls C hS hw hl ol ⟨mb_lok ol hj, os⟩)
theorem mb_aload_nN {kk : Fin 4} {i : Nat} (j : Nat) (dg : decode cc pc = .ok (.aload_n kk, 1)) (hi : (kk : Nat) = i) (hj : lv[j]? = some (i, mb_N)) (hn : pc + 1 = pn) (k : mb_Ev l G own cc nL ret d pn lv (mb_N :: st) h res) : mb_Ev l G own cc nL ret d pc lv (st) h res := by
  subst hn
  exact fun p e R s m args below meth c H locs ls C hS hw hl ol os => lv_aload_nN C.1 C.2.1 dg hi (lv_at hl j (mb_lat hj)) (k p e R s m args below meth c H locs ls C hS hw hl ol ⟨trivial, os⟩)
theorem mb_aloadN {i : Nat} (j : Nat) (dg : decode cc pc = .ok (.aload i, 2)) (hj : lv[j]? = some (i, mb_N)) (hn : pc + 2 = pn) (k : mb_Ev l G own cc nL ret d pn lv (mb_N :: st) h res) : mb_Ev l G own cc nL ret d pc lv (st) h res := by
  subst hn
  exact fun p e R s m args below meth c H locs ls C hS hw hl ol os => lv_aloadN C.1 C.2.1 dg (lv_at hl j (mb_lat hj)) (k p e R s m args below meth c H locs ls C hS hw hl ol ⟨trivial, os⟩)
theorem mb_istore_n {kk : Fin 4} {i : Nat} {x : Int32} {lv2 : List (Nat × mb_AV)} (dg : decode cc pc = .ok (.istore_n kk, 1)) (hi : (kk : Nat) = i) (hlt : i < nL) (hq : (i, (.inl x : mb_AV)) :: mb_st1 i lv = lv2) (hn : pc + 1 = pn) (k : mb_Ev l G own cc nL ret d pn lv2 st h res) : mb_Ev l G own cc nL ret d pc lv ((.inl x : mb_AV) :: st) h res := by
  subst hn; subst hq
  exact fun p e R s m args below meth c H locs ls C hS hw hl ol os => lv_istore_n C.1 C.2.1 dg hi hl hlt (congrArg (fun z => (i, mb_cz G ((.inl x : mb_AV))) :: z) (mb_st1_eq G i lv)) (fun ls2 hl2 => k p e R s m args below meth c H locs ls2 C hS hw hl2 (mb_st1_ok ol trivial) os.2)
theorem mb_istore {i : Nat} {x : Int32} {lv2 : List (Nat × mb_AV)} (dg : decode cc pc = .ok (.istore i, 2)) (hlt : i < nL) (hq : (i, (.inl x : mb_AV)) :: mb_st1 i lv = lv2) (hn : pc + 2 = pn) (k : mb_Ev l G own cc nL ret d pn lv2 st h res) : mb_Ev l G own cc nL ret d pc lv ((.inl x : mb_AV) :: st) h res := by
  subst hn; subst hq
  exact fun p e R s m args below meth c H locs ls C hS hw hl ol os => lv_istore C.1 C.2.1 dg hl hlt (congrArg (fun z => (i, mb_cz G ((.inl x : mb_AV))) :: z) (mb_st1_eq G i lv)) (fun ls2 hl2 => k p e R s m args below meth c H locs ls2 C hS hw hl2 (mb_st1_ok ol trivial) os.2)
theorem mb_lstore_n {kk : Fin 4} {i : Nat} {x : Int64} {lv2 : List (Nat × mb_AV)} (dg : decode cc pc = .ok (.lstore_n kk, 1)) (hi : (kk : Nat) = i) (hlt : i + 1 < nL) (hq : (i, (.inr (.inl x) : mb_AV)) :: mb_st2 i lv = lv2) (hn : pc + 1 = pn) (k : mb_Ev l G own cc nL ret d pn lv2 st h res) : mb_Ev l G own cc nL ret d pc lv ((.inr (.inl x) : mb_AV) :: st) h res := by
  subst hn; subst hq
  exact fun p e R s m args below meth c H locs ls C hS hw hl ol os => lv_lstore_n C.1 C.2.1 dg hi hl hlt (congrArg (fun z => (i, mb_cz G ((.inr (.inl x) : mb_AV))) :: z) (mb_st2_eq G i lv)) (fun ls2 hl2 => k p e R s m args below meth c H locs ls2 C hS hw hl2 (mb_st2_ok ol trivial) os.2)
theorem mb_lstore {i : Nat} {x : Int64} {lv2 : List (Nat × mb_AV)} (dg : decode cc pc = .ok (.lstore i, 2)) (hlt : i + 1 < nL) (hq : (i, (.inr (.inl x) : mb_AV)) :: mb_st2 i lv = lv2) (hn : pc + 2 = pn) (k : mb_Ev l G own cc nL ret d pn lv2 st h res) : mb_Ev l G own cc nL ret d pc lv ((.inr (.inl x) : mb_AV) :: st) h res := by
  subst hn; subst hq
  exact fun p e R s m args below meth c H locs ls C hS hw hl ol os => lv_lstore C.1 C.2.1 dg hl hlt (congrArg (fun z => (i, mb_cz G ((.inr (.inl x) : mb_AV))) :: z) (mb_st2_eq G i lv)) (fun ls2 hl2 => k p e R s m args below meth c H locs ls2 C hS hw hl2 (mb_st2_ok ol trivial) os.2)
theorem mb_astore_n {kk : Fin 4} {i : Nat} {t : mb_RF} {lv2 : List (Nat × mb_AV)} (dg : decode cc pc = .ok (.astore_n kk, 1)) (hi : (kk : Nat) = i) (hlt : i < nL) (hq : (i, (.inr (.inr (some t)) : mb_AV)) :: mb_st1 i lv = lv2) (hn : pc + 1 = pn) (k : mb_Ev l G own cc nL ret d pn lv2 st h res) : mb_Ev l G own cc nL ret d pc lv ((.inr (.inr (some t)) : mb_AV) :: st) h res := by
  subst hn; subst hq
  exact fun p e R s m args below meth c H locs ls C hS hw hl ol os => lv_astore_n C.1 C.2.1 dg hi hl hlt (congrArg (fun z => (i, mb_cz G ((.inr (.inr (some t)) : mb_AV))) :: z) (mb_st1_eq G i lv)) (fun ls2 hl2 => k p e R s m args below meth c H locs ls2 C hS hw hl2 (mb_st1_ok ol os.1) os.2)
theorem mb_astore {i : Nat} {t : mb_RF} {lv2 : List (Nat × mb_AV)} (dg : decode cc pc = .ok (.astore i, 2)) (hlt : i < nL) (hq : (i, (.inr (.inr (some t)) : mb_AV)) :: mb_st1 i lv = lv2) (hn : pc + 2 = pn) (k : mb_Ev l G own cc nL ret d pn lv2 st h res) : mb_Ev l G own cc nL ret d pc lv ((.inr (.inr (some t)) : mb_AV) :: st) h res := by
  subst hn; subst hq
  exact fun p e R s m args below meth c H locs ls C hS hw hl ol os => lv_astore C.1 C.2.1 dg hl hlt (congrArg (fun z => (i, mb_cz G ((.inr (.inr (some t)) : mb_AV))) :: z) (mb_st1_eq G i lv)) (fun ls2 hl2 => k p e R s m args below meth c H locs ls2 C hS hw hl2 (mb_st1_ok ol os.1) os.2)
theorem mb_astore_nN {kk : Fin 4} {i : Nat}  {lv2 : List (Nat × mb_AV)} (dg : decode cc pc = .ok (.astore_n kk, 1)) (hi : (kk : Nat) = i) (hlt : i < nL) (hq : (i, mb_N) :: mb_st1 i lv = lv2) (hn : pc + 1 = pn) (k : mb_Ev l G own cc nL ret d pn lv2 st h res) : mb_Ev l G own cc nL ret d pc lv (mb_N :: st) h res := by
  subst hn; subst hq
  exact fun p e R s m args below meth c H locs ls C hS hw hl ol os => lv_astore_nN C.1 C.2.1 dg hi hl hlt (congrArg (fun z => (i, mb_cz G (mb_N)) :: z) (mb_st1_eq G i lv)) (fun ls2 hl2 => k p e R s m args below meth c H locs ls2 C hS hw hl2 (mb_st1_ok ol trivial) os.2)
theorem mb_astoreN {i : Nat}  {lv2 : List (Nat × mb_AV)} (dg : decode cc pc = .ok (.astore i, 2)) (hlt : i < nL) (hq : (i, mb_N) :: mb_st1 i lv = lv2) (hn : pc + 2 = pn) (k : mb_Ev l G own cc nL ret d pn lv2 st h res) : mb_Ev l G own cc nL ret d pc lv (mb_N :: st) h res := by
  subst hn; subst hq
  exact fun p e R s m args below meth c H locs ls C hS hw hl ol os => lv_astoreN C.1 C.2.1 dg hl hlt (congrArg (fun z => (i, mb_cz G (mb_N)) :: z) (mb_st1_eq G i lv)) (fun ls2 hl2 => k p e R s m args below meth c H locs ls2 C hS hw hl2 (mb_st1_ok ol trivial) os.2)
theorem mb_iinc {i : Nat} {n : Int} {x v : Int32} {lv2 : List (Nat × mb_AV)} (j : Nat) (dg : decode cc pc = .ok (.iinc i n, 3)) (hj : lv[j]? = some (i, .inl x)) (hv : x + Int32.ofInt n = v) (hlt : i < nL) (hq : (i, (.inl v : mb_AV)) :: mb_st1 i lv = lv2) (hn : pc + 3 = pn) (k : mb_Ev l G own cc nL ret d pn lv2 st h res) : mb_Ev l G own cc nL ret d pc lv st h res := by
  subst hn; subst hq
  exact fun p e R s m args below meth c H locs ls C hS hw hl ol os => lv_iinc C.1 C.2.1 dg hl (mb_lat hj) hv hlt (congrArg (fun z => (i, Value.int v) :: z) (mb_st1_eq G i lv)) (fun ls2 hl2 => k p e R s m args below meth c H locs ls2 C hS hw hl2 (mb_st1_ok ol trivial) os)
theorem mb_iadd {x y : Int32} (dg : decode cc pc = .ok (.iadd, 1)) (hn : pc + 1 = pn) (k : mb_Ev l G own cc nL ret d pn lv (.inl (x + y) :: st) h res) : mb_Ev l G own cc nL ret d pc lv (.inl y :: .inl x :: st) h res := by
  subst hn
  exact fun p e R s m args below meth c H locs ls C hS hw hl ol os => lv_iadd C.1 C.2.1 dg (k p e R s m args below meth c H locs ls C hS hw hl ol ⟨trivial, os.2.2⟩)
theorem mb_isub {x y : Int32} (dg : decode cc pc = .ok (.isub, 1)) (hn : pc + 1 = pn) (k : mb_Ev l G own cc nL ret d pn lv (.inl (x - y) :: st) h res) : mb_Ev l G own cc nL ret d pc lv (.inl y :: .inl x :: st) h res := by
  subst hn
  exact fun p e R s m args below meth c H locs ls C hS hw hl ol os => lv_isub C.1 C.2.1 dg (k p e R s m args below meth c H locs ls C hS hw hl ol ⟨trivial, os.2.2⟩)
theorem mb_imul {x y : Int32} (dg : decode cc pc = .ok (.imul, 1)) (hn : pc + 1 = pn) (k : mb_Ev l G own cc nL ret d pn lv (.inl (x * y) :: st) h res) : mb_Ev l G own cc nL ret d pc lv (.inl y :: .inl x :: st) h res := by
  subst hn
  exact fun p e R s m args below meth c H locs ls C hS hw hl ol os => lv_imul C.1 C.2.1 dg (k p e R s m args below meth c H locs ls C hS hw hl ol ⟨trivial, os.2.2⟩)
theorem mb_iand {x y : Int32} (dg : decode cc pc = .ok (.iand, 1)) (hn : pc + 1 = pn) (k : mb_Ev l G own cc nL ret d pn lv (.inl (x &&& y) :: st) h res) : mb_Ev l G own cc nL ret d pc lv (.inl y :: .inl x :: st) h res := by
  subst hn
  exact fun p e R s m args below meth c H locs ls C hS hw hl ol os => lv_iand C.1 C.2.1 dg (k p e R s m args below meth c H locs ls C hS hw hl ol ⟨trivial, os.2.2⟩)
theorem mb_ior {x y : Int32} (dg : decode cc pc = .ok (.ior, 1)) (hn : pc + 1 = pn) (k : mb_Ev l G own cc nL ret d pn lv (.inl (x ||| y) :: st) h res) : mb_Ev l G own cc nL ret d pc lv (.inl y :: .inl x :: st) h res := by
  subst hn
  exact fun p e R s m args below meth c H locs ls C hS hw hl ol os => lv_ior C.1 C.2.1 dg (k p e R s m args below meth c H locs ls C hS hw hl ol ⟨trivial, os.2.2⟩)
theorem mb_ixor {x y : Int32} (dg : decode cc pc = .ok (.ixor, 1)) (hn : pc + 1 = pn) (k : mb_Ev l G own cc nL ret d pn lv (.inl (x ^^^ y) :: st) h res) : mb_Ev l G own cc nL ret d pc lv (.inl y :: .inl x :: st) h res := by
  subst hn
  exact fun p e R s m args below meth c H locs ls C hS hw hl ol os => lv_ixor C.1 C.2.1 dg (k p e R s m args below meth c H locs ls C hS hw hl ol ⟨trivial, os.2.2⟩)
theorem mb_ladd {x y : Int64} (dg : decode cc pc = .ok (.ladd, 1)) (hn : pc + 1 = pn) (k : mb_Ev l G own cc nL ret d pn lv (.inr (.inl (x + y)) :: st) h res) : mb_Ev l G own cc nL ret d pc lv (.inr (.inl y) :: .inr (.inl x) :: st) h res := by
  subst hn
  exact fun p e R s m args below meth c H locs ls C hS hw hl ol os => lv_ladd C.1 C.2.1 dg (k p e R s m args below meth c H locs ls C hS hw hl ol ⟨trivial, os.2.2⟩)
theorem mb_lmul {x y : Int64} (dg : decode cc pc = .ok (.lmul, 1)) (hn : pc + 1 = pn) (k : mb_Ev l G own cc nL ret d pn lv (.inr (.inl (x * y)) :: st) h res) : mb_Ev l G own cc nL ret d pc lv (.inr (.inl y) :: .inr (.inl x) :: st) h res := by
  subst hn
  exact fun p e R s m args below meth c H locs ls C hS hw hl ol os => lv_lmul C.1 C.2.1 dg (k p e R s m args below meth c H locs ls C hS hw hl ol ⟨trivial, os.2.2⟩)
theorem mb_ineg {x : Int32} (dg : decode cc pc = .ok (.ineg, 1)) (hn : pc + 1 = pn) (k : mb_Ev l G own cc nL ret d pn lv (.inl (-x) :: st) h res) : mb_Ev l G own cc nL ret d pc lv (.inl x :: st) h res := by
  subst hn
  exact fun p e R s m args below meth c H locs ls C hS hw hl ol os => lv_ineg C.1 C.2.1 dg (k p e R s m args below meth c H locs ls C hS hw hl ol ⟨trivial, os.2⟩)
theorem mb_i2l {x : Int32} (dg : decode cc pc = .ok (.i2l, 1)) (hn : pc + 1 = pn) (k : mb_Ev l G own cc nL ret d pn lv (.inr (.inl x.toInt64) :: st) h res) : mb_Ev l G own cc nL ret d pc lv (.inl x :: st) h res := by
  subst hn
  exact fun p e R s m args below meth c H locs ls C hS hw hl ol os => lv_i2l C.1 C.2.1 dg rfl (k p e R s m args below meth c H locs ls C hS hw hl ol ⟨trivial, os.2⟩)
theorem mb_l2i {x : Int64} (dg : decode cc pc = .ok (.l2i, 1)) (hn : pc + 1 = pn) (k : mb_Ev l G own cc nL ret d pn lv (.inl x.toInt32 :: st) h res) : mb_Ev l G own cc nL ret d pc lv (.inr (.inl x) :: st) h res := by
  subst hn
  exact fun p e R s m args below meth c H locs ls C hS hw hl ol os => lv_l2i C.1 C.2.1 dg rfl (k p e R s m args below meth c H locs ls C hS hw hl ol ⟨trivial, os.2⟩)
theorem mb_i2c {x : Int32} (dg : decode cc pc = .ok (.i2c, 1)) (hn : pc + 1 = pn) (k : mb_Ev l G own cc nL ret d pn lv (.inl (x.toUInt32 % 65536).toInt32 :: st) h res) : mb_Ev l G own cc nL ret d pc lv (.inl x :: st) h res := by
  subst hn
  exact fun p e R s m args below meth c H locs ls C hS hw hl ol os => lv_i2c C.1 C.2.1 dg rfl (k p e R s m args below meth c H locs ls C hS hw hl ol ⟨trivial, os.2⟩)
theorem mb_dup {v : mb_AV} (hc : mb_c2 v = false) (dg : decode cc pc = .ok (.dup, 1)) (hn : pc + 1 = pn) (k : mb_Ev l G own cc nL ret d pn lv (v :: v :: st) h res) : mb_Ev l G own cc nL ret d pc lv (v :: st) h res := by
  subst hn
  exact fun p e R s m args below meth c H locs ls C hS hw hl ol os => lv_dup C.1 C.2.1 dg (mb_cat1 G hc) (k p e R s m args below meth c H locs ls C hS hw hl ol ⟨os.1, os⟩)
theorem mb_dup2 {v w : mb_AV} (hc : mb_c2 v = false) (hc2 : mb_c2 w = false) (dg : decode cc pc = .ok (.dup2, 1)) (hn : pc + 1 = pn) (k : mb_Ev l G own cc nL ret d pn lv (v :: w :: v :: w :: st) h res) : mb_Ev l G own cc nL ret d pc lv (v :: w :: st) h res := by
  subst hn
  exact fun p e R s m args below meth c H locs ls C hS hw hl ol os => lv_dup2_11 C.1 C.2.1 dg (mb_cat1 G hc) (mb_cat1 G hc2) (k p e R s m args below meth c H locs ls C hS hw hl ol ⟨os.1, os.2.1, os⟩)
end MBR
