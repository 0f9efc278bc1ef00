section MBC
variable {l : Launch} {G : mb_G} {own : String} {cc : ByteArray} {nL : Nat} {ret : Option FieldType} {d pc pn : Nat} {lv : List (Nat × mb_AV)} {st : List mb_AV} {h : mb_AH} {res : mb_RS}
/-- the entry: a contract out of the walk from place 0 -/
theorem mb_entry {y : MethodName} {as : List mb_AV} (hy : plainName y.cls = true) (ho : y.cls = own) (hlen : (lg_sl (as.map (mb_cz G))).length ≤ nL) (hlv : lv_args 0 (as.map (mb_cz G)) = lv.map (mb_zq G)) (hok0 : lv.map (fun q => q.2) = as)
    (k : l.stackTraces = false → mb_Ev l G own cc nL ret d 0 lv [] h res) (hst : l.stackTraces = false) (hg : mb_gok G) : mb_Mt l G y cc nL ret d as h res := by
  have hok : ∀ q ∈ lv, q.2 ∈ as := fun q hq => by rw [← hok0]; exact List.mem_map.mpr ⟨q, hq, rfl⟩
  intro oks
  refine vx_ofW (cc := cc) (maxL := nL) (ret := ret) hy rfl ?_
  intro p e s m args below meth c s₁ B hml hx hv
  obtain ⟨rfl, hw, hK, hX⟩ := hv
  have hts := atoms_spec (ws := Cond.code y cc nL ret :: mb_GW) B.pre
  have hown : s.vm.findClass own = some m.cls := by rw [← ho]; exact findClass_of_methodNamed B.named
  have hl := lv_entry (as.map (mb_cz G)) (n := nL) hlen
  rw [lg_entry_eq]
  generalize (lg_sl (as.map (mb_cz G)) ++ List.replicate (nL - (lg_sl (as.map (mb_cz G))).length) Slot.unset).toArray = ls at hl ⊢
  rw [hlv] at hl
  have hoks : ∀ v ∈ as, mb_ok v := by
    clear hlen hlv hok hok0 k hl B hw hK hX hts
    induction as with
    | nil => intro v hv; cases hv
    | cons a r ih =>
      intro v hv
      rcases List.mem_cons.mp hv with rfl | q
      · exact oks.1
      · exact ih oks.2 v q
  exact k hst p e (mb_rm d res) s m _ below meth c s.heap [] ls ⟨B.exec, B.bytes, hml, hown, fun w hw9 => hts w (List.mem_cons_of_mem _ hw9), B.notSynchronized, B.returns, hx, ⟨Nat.le_refl _, Nat.le_refl _, Nat.le_refl _, Nat.le_refl _⟩, hK, hX, hst, hg⟩ va_S.rf hw hl (fun q hq => hoks _ (hok q hq)) trivial
theorem mb_XW_S {A : Nat → Prop} {s U : State} {H : Heap} {locs : List Loc} (hS : va_S A s.heap H locs) (hU : U.heap = H) (hW : s.WarmedH U.vm) (h : mb_XW A s) : mb_XW A U :=
  mb_XW_kept hW (by rw [hU]; exact hS.1) (fun q h1 h2 => by rw [hU]; exact hS.2.1 q h1 h2) h
/-- behind a call's run: it has come back, or thrown -/
theorem mb_fin {p : Program} {e : Env} {R : Room} {s : State} {m : MethodId} {args : Array Value} {below : List Frame} {meth : Method} {c : Code} {H : Heap} {locs : List Loc} {ls : Array Slot} {as9 : Array Value} {o9 : List mb_AV} {r : mb_RS}
    (C : mb_Cx p l R s m args meth c G own cc nL ret d res) (hS : va_S (mb_A G) s.heap H locs) (hl : lv_has ls nL (lv.map (mb_zq G))) (ol : ∀ q ∈ lv, mb_ok q.2) (os : mb_oks st)
    (hr : vx_Run p l e R s m args below meth c H locs 0 0 (mb_mc r) (mb_ms r) (F0 m pc ls (o9.map (mb_cz G))) (st.map (mb_cz G)) (mb_Qc G r as9) (mb_XC G r) (mb_A G))
    (kk : ∀ v : Option mb_AV, r.1 = .inl v → mb_Ev l G own cc nL ret d (pc + 3) lv (v.toList ++ st) r.2 res) (kx : ∀ E : String, r.1 = .inr E → res = (.inr E, r.2)) :
    W p l e R s m args below meth c H locs 0 0 (vx_MQ below (mb_Qc G res) (mb_XC G res) args s (mb_mc res) (mb_ms res) (mb_A G)) (F0 m pc ls (o9.map (mb_cz G))) := by
  intro T hT X
  rcases hr T hT X with ⟨v, st₀, t, T', L, h0, X', hL, e1, e2, ⟨⟨v9, hv9, ho9, hk9⟩, hwd, hF⟩, go⟩ | ⟨q, st₀, t, T', L, E, ce, h0, X', hL, e1, e2, ⟨hE, hwd, hF⟩, hce, hcv, hcl, go⟩
  · have hmc : mb_mc r = 0 := by unfold mb_mc; rw [hv9]
    have hms : mb_ms r = 0 := by unfold mb_ms; rw [hv9]
    rw [hmc, hms] at X'
    obtain ⟨-, -, k3⟩ := vx_keep (A1 := mb_A G) h0 e1 hS (fun _ _ z => z) (fun _ z => z) hL hF
    have hv : v = v9.map (mb_cz G) := by cases ho9; rfl
    subst hv
    have hst : ((v9.map (mb_cz G)).toList ++ st.map (mb_cz G)) = (v9.toList ++ st).map (mb_cz G) := by cases v9 <;> rfl
    have hoks : mb_oks (v9.toList ++ st) := by
      cases v9 with
      | none => exact os
      | some x9 => exact ⟨hk9.1, os⟩
    obtain ⟨t2, a1, b1⟩ := kk v9 hv9 p e R s m args below meth c T'.heap (locs ++ L) ls C k3 (by rw [e1]; exact hwd) hl ol hoks T' rfl X'
    rw [← hst] at a1
    exact ⟨t2, go t2 a1, b1⟩
  · obtain ⟨-, -, k3⟩ := vx_keep (A1 := mb_A G) h0 e1 hS (fun _ _ z => z) (fun _ z => z) hL hF
    have hres := kx E hE
    subst hres
    have hmc : mb_mc r = 1 := by unfold mb_mc; rw [hE]
    have hms : mb_ms r = 6 := by unfold mb_ms; rw [hE]
    have hx := vx_out (p := p) (l := l) (e := e) (R := R) (s := s) (m := m) (args := args) (below := below) (H := T'.heap) (locs := locs ++ L) (cells := 0 + mb_mc r) (slots := 0 + mb_ms r) (free := mb_A G) (ls := ls) (rest := st.map (mb_cz G)) (Qc := mb_Qc G (.inr E, r.2)) (XC := mb_XC G (.inr E, r.2)) (pc := pc) (mc := mb_mc (.inr E, r.2)) (ms := mb_ms (.inr E, r.2))
      (fun x hx9 => (C.2.2.2.2.2.2.2.1 x hx9).elim) C.2.2.2.2.2.1 (by rw [e1]; exact hce) hcv hcl
      (fun t9 ht9 _ => ⟨rfl, by rw [ht9, e1]; exact hwd, k3.F ht9⟩) k3.2.2 (by rw [hmc]; exact Nat.le_refl _) (by rw [hms]; exact Nat.le_refl _)
    obtain ⟨t2, a1, b1⟩ := hx T' rfl X'
    exact ⟨t2, go.trans a1, b1⟩
theorem mb_callV {idx nL2 d2 n k9 a9 b9 ci N : Nat} {y : MethodName} {cc2 : ByteArray} {ret2 : Option FieldType} {as : List mb_AV} {r : mb_RS} {C9 : String} {T9 : u_T} {fs : List Value}
    (hM : mb_Mt l G y cc2 nL2 ret2 d2 (mb_F k9 a9 b9 :: as) h r) (hgw : GoodIn mb_GW (wsV own idx C9 y (Cond.code y cc2 nL2 ret2 :: mb_GW)))
    (hd : y.cls = C9 ∧ y.cls ≠ "java/lang/invoke/MethodHandle" ∧ y.cls ≠ "java/lang/invoke/VarHandle" ∧ (parseMethodDescriptor y.desc).map (fun d => d.parameters.length) = some n) (hn : as.length = n)
    (hc : vwCl[ci]? = some (C9, T9, N)) (he : mb_eh G h (k9, a9, b9) = .inr (ci, fs)) (hd2 : d2 + 1 ≤ d) (hnl : nL2 ≤ 45) (hst : st.length ≤ 4) {o9 : List mb_AV} (ho : o9 = as.reverse ++ mb_F k9 a9 b9 :: st) (dg : decode cc pc = .ok (.invokevirtual idx, 3))
    (hres : ∀ E : String, r.1 = .inr E → res = (.inr E, r.2)) (kk : ∀ v : Option mb_AV, r.1 = .inl v → mb_Ev l G own cc nL ret d (pc + 3) lv (v.toList ++ st) r.2 res) : mb_Ev l G own cc nL ret d pc lv o9 h res := by
  subst ho
  intro p e R s m args below meth c H locs ls C hS hw hl ol os
  have os2 : mb_oks (mb_F k9 a9 b9 :: as) ∧ mb_oks st := by
    clear kk hres dg hd hn hM
    have key : ∀ (x y9 : List mb_AV), mb_oks (x ++ y9) → mb_oks x ∧ mb_oks y9 := by
      intro x
      induction x with
      | nil => intro y9 z; exact ⟨trivial, z⟩
      | cons a x ih => intro y9 z; exact ⟨⟨z.1, (ih y9 z.2).1⟩, (ih y9 z.2).2⟩
    have key3 : ∀ (x y9 : List mb_AV), mb_oks x → mb_oks y9 → mb_oks (x ++ y9) := by
      intro x
      induction x with
      | nil => intro y9 _ z; exact z
      | cons a x ih => intro y9 z z2; exact ⟨z.1, ih y9 z.2 z2⟩
    have key2 : ∀ (x : List mb_AV), mb_oks x.reverse → mb_oks x := by
      intro x
      induction x with
      | nil => intro _; trivial
      | cons a x ih =>
        intro z
        rw [List.reverse_cons] at z
        obtain ⟨z1, z2⟩ := key _ _ z
        exact ⟨z2.1, ih z1⟩
    obtain ⟨z1, z2⟩ := key _ _ os
    exact ⟨⟨z2.1, key2 _ z1⟩, z2.2⟩
  obtain ⟨q, hq⟩ := mb_at os2.1.1
  have hcls : mb_mc r ≤ mb_mc res ∧ mb_ms r ≤ mb_ms res := by
    cases hr1 : r.1 with
    | inl v => unfold mb_mc mb_ms; rw [hr1]; exact ⟨Nat.zero_le _, Nat.zero_le _⟩
    | inr E => rw [hres E hr1]; unfold mb_mc mb_ms; rw [hr1]; exact ⟨Nat.le_refl _, Nat.le_refl _⟩
  have hCr := C.2.2.2.2.2.2.2.2.1
  have hrun := vx_runV (p := p) (l := l) (e := e) (R := R) (s := s) (m := m) (args := args) (below := below) (meth := meth) (c := c) (H := H) (locs := locs) (cells := 0) (slots := 0) (b := G.2.2 (k9, a9, b9)) (As := as.map (mb_cz G)) (rest := st.map (mb_cz G)) (g := F0 m pc ls ((as.reverse ++ mb_F k9 a9 b9 :: st).map (mb_cz G))) ⟨C.1, C.2.1, C.2.2.1, C.2.2.2.1, C.2.2.2.2.1⟩ (hM os2.1)
    (cwV (Ts := mb_GW) n C.2.2.2.2.1 hgw rfl rfl rfl hd ⟨by show 8 + d2 + 1 ≤ _; omega, by show 8 + (nL2 + 11) + (128 + 64 * d2) ≤ _; omega⟩)
    ⟨mb_blind G _ h, va_recv C.2.2.2.2.2.2.2.2.2.1 hw.1 hc ((mb_wl_at G h hq).trans (congrArg (fun e9 => some (G.2.2 (k9, a9, b9), e9)) he)), fun U hU hW => ⟨rfl, by rw [hU]; exact hw, va_K.moved hW.alike C.2.2.2.2.2.2.2.2.2.1, mb_XW_S hS hU hW C.2.2.2.2.2.2.2.2.2.2.1⟩⟩
    rfl (by rw [List.length_map]; exact hn) hl.1 (by simp [List.map_append, List.map_reverse, mb_cz]) (lv_room (mb_rest G st 4 hst)) dg ⟨by have := hCr.2.2.1; omega, by have := hCr.2.2.2; omega⟩
  exact mb_fin C hS hl ol os2.2 hrun kk hres
theorem mb_callS {idx nL2 d2 n : Nat} {y : MethodName} {cc2 : ByteArray} {ret2 : Option FieldType} {as : List mb_AV} {r : mb_RS}
    (hM : mb_Mt l G y cc2 nL2 ret2 d2 as h r) (hgw : GoodIn mb_GW (wsS own idx y (Cond.code y cc2 nL2 ret2 :: mb_GW)))
    (hd : y.cls = own ∧ y.cls ≠ "java/lang/invoke/MethodHandle" ∧ y.cls ≠ "java/lang/invoke/VarHandle" ∧ (parseMethodDescriptor y.desc).map (fun d => d.parameters.length) = some n) (hn : as.length = n)
    (hd2 : d2 + 1 ≤ d) (hnl : nL2 ≤ 45) (hst : st.length ≤ 4) {o9 : List mb_AV} (ho : o9 = as.reverse ++ st) (dg : decode cc pc = .ok (.invokestatic idx, 3))
    (hres : ∀ E : String, r.1 = .inr E → res = (.inr E, r.2)) (kk : ∀ v : Option mb_AV, r.1 = .inl v → mb_Ev l G own cc nL ret d (pc + 3) lv (v.toList ++ st) r.2 res) : mb_Ev l G own cc nL ret d pc lv o9 h res := by
  subst ho
  intro p e R s m args below meth c H locs ls C hS hw hl ol os
  have os2 : mb_oks as ∧ mb_oks st := by
    clear kk hres dg hd hn hM
    have key : ∀ (x y9 : List mb_AV), mb_oks (x ++ y9) → mb_oks x ∧ mb_oks y9 := by
      intro x
      induction x with
      | nil => intro y9 z; exact ⟨trivial, z⟩
      | cons a x ih => intro y9 z; exact ⟨⟨z.1, (ih y9 z.2).1⟩, (ih y9 z.2).2⟩
    have key2 : ∀ (x : List mb_AV), mb_oks x.reverse → mb_oks x := by
      intro x
      induction x with
      | nil => intro _; trivial
      | cons a x ih =>
        intro z
        rw [List.reverse_cons] at z
        obtain ⟨z1, z2⟩ := key _ _ z
        exact ⟨z2.1, ih z1⟩
    obtain ⟨z1, z2⟩ := key _ _ os
    exact ⟨key2 _ z1, z2⟩
  have hcls : mb_mc r ≤ mb_mc res ∧ mb_ms r ≤ mb_ms res := by
    cases hr1 : r.1 with
    | inl v => unfold mb_mc mb_ms; rw [hr1]; exact ⟨Nat.zero_le _, Nat.zero_le _⟩
    | inr E => rw [hres E hr1]; unfold mb_mc mb_ms; rw [hr1]; exact ⟨Nat.le_refl _, Nat.le_refl _⟩
  have hCr := C.2.2.2.2.2.2.2.2.1
  have hrun := vx_runS (p := p) (l := l) (e := e) (R := R) (s := s) (m := m) (args := args) (below := below) (meth := meth) (c := c) (H := H) (locs := locs) (cells := 0) (slots := 0) (As := as.map (mb_cz G)) (rest := st.map (mb_cz G)) (g := F0 m pc ls ((as.reverse ++ st).map (mb_cz G))) ⟨C.1, C.2.1, C.2.2.1, C.2.2.2.1, C.2.2.2.2.1⟩ (hM os2.1)
    (cwS (Ts := mb_GW) n C.2.2.2.2.1 hgw rfl rfl rfl hd ⟨by show 8 + d2 + 1 ≤ _; omega, by show 8 + (nL2 + 11) + (128 + 64 * d2) ≤ _; omega⟩)
    ⟨mb_blind G _ h, fun U hU hW => ⟨rfl, by rw [hU]; exact hw, va_K.moved hW.alike C.2.2.2.2.2.2.2.2.2.1, mb_XW_S hS hU hW C.2.2.2.2.2.2.2.2.2.2.1⟩⟩
    rfl (by rw [List.length_map]; exact hn) hl.1 (by simp [List.map_append, List.map_reverse]) (lv_room (mb_rest G st 4 hst)) dg ⟨by have := hCr.2.2.1; omega, by have := hCr.2.2.2; omega⟩
  exact mb_fin C hS hl ol os2.2 hrun kk hres
/-- new X(text), thrown -/
theorem mb_throw {ik is ic : Nat} {cls text : String} {names : List String} (ho9 : own = RX5) (hcls : Bundle.fit cls = true) (hnames : ∀ n ∈ names, Bundle.fit n = true) (hln : names.length ≤ 3)
    (hk : Cond.classLink own ik cls ∈ mb_GW) (hini : Cond.initialized cls ∈ mb_GW) (hstr : (is, text) ∈ mb_strs) (hat : ∀ w ∈ vx_atS own ic cls names, w ∈ mb_GW ∨ w ∈ mb_FW) (hst : st.length ≤ 4)
    (d0 : decode cc pc = .ok (.new ik, 3)) (d3 : decode cc (pc + 3) = .ok (.dup, 1)) (d4 : decode cc (pc + 4) = .ok (.ldc is, 2)) (d6 : decode cc (pc + 6) = .ok (.invokespecial ic, 3)) (d9 : decode cc (pc + 9) = .ok (.athrow, 1)) :
    mb_Ev l G own cc nL ret d pc lv st h (.inr cls, h) := by
  subst ho9
  intro p e R s m args below meth c H locs ls C hS hw hl ol os
  obtain ⟨sa, hsa⟩ := C.2.2.2.2.2.2.2.2.2.2.1.2.2.1 _ hstr
  have hCr := C.2.2.2.2.2.2.2.2.1
  have hr1 := hCr.1
  have hr2 := hCr.2.1
  have hr3 : 1 ≤ R.cells := hCr.2.2.1
  have hr4 : 6 ≤ R.slots := hCr.2.2.2
  have hq := mb_rest G st 4 hst
  have hgood : ∀ w ∈ Cond.classLink RX5 ik cls :: Cond.initialized cls :: vx_atS RX5 ic cls names, vx_ot w = true := by
    intro w hw9
    have : w ∈ mb_GW ∨ w ∈ mb_FW := by
      rcases List.mem_cons.mp hw9 with rfl | hw9
      · exact Or.inl hk
      · rcases List.mem_cons.mp hw9 with rfl | hw9
        · exact Or.inl hini
        · exact hat w hw9
    unfold vx_ot
    rcases this with z | z
    · rw [(List.mem_filter.mp z).2, Bool.or_true]
    · have z2 := (List.mem_filter.mp z).2
      rw [Bool.and_eq_true] at z2
      rw [z2.1, Bool.true_or]
  refine vx_throwS (A := mb_A G) C.1 C.2.1 C.2.2.2.2.2.2.2.2.2.2.2.1 C.2.2.2.1 hcls hnames (C.2.2.2.2.1 _ hk) (C.2.2.2.2.1 _ hini) hsa (fun w hw9 => (hat w hw9).elim (C.2.2.2.2.1 _) (fun z => va_Nw.use (by have z2 := (List.mem_filter.mp z).2; rw [Bool.and_eq_true] at z2; exact z2.1) (C.2.2.2.2.2.2.2.2.2.2.1.2.2.2 w z))) hgood C.2.2.2.2.2.2.2.2.2.2.1.1 C.2.2.2.2.2.2.2.2.2.2.1.2.1 hS (hl.1.trans C.2.2.1.symm) d0 d3 d4 d6 d9
    (fun x hx9 => (C.2.2.2.2.2.2.2.1 x hx9).elim) ?_ ?_ (by omega) (by omega) C.2.2.2.2.2.1 ?_ hS.2.2 (Nat.le_refl _) (Nat.le_refl _)
  · omega
  · have hq2 : (List.map (fun v => v.category) (List.map (mb_cz G) st)).sum ≤ 8 := hq
    have : 13 * (names.length + 1) + 43 ≤ 95 := by omega
    omega
  · intro t hvm hz hkeep
    refine ⟨rfl, ⟨?_, hw.2⟩, ?_⟩
    · exact hw.1.kept (fun k9 q9 hq9 => hkeep _ (hw.1 k9 q9 hq9).lt)
    · exact ⟨Nat.le_trans hS.1 hz, fun q9 h1 h2 => by rw [hkeep q9 (Nat.lt_of_lt_of_le h1 hS.1)]; exact hS.2.1 q9 h1 h2⟩
theorem mb_throwW {ik is ic : Nat} {cls text : String} {names : List String} (ho9 : own = RX5) (hcls : Bundle.fit cls = true) (hnames : ∀ n ∈ names, Bundle.fit n = true) (hln : names.length ≤ 3)
    (hk : Cond.classLink own ik cls ∈ mb_GW) (hini : Cond.initialized cls ∈ mb_GW) (hstr : (is, text) ∈ mb_strs) (hat : ∀ w ∈ vx_atS own ic cls names, w ∈ mb_GW ∨ w ∈ mb_FW) (hst : st.length ≤ 4)
    (d0 : decode cc pc = .ok (.new ik, 3)) (d3 : decode cc (pc + 3) = .ok (.dup, 1)) (d4 : decode cc (pc + 4) = .ok (.ldc_w is, 3)) (d6 : decode cc (pc + 7) = .ok (.invokespecial ic, 3)) (d9 : decode cc (pc + 10) = .ok (.athrow, 1)) :
    mb_Ev l G own cc nL ret d pc lv st h (.inr cls, h) := by
  subst ho9
  intro p e R s m args below meth c H locs ls C hS hw hl ol os
  obtain ⟨sa, hsa⟩ := C.2.2.2.2.2.2.2.2.2.2.1.2.2.1 _ hstr
  have hCr := C.2.2.2.2.2.2.2.2.1
  have hr1 := hCr.1
  have hr2 := hCr.2.1
  have hr3 : 1 ≤ R.cells := hCr.2.2.1
  have hr4 : 6 ≤ R.slots := hCr.2.2.2
  have hq := mb_rest G st 4 hst
  have hgood : ∀ w ∈ Cond.classLink RX5 ik cls :: Cond.initialized cls :: vx_atS RX5 ic cls names, vx_ot w = true := by
    intro w hw9
    have : w ∈ mb_GW ∨ w ∈ mb_FW := by
      rcases List.mem_cons.mp hw9 with rfl | hw9
      · exact Or.inl hk
      · rcases List.mem_cons.mp hw9 with rfl | hw9
        · exact Or.inl hini
        · exact hat w hw9
    unfold vx_ot
    rcases this with z | z
    · rw [(List.mem_filter.mp z).2, Bool.or_true]
    · have z2 := (List.mem_filter.mp z).2
      rw [Bool.and_eq_true] at z2
      rw [z2.1, Bool.true_or]
  refine vx_throwSW (A := mb_A G) C.1 C.2.1 C.2.2.2.2.2.2.2.2.2.2.2.1 C.2.2.2.1 hcls hnames (C.2.2.2.2.1 _ hk) (C.2.2.2.2.1 _ hini) hsa (fun w hw9 => (hat w hw9).elim (C.2.2.2.2.1 _) (fun z => va_Nw.use (by have z2 := (List.mem_filter.mp z).2; rw [Bool.and_eq_true] at z2; exact z2.1) (C.2.2.2.2.2.2.2.2.2.2.1.2.2.2 w z))) hgood C.2.2.2.2.2.2.2.2.2.2.1.1 C.2.2.2.2.2.2.2.2.2.2.1.2.1 hS (hl.1.trans C.2.2.1.symm) d0 d3 d4 d6 d9
    (fun x hx9 => (C.2.2.2.2.2.2.2.1 x hx9).elim) ?_ ?_ (by omega) (by omega) C.2.2.2.2.2.1 ?_ hS.2.2 (Nat.le_refl _) (Nat.le_refl _)
  · omega
  · have hq2 : (List.map (fun v => v.category) (List.map (mb_cz G) st)).sum ≤ 8 := hq
    have : 13 * (names.length + 1) + 43 ≤ 95 := by omega
    omega
  · intro t hvm hz hkeep
    refine ⟨rfl, ⟨?_, hw.2⟩, ?_⟩
    · exact hw.1.kept (fun k9 q9 hq9 => hkeep _ (hw.1 k9 q9 hq9).lt)
    · exact ⟨Nat.le_trans hS.1 hz, fun q9 h1 h2 => by rw [hkeep q9 (Nat.lt_of_lt_of_le h1 hS.1)]; exact hS.2.1 q9 h1 h2⟩
end MBC
/-! the same, with what the function does -/
section MBK
variable {l : Launch} {G : mb_G} {own : String} {cc : ByteArray} {nL : Nat} {ret : Option FieldType} {d pc pn : Nat} {lv : List (Nat × mb_AV)} {st : List mb_AV} {h : mb_AH} {res : mb_RS}
theorem mb_kVI {idx nL2 d2 n k9 a9 b9 ci N : Nat} {y : MethodName} {cc2 : ByteArray} {ret2 : Option FieldType} {as : List mb_AV} {f : Option mb_RS} {C9 : String} {T9 : u_T} {fs : List Value}
    (hM : ∀ r, f = some r → mb_Mt l G y cc2 nL2 ret2 d2 (mb_F k9 a9 b9 :: as) h r) (hgw : GoodIn mb_GW (wsV own idx C9 y (Cond.code y cc2 nL2 ret2 :: mb_GW)))
    (hd : y.cls = C9 ∧ y.cls ≠ "java/lang/invoke/MethodHandle" ∧ y.cls ≠ "java/lang/invoke/VarHandle" ∧ (parseMethodDescriptor y.desc).map (fun d => d.parameters.length) = some n) (hn : as.length = n)
    (hc : vwCl[ci]? = some (C9, T9, N)) (he : mb_eh G h (k9, a9, b9) = .inr (ci, fs)) (hd2 : d2 + 1 ≤ d) (hnl : nL2 ≤ 45) (hst : st.length ≤ 4) {o9 : List mb_AV} (ho : o9 = as.reverse ++ mb_F k9 a9 b9 :: st) (dg : decode cc pc = .ok (.invokevirtual idx, 3))
    (hn9 : pc + 3 = pn) {K : Int32 → mb_AH → Option mb_RS} (hr : mb_cI f K = some res) (kk : ∀ (x : Int32) (h2 : mb_AH), K x h2 = some res → mb_Ev l G own cc nL ret d pn lv (.inl x :: st) h2 res) : mb_Ev l G own cc nL ret d pc lv o9 h res := by
  subst hn9
  cases hf : f with
  | none => rw [hf] at hr; cases hr
  | some r =>
    rw [hf] at hr
    obtain ⟨r1, h2⟩ := r
    refine mb_callV (hM (r1, h2) hf) hgw hd hn hc he hd2 hnl hst ho dg (fun E hE => ?_) (fun v hv => ?_)
    · dsimp only at hE
      subst hE
      exact (Option.some.inj hr).symm
    · dsimp only at hv
      subst hv
      rcases v with _ | x | x | x
      · cases hr
      · exact kk x h2 hr
      · cases hr
      · cases hr
theorem mb_kVL {idx nL2 d2 n k9 a9 b9 ci N : Nat} {y : MethodName} {cc2 : ByteArray} {ret2 : Option FieldType} {as : List mb_AV} {f : Option mb_RS} {C9 : String} {T9 : u_T} {fs : List Value}
    (hM : ∀ r, f = some r → mb_Mt l G y cc2 nL2 ret2 d2 (mb_F k9 a9 b9 :: as) h r) (hgw : GoodIn mb_GW (wsV own idx C9 y (Cond.code y cc2 nL2 ret2 :: mb_GW)))
    (hd : y.cls = C9 ∧ y.cls ≠ "java/lang/invoke/MethodHandle" ∧ y.cls ≠ "java/lang/invoke/VarHandle" ∧ (parseMethodDescriptor y.desc).map (fun d => d.parameters.length) = some n) (hn : as.length = n)
    (hc : vwCl[ci]? = some (C9, T9, N)) (he : mb_eh G h (k9, a9, b9) = .inr (ci, fs)) (hd2 : d2 + 1 ≤ d) (hnl : nL2 ≤ 45) (hst : st.length ≤ 4) {o9 : List mb_AV} (ho : o9 = as.reverse ++ mb_F k9 a9 b9 :: st) (dg : decode cc pc = .ok (.invokevirtual idx, 3))
    (hn9 : pc + 3 = pn) {K : Int64 → mb_AH → Option mb_RS} (hr : mb_cL f K = some res) (kk : ∀ (x : Int64) (h2 : mb_AH), K x h2 = some res → mb_Ev l G own cc nL ret d pn lv (.inr (.inl x) :: st) h2 res) : mb_Ev l G own cc nL ret d pc lv o9 h res := by
  subst hn9
  cases hf : f with
  | none => rw [hf] at hr; cases hr
  | some r =>
    rw [hf] at hr
    obtain ⟨r1, h2⟩ := r
    refine mb_callV (hM (r1, h2) hf) hgw hd hn hc he hd2 hnl hst ho dg (fun E hE => ?_) (fun v hv => ?_)
    · dsimp only at hE
      subst hE
      exact (Option.some.inj hr).symm
    · dsimp only at hv
      subst hv
      rcases v with _ | x | x | x
      · cases hr
      · cases hr
      · exact kk x h2 hr
      · cases hr
theorem mb_kVV {idx nL2 d2 n k9 a9 b9 ci N : Nat} {y : MethodName} {cc2 : ByteArray} {ret2 : Option FieldType} {as : List mb_AV} {f : Option mb_RS} {C9 : String} {T9 : u_T} {fs : List Value}
    (hM : ∀ r, f = some r → mb_Mt l G y cc2 nL2 ret2 d2 (mb_F k9 a9 b9 :: as) h r) (hgw : GoodIn mb_GW (wsV own idx C9 y (Cond.code y cc2 nL2 ret2 :: mb_GW)))
    (hd : y.cls = C9 ∧ y.cls ≠ "java/lang/invoke/MethodHandle" ∧ y.cls ≠ "java/lang/invoke/VarHandle" ∧ (parseMethodDescriptor y.desc).map (fun d => d.parameters.length) = some n) (hn : as.length = n)
    (hc : vwCl[ci]? = some (C9, T9, N)) (he : mb_eh G h (k9, a9, b9) = .inr (ci, fs)) (hd2 : d2 + 1 ≤ d) (hnl : nL2 ≤ 45) (hst : st.length ≤ 4) {o9 : List mb_AV} (ho : o9 = as.reverse ++ mb_F k9 a9 b9 :: st) (dg : decode cc pc = .ok (.invokevirtual idx, 3))
    (hn9 : pc + 3 = pn) {K : mb_AH → Option mb_RS} (hr : mb_cV f K = some res) (kk : ∀ (h2 : mb_AH), K h2 = some res → mb_Ev l G own cc nL ret d pn lv st h2 res) : mb_Ev l G own cc nL ret d pc lv o9 h res := by
  subst hn9
  cases hf : f with
  | none => rw [hf] at hr; cases hr
  | some r =>
    rw [hf] at hr
    obtain ⟨r1, h2⟩ := r
    refine mb_callV (hM (r1, h2) hf) hgw hd hn hc he hd2 hnl hst ho dg (fun E hE => ?_) (fun v hv => ?_)
    · dsimp only at hE
      subst hE
      exact (Option.some.inj hr).symm
    · dsimp only at hv
      subst hv
      rcases v with _ | x
      · exact kk h2 hr
      · cases hr
theorem mb_kVR {idx nL2 d2 n k9 a9 b9 ci N : Nat} {y : MethodName} {cc2 : ByteArray} {ret2 : Option FieldType} {as : List mb_AV} {f : Option mb_RS} {C9 : String} {T9 : u_T} {fs : List Value}
    (hM : ∀ r, f = some r → mb_Mt l G y cc2 nL2 ret2 d2 (mb_F k9 a9 b9 :: as) h r) (hgw : GoodIn mb_GW (wsV own idx C9 y (Cond.code y cc2 nL2 ret2 :: mb_GW)))
    (hd : y.cls = C9 ∧ y.cls ≠ "java/lang/invoke/MethodHandle" ∧ y.cls ≠ "java/lang/invoke/VarHandle" ∧ (parseMethodDescriptor y.desc).map (fun d => d.parameters.length) = some n) (hn : as.length = n)
    (hc : vwCl[ci]? = some (C9, T9, N)) (he : mb_eh G h (k9, a9, b9) = .inr (ci, fs)) (hd2 : d2 + 1 ≤ d) (hnl : nL2 ≤ 45) (hst : st.length ≤ 4) {o9 : List mb_AV} (ho : o9 = as.reverse ++ mb_F k9 a9 b9 :: st) (dg : decode cc pc = .ok (.invokevirtual idx, 3))
    (hn9 : pc + 3 = pn) {kd : Nat} {K0 : mb_AH → Option mb_RS} {K : Nat → Nat → mb_AH → Option mb_RS} (hr : mb_cR kd f K0 K = some res) (k0 : ∀ (h2 : mb_AH), K0 h2 = some res → mb_Ev l G own cc nL ret d pn lv (mb_N :: st) h2 res) (kk : ∀ (a b : Nat) (h2 : mb_AH), K a b h2 = some res → mb_Ev l G own cc nL ret d pn lv (mb_F kd a b :: st) h2 res) : mb_Ev l G own cc nL ret d pc lv o9 h res := by
  subst hn9
  cases hf : f with
  | none => rw [hf] at hr; cases hr
  | some r =>
    rw [hf] at hr
    obtain ⟨r1, h2⟩ := r
    refine mb_callV (hM (r1, h2) hf) hgw hd hn hc he hd2 hnl hst ho dg (fun E hE => ?_) (fun v hv => ?_)
    · dsimp only at hE
      subst hE
      exact (Option.some.inj hr).symm
    · dsimp only at hv
      subst hv
      rcases v with _ | x | x | _ | ⟨k8, a, b⟩
      · cases hr
      · cases hr
      · cases hr
      · exact k0 h2 hr
      · by_cases q : k8 = kd
        · subst q
          have hr2 : (if k8 = k8 then K a b h2 else none) = some res := hr
          rw [if_pos rfl] at hr2
          exact kk a b h2 hr2
        · have hr2 : (if k8 = kd then K a b h2 else none) = some res := hr
          rw [if_neg q] at hr2
          cases hr2
theorem mb_kSI {idx nL2 d2 n : Nat} {y : MethodName} {cc2 : ByteArray} {ret2 : Option FieldType} {as : List mb_AV} {f : Option mb_RS}
    (hM : ∀ r, f = some r → mb_Mt l G y cc2 nL2 ret2 d2 as h r) (hgw : GoodIn mb_GW (wsS own idx y (Cond.code y cc2 nL2 ret2 :: mb_GW)))
    (hd : y.cls = own ∧ y.cls ≠ "java/lang/invoke/MethodHandle" ∧ y.cls ≠ "java/lang/invoke/VarHandle" ∧ (parseMethodDescriptor y.desc).map (fun d => d.parameters.length) = some n) (hn : as.length = n)
    (hd2 : d2 + 1 ≤ d) (hnl : nL2 ≤ 45) (hst : st.length ≤ 4) {o9 : List mb_AV} (ho : o9 = as.reverse ++ st) (dg : decode cc pc = .ok (.invokestatic idx, 3))
    (hn9 : pc + 3 = pn) {K : Int32 → mb_AH → Option mb_RS} (hr : mb_cI f K = some res) (kk : ∀ (x : Int32) (h2 : mb_AH), K x h2 = some res → mb_Ev l G own cc nL ret d pn lv (.inl x :: st) h2 res) : mb_Ev l G own cc nL ret d pc lv o9 h res := by
  subst hn9
  cases hf : f with
  | none => rw [hf] at hr; cases hr
  | some r =>
    rw [hf] at hr
    obtain ⟨r1, h2⟩ := r
    refine mb_callS (hM (r1, h2) hf) hgw hd hn hd2 hnl hst ho dg (fun E hE => ?_) (fun v hv => ?_)
    · dsimp only at hE
      subst hE
      exact (Option.some.inj hr).symm
    · dsimp only at hv
      subst hv
      rcases v with _ | x | x | x
      · cases hr
      · exact kk x h2 hr
      · cases hr
      · cases hr
theorem mb_kSL {idx nL2 d2 n : Nat} {y : MethodName} {cc2 : ByteArray} {ret2 : Option FieldType} {as : List mb_AV} {f : Option mb_RS}
    (hM : ∀ r, f = some r → mb_Mt l G y cc2 nL2 ret2 d2 as h r) (hgw : GoodIn mb_GW (wsS own idx y (Cond.code y cc2 nL2 ret2 :: mb_GW)))
    (hd : y.cls = own ∧ y.cls ≠ "java/lang/invoke/MethodHandle" ∧ y.cls ≠ "java/lang/invoke/VarHandle" ∧ (parseMethodDescriptor y.desc).map (fun d => d.parameters.length) = some n) (hn : as.length = n)
    (hd2 : d2 + 1 ≤ d) (hnl : nL2 ≤ 45) (hst : st.length ≤ 4) {o9 : List mb_AV} (ho : o9 = as.reverse ++ st) (dg : decode cc pc = .ok (.invokestatic idx, 3))
    (hn9 : pc + 3 = pn) {K : Int64 → mb_AH → Option mb_RS} (hr : mb_cL f K = some res) (kk : ∀ (x : Int64) (h2 : mb_AH), K x h2 = some res → mb_Ev l G own cc nL ret d pn lv (.inr (.inl x) :: st) h2 res) : mb_Ev l G own cc nL ret d pc lv o9 h res := by
  subst hn9
  cases hf : f with
  | none => rw [hf] at hr; cases hr
  | some r =>
    rw [hf] at hr
    obtain ⟨r1, h2⟩ := r
    refine mb_callS (hM (r1, h2) hf) hgw hd hn hd2 hnl hst ho dg (fun E hE => ?_) (fun v hv => ?_)
    · dsimp only at hE
      subst hE
      exact (Option.some.inj hr).symm
    · dsimp only at hv
      subst hv
      rcases v with _ | x | x | x
      · cases hr
      · cases hr
      · exact kk x h2 hr
      · cases hr
theorem mb_kSV {idx nL2 d2 n : Nat} {y : MethodName} {cc2 : ByteArray} {ret2 : Option FieldType} {as : List mb_AV} {f : Option mb_RS}
    (hM : ∀ r, f = some r → mb_Mt l G y cc2 nL2 ret2 d2 as h r) (hgw : GoodIn mb_GW (wsS own idx y (Cond.code y cc2 nL2 ret2 :: mb_GW)))
    (hd : y.cls = own ∧ y.cls ≠ "java/lang/invoke/MethodHandle" ∧ y.cls ≠ "java/lang/invoke/VarHandle" ∧ (parseMethodDescriptor y.desc).map (fun d => d.parameters.length) = some n) (hn : as.length = n)
    (hd2 : d2 + 1 ≤ d) (hnl : nL2 ≤ 45) (hst : st.length ≤ 4) {o9 : List mb_AV} (ho : o9 = as.reverse ++ st) (dg : decode cc pc = .ok (.invokestatic idx, 3))
    (hn9 : pc + 3 = pn) {K : mb_AH → Option mb_RS} (hr : mb_cV f K = some res) (kk : ∀ (h2 : mb_AH), K h2 = some res → mb_Ev l G own cc nL ret d pn lv st h2 res) : mb_Ev l G own cc nL ret d pc lv o9 h res := by
  subst hn9
  cases hf : f with
  | none => rw [hf] at hr; cases hr
  | some r =>
    rw [hf] at hr
    obtain ⟨r1, h2⟩ := r
    refine mb_callS (hM (r1, h2) hf) hgw hd hn hd2 hnl hst ho dg (fun E hE => ?_) (fun v hv => ?_)
    · dsimp only at hE
      subst hE
      exact (Option.some.inj hr).symm
    · dsimp only at hv
      subst hv
      rcases v with _ | x
      · exact kk h2 hr
      · cases hr
theorem mb_kSR {idx nL2 d2 n : Nat} {y : MethodName} {cc2 : ByteArray} {ret2 : Option FieldType} {as : List mb_AV} {f : Option mb_RS}
    (hM : ∀ r, f = some r → mb_Mt l G y cc2 nL2 ret2 d2 as h r) (hgw : GoodIn mb_GW (wsS own idx y (Cond.code y cc2 nL2 ret2 :: mb_GW)))
    (hd : y.cls = own ∧ y.cls ≠ "java/lang/invoke/MethodHandle" ∧ y.cls ≠ "java/lang/invoke/VarHandle" ∧ (parseMethodDescriptor y.desc).map (fun d => d.parameters.length) = some n) (hn : as.length = n)
    (hd2 : d2 + 1 ≤ d) (hnl : nL2 ≤ 45) (hst : st.length ≤ 4) {o9 : List mb_AV} (ho : o9 = as.reverse ++ st) (dg : decode cc pc = .ok (.invokestatic idx, 3))
    (hn9 : pc + 3 = pn) {kd : Nat} {K0 : mb_AH → Option mb_RS} {K : Nat → Nat → mb_AH → Option mb_RS} (hr : mb_cR kd f K0 K = some res) (k0 : ∀ (h2 : mb_AH), K0 h2 = some res → mb_Ev l G own cc nL ret d pn lv (mb_N :: st) h2 res) (kk : ∀ (a b : Nat) (h2 : mb_AH), K a b h2 = some res → mb_Ev l G own cc nL ret d pn lv (mb_F kd a b :: st) h2 res) : mb_Ev l G own cc nL ret d pc lv o9 h res := by
  subst hn9
  cases hf : f with
  | none => rw [hf] at hr; cases hr
  | some r =>
    rw [hf] at hr
    obtain ⟨r1, h2⟩ := r
    refine mb_callS (hM (r1, h2) hf) hgw hd hn hd2 hnl hst ho dg (fun E hE => ?_) (fun v hv => ?_)
    · dsimp only at hE
      subst hE
      exact (Option.some.inj hr).symm
    · dsimp only at hv
      subst hv
      rcases v with _ | x | x | _ | ⟨k8, a, b⟩
      · cases hr
      · cases hr
      · cases hr
      · exact k0 h2 hr
      · by_cases q : k8 = kd
        · subst q
          have hr2 : (if k8 = k8 then K a b h2 else none) = some res := hr
          rw [if_pos rfl] at hr2
          exact kk a b h2 hr2
        · have hr2 : (if k8 = kd then K a b h2 else none) = some res := hr
          rw [if_neg q] at hr2
          cases hr2
end MBK
