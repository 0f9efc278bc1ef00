/-- which exceptions are none of which others -/
def mb_ncs : List (String × String) := [("java/lang/IllegalArgumentException", "java/lang/IllegalStateException"), ("java/lang/IllegalArgumentException", "java/lang/IndexOutOfBoundsException"), ("java/lang/IllegalStateException", "java/lang/IllegalArgumentException"), ("java/lang/IllegalStateException", "java/lang/IndexOutOfBoundsException"), ("java/lang/IndexOutOfBoundsException", "java/lang/IllegalArgumentException"), ("java/lang/IndexOutOfBoundsException", "java/lang/IllegalStateException")]
def mb_NC (U : State) : Prop := ∀ q ∈ mb_ncs, va_Nc q.1 q.2 U
def mb_Ph (G : mb_G) (as : List mb_AV) (h : mb_AH) : Array Value → State → Prop := fun a U => mb_Pc G as h a U ∧ mb_NC U
def mb_rh (d mc ms : Nat) : Room := { frames := 8 + d, cells := mc, slots := ms, locals := 128 + 64 * d }
/-- a helper of the law: it returns, whatever its call did -/
def mb_Mh (l : Launch) (G : mb_G) (y : MethodName) (cc : ByteArray) (nL : Nat) (hh : List (Nat × Nat × Nat × Nat)) (d mc ms : Nat) (as : List mb_AV) (h : mb_AH) (res : mb_RS) : Prop :=
  mb_oks as → vx_Met l y (Cond.codeWith y cc nL (some .int) hh :: mb_GW) (mb_rh d mc ms) (mb_Ph G as h) (mb_Qc G res) (mb_XC G res) mc ms (mb_A G)
/-- what holds all the time in a walk that calls -/
def mb_Lx (p : Program) (l : Launch) (s : State) (m : MethodId) (args : Array Value) (c : Code) (G : mb_G) (own : String) (cc : ByteArray) (nL : Nat) (A0 : Nat → Prop) : Prop :=
  p.tables.exec = Jvm.exec ∧ c.code = cc ∧ c.maxLocals = nL ∧ s.vm.findClass own = some m.cls ∧ (∀ w ∈ mb_GW, w.before args s = true) ∧ va_K G.1 vwCl (mb_tys G) s ∧ mb_XW (mb_A G) s ∧ mb_gok G ∧ (∀ q : Nat, mb_A G q → A0 q) ∧ (∀ q : Nat, q < s.heap.size → A0 q → mb_A G q) ∧ mb_NC s
section MBX
variable {p : Program} {l : Launch} {e : Env} {R : Room} {s : State} {m : MethodId} {args : Array Value} {below : List Frame} {meth : Method} {c : Code} {H : Heap} {locs : List Loc} {cells slots : Nat} {Q : State → Prop} {ls : Array Slot} {rest o9 : List Value}
variable {G : mb_G} {own : String} {cc : ByteArray} {nL pc : Nat} {A0 : Nat → Prop} {h : mb_AH} {r : mb_RS}
theorem mb_xfin (B : mb_Lx p l s m args c G own cc nL A0) (hS : va_S A0 s.heap H locs) {as9 : Array Value} {mc ms : Nat}
    (hr : vx_Run p l e R s m args below meth c H locs cells slots mc ms (F0 m pc ls o9) rest (mb_Qc G r as9) (mb_XC G r) (mb_A G))
    (kk : ∀ (v : Option mb_AV) (H1 : Heap) (locs1 : List Loc), r.1 = .inl v → mb_oks v.toList → mb_wd G r.2 H1 → va_S A0 s.heap H1 locs1 → H.size ≤ H1.size → (∀ q : Nat, q < H.size → ¬ mb_A G q → H1[q]? = H[q]?) → W p l e R s m args below meth c H1 locs1 (cells + mc) (slots + ms) Q (F0 m (pc + 3) ls ((v.map (mb_cz G)).toList ++ rest)))
    (kx : ∀ (E : String) (ce : Cell) (q9 : Addr) (H1 : Heap) (locs1 : List Loc), r.1 = .inr E → mb_wd G r.2 H1 → va_S A0 s.heap H1 locs1 → H.size ≤ H1.size → (∀ q : Nat, q < H.size → ¬ mb_A G q → H1[q]? = H[q]?) → H1[q9]? = some ce → ce.vm = .none → s.vm.findClass E = some ce.cls → vx_W p l e R s m args below meth c H1 locs1 (cells + mc) (slots + ms) Q (F0 m pc ls rest) q9) :
    W p l e R s m args below meth c H locs cells slots Q (F0 m pc ls o9) := by
  intro T hT X
  rcases hr T hT X with ⟨v, st₀, t, T', L, h0, X', hL, e1, e2, ⟨⟨v9, hv9, ho9, hk9⟩, hwd, hF⟩, go⟩ | ⟨q, st₀, t, T', L, E, ce, h0, X', hL, e1, e2, ⟨hE, hwd, hF⟩, hce, hcv, hcl, go⟩
  · obtain ⟨k1, k2, k3⟩ := vx_keep (A1 := mb_A G) h0 e1 hS (fun q _ z => B.2.2.2.2.2.2.2.2.1 q z) (fun q z => B.2.2.2.2.2.2.2.2.1 q z) hL hF
    have hv : v = v9.map (mb_cz G) := by cases ho9; rfl
    subst hv
    obtain ⟨t2, a1, b1⟩ := kk v9 T'.heap (locs ++ L) hv9 hk9 (by rw [e1]; exact hwd) k3 k1 k2 T' rfl X'
    exact ⟨t2, go t2 a1, b1⟩
  · obtain ⟨k1, k2, k3⟩ := vx_keep (A1 := mb_A G) h0 e1 hS (fun q _ z => B.2.2.2.2.2.2.2.2.1 q z) (fun q z => B.2.2.2.2.2.2.2.2.1 q z) hL hF
    obtain ⟨t2, a1, b1⟩ := kx E ce q T'.heap (locs ++ L) hE (by rw [e1]; exact hwd) k3 k1 k2 (by rw [e1]; exact hce) hcv hcl T' rfl X'
    exact ⟨t2, go.trans a1, b1⟩
theorem mb_xX (B : mb_Lx p l s m args c G own cc nL A0) (hS : va_S A0 s.heap H locs) {U : State} (hU : U.heap = H) (hW : s.WarmedH U.vm) : mb_XW (mb_A G) U :=
  mb_XW_kept hW (by rw [hU]; exact hS.1) (fun q h1 h2 => by rw [hU]; exact hS.2.1 q h1 (fun z => h2 (B.2.2.2.2.2.2.2.2.2.1 q h1 z))) B.2.2.2.2.2.2.1
theorem mb_xV {idx nL2 d2 n k9 a9 b9 ci N : Nat} {y : MethodName} {cc2 : ByteArray} {ret2 : Option FieldType} {as : List mb_AV} {C9 : String} {T9 : u_T} {fs : List Value}
    (B : mb_Lx p l s m args c G own cc nL A0) (hS : va_S A0 s.heap H locs) (hw : mb_wd G h H) (hsz : ls.size = nL) (oks : mb_oks (mb_F k9 a9 b9 :: as)) (hrest : (rest.map fun v => v.category).sum ≤ 8)
    (hM : mb_Mt l G y cc2 nL2 ret2 d2 (mb_F k9 a9 b9 :: as) h r) (hgw : GoodIn mb_GW (wsV own idx C9 y (Cond.code y cc2 nL2 ret2 :: mb_GW)))
    (hd : y.cls = C9 ∧ y.cls ≠ "java/lang/invoke/MethodHandle" ∧ y.cls ≠ "java/lang/invoke/VarHandle" ∧ (parseMethodDescriptor y.desc).map (fun d => d.parameters.length) = some n) (hn : as.length = n)
    (hc : vwCl[ci]? = some (C9, T9, N)) (he : mb_eh G h (k9, a9, b9) = .inr (ci, fs)) (hroom : 8 + d2 + 1 ≤ R.frames ∧ 8 + (nL2 + 11) + (128 + 64 * d2) ≤ R.locals ∧ cells + mb_mc r ≤ R.cells ∧ slots + mb_ms r ≤ R.slots)
    (ho : o9 = (as.map (mb_cz G)).reverse ++ .ref (G.2.2 (k9, a9, b9)) :: rest) (dg : decode cc pc = .ok (.invokevirtual idx, 3))
    (kk : ∀ (v : Option mb_AV) (H1 : Heap) (locs1 : List Loc), r.1 = .inl v → mb_oks v.toList → mb_wd G r.2 H1 → va_S A0 s.heap H1 locs1 → H.size ≤ H1.size → (∀ q : Nat, q < H.size → ¬ mb_A G q → H1[q]? = H[q]?) → W p l e R s m args below meth c H1 locs1 (cells + mb_mc r) (slots + mb_ms r) Q (F0 m (pc + 3) ls ((v.map (mb_cz G)).toList ++ rest)))
    (kx : ∀ (E : String) (ce : Cell) (q9 : Addr) (H1 : Heap) (locs1 : List Loc), r.1 = .inr E → mb_wd G r.2 H1 → va_S A0 s.heap H1 locs1 → H.size ≤ H1.size → (∀ q : Nat, q < H.size → ¬ mb_A G q → H1[q]? = H[q]?) → H1[q9]? = some ce → ce.vm = .none → s.vm.findClass E = some ce.cls → vx_W p l e R s m args below meth c H1 locs1 (cells + mb_mc r) (slots + mb_ms r) Q (F0 m pc ls rest) q9) :
    W p l e R s m args below meth c H locs cells slots Q (F0 m pc ls o9) := by
  subst ho
  obtain ⟨q, hq⟩ := mb_at oks.1
  have hrun := vx_runV (p := p) (l := l) (e := e) (R := R) (s := s) (m := m) (args := args) (below := below) (meth := meth) (c := c) (H := H) (locs := locs) (cells := cells) (slots := slots) (b := G.2.2 (k9, a9, b9)) (As := as.map (mb_cz G)) (rest := rest) (g := F0 m pc ls ((as.map (mb_cz G)).reverse ++ .ref (G.2.2 (k9, a9, b9)) :: rest)) ⟨B.1, B.2.1, B.2.2.1, B.2.2.2.1, B.2.2.2.2.1⟩ (hM oks)
    (cwV (Ts := mb_GW) n B.2.2.2.2.1 hgw rfl rfl rfl hd ⟨hroom.1, hroom.2.1⟩)
    ⟨mb_blind G _ h, va_recv B.2.2.2.2.2.1 hw.1 hc ((mb_wl_at G h hq).trans (congrArg (fun e9 => some (G.2.2 (k9, a9, b9), e9)) he)), fun U hU hW => ⟨rfl, by rw [hU]; exact hw, va_K.moved hW.alike B.2.2.2.2.2.1, mb_xX B hS hU hW⟩⟩
    rfl (by rw [List.length_map]; exact hn) hsz rfl (lv_room hrest) dg hroom.2.2
  exact mb_xfin B hS hrun kk kx
theorem mb_blindh (G : mb_G) (as : List mb_AV) (h : mb_AH) : FrameBlind (mb_Ph G as h) := fun a U g mk q => ⟨mb_blind G as h a U g mk q.1, fun z hz => va_Nc.moved (u := U) (U := U.calling g mk a) (Vm.Alike.refl U.vm) (q.2 z hz)⟩
theorem mb_xH {idx nL2 d2 n mc ms : Nat} {y : MethodName} {cc2 : ByteArray} {hh : List (Nat × Nat × Nat × Nat)} {as : List mb_AV} {k : Int32} {h2 : mb_AH}
    (B : mb_Lx p l s m args c G own cc nL A0) (hS : va_S A0 s.heap H locs) (hw : mb_wd G h H) (hsz : ls.size = nL) (oks : mb_oks as) (hrest : (rest.map fun v => v.category).sum ≤ 8)
    (hM : mb_Mh l G y cc2 nL2 hh d2 mc ms as h (.inl (some (.inl k)), h2)) (h1 : Cond.methodLink own idx y ∈ mb_GW) (h3 : Cond.static y ∈ mb_GW) (h4 : Cond.initialized y.cls ∈ mb_GW) (h5 : Cond.codeWith y cc2 nL2 (some .int) hh ∈ mb_GW)
    (hd : y.cls ≠ "java/lang/invoke/MethodHandle" ∧ y.cls ≠ "java/lang/invoke/VarHandle" ∧ (parseMethodDescriptor y.desc).map (fun d => d.parameters.length) = some n) (hn : as.length = n)
    (hroom : 8 + d2 + 1 ≤ R.frames ∧ 8 + (nL2 + 11) + (128 + 64 * d2) ≤ R.locals ∧ cells + mc ≤ R.cells ∧ slots + ms ≤ R.slots)
    (ho : o9 = (as.map (mb_cz G)).reverse ++ rest) (dg : decode cc pc = .ok (.invokestatic idx, 3))
    (kk : ∀ (H1 : Heap) (locs1 : List Loc), mb_wd G h2 H1 → va_S A0 s.heap H1 locs1 → H.size ≤ H1.size → (∀ q : Nat, q < H.size → ¬ mb_A G q → H1[q]? = H[q]?) → W p l e R s m args below meth c H1 locs1 (cells + mc) (slots + ms) Q (F0 m (pc + 3) ls (.int k :: rest))) :
    W p l e R s m args below meth c H locs cells slots Q (F0 m pc ls o9) := by
  subst ho
  have hgw : GoodIn mb_GW (va_wsS own idx y (Cond.codeWith y cc2 nL2 (some .int) hh :: mb_GW)) := by
    apply mb_good
    intro w hw
    unfold va_wsS at hw
    simp only [List.cons_append, List.nil_append, List.mem_cons] at hw
    rcases hw with rfl | rfl | rfl | rfl | z
    · exact h1
    · exact h3
    · exact h4
    · exact h5
    · exact z
  have hrun := vx_runSX (p := p) (l := l) (e := e) (R := R) (s := s) (m := m) (args := args) (below := below) (meth := meth) (c := c) (H := H) (locs := locs) (cells := cells) (slots := slots) (As := as.map (mb_cz G)) (rest := rest) (g := F0 m pc ls ((as.map (mb_cz G)).reverse ++ rest)) ⟨B.1, B.2.1, B.2.2.1, B.2.2.2.1, B.2.2.2.2.1⟩ (hM oks)
    (vx_cwSW (Ts := mb_GW) n B.2.2.2.2.1 hgw rfl rfl rfl hd ⟨hroom.1, hroom.2.1⟩)
    ⟨mb_blindh G _ h, fun U hU hW => ⟨⟨rfl, by rw [hU]; exact hw, va_K.moved hW.alike B.2.2.2.2.2.1, mb_xX B hS hU hW⟩, fun z hz => va_Nc.moved hW.alike (B.2.2.2.2.2.2.2.2.2.2 z hz)⟩⟩
    rfl (by rw [List.length_map]; exact hn) hsz rfl (lv_room hrest) dg hroom.2.2
  refine mb_xfin B hS hrun (fun v H1 locs1 hv _ hwd hS1 hz hk => ?_) (fun E ce q9 H1 locs1 hv _ _ _ _ _ _ _ => ?_)
  · cases hv
    exact kk H1 locs1 hwd hS1 hz hk
  · cases hv
/-- the entry of a helper -/
theorem mb_hentry {y : MethodName} {hh : List (Nat × Nat × Nat × Nat)} {d mc ms : Nat} {as : List mb_AV} {lv : List (Nat × Value)} {res : mb_RS} (hy : plainName y.cls = true) (ho : y.cls = own) (hlen : (lg_sl (as.map (mb_cz G))).length ≤ nL) (hlv : lv_args 0 (as.map (mb_cz G)) = lv) (hg : mb_gok G)
    (k : ∀ (p : Program) (e : Env) (s : State) (m : MethodId) (args : Array Value) (below : List Frame) (meth : Method) (c : Code) (ls : Array Slot), mb_Lx p l s m args c G own cc nL (mb_A G) → meth.locks = false → meth.sig.returnType = some .int → c.exceptionTable.toList = tableOf hh → mb_wd G h s.heap → lv_has ls nL lv →
      W p l e (mb_rh d mc ms) s m args below meth c s.heap [] 0 0 (vx_MQ below (mb_Qc G res) (mb_XC G res) args s mc ms (mb_A G)) (F0 m 0 ls [])) (oks2 : mb_oks as → True) : mb_Mh l G y cc nL hh d mc ms as h res := by
  intro oks
  refine vx_ofWH (cc := cc) (maxL := nL) (ret := some .int) (hh := hh) hy rfl ?_
  intro p e s m args below meth c s₁ B hml hv
  obtain ⟨⟨rfl, hw, hK, hX⟩, hNC⟩ := hv
  have hts := atoms_spec (ws := Cond.codeWith y cc nL (some .int) hh :: mb_GW) B.pre
  have hown : s.vm.findClass own = some m.cls := by rw [← ho]; exact findClass_of_methodNamed B.named
  have htab := vx_table (x := y) B (hts _ List.mem_cons_self)
  have hl := lv_entry (as.map (mb_cz G)) (n := nL) hlen
  rw [lg_entry_eq]
  generalize (lg_sl (as.map (mb_cz G)) ++ List.replicate (nL - (lg_sl (as.map (mb_cz G))).length) Slot.unset).toArray = ls at hl ⊢
  rw [hlv] at hl
  exact k p e s m _ below meth c ls ⟨B.exec, B.bytes, hml, hown, fun w hw9 => hts w (List.mem_cons_of_mem _ hw9), hK, hX, hg, fun _ z => z, fun _ _ z => z, hNC⟩ B.notSynchronized B.returns htab hw hl
/-- out[0] = v, at the end of a helper -/
theorem mb_lastout (B : mb_Lx p l s m args c G own cc nL A0) (hS : va_S A0 s.heap H locs) (hw : mb_wd G h H) {x : Int64} (dg : decode cc pc = .ok (.lastore, 1))
    (kk : ∀ (H1 : Heap) (locs1 : List Loc), mb_wd G (mb_sL h 30 0 0 0 x) H1 → va_S A0 s.heap H1 locs1 → W p l e R s m args below meth c H1 locs1 cells slots Q (F0 m (pc + 1) ls rest)) (hA0 : A0 = mb_A G) :
    W p l e R s m args below meth c H locs cells slots Q (F0 m pc ls (.long x :: .int 0 :: .ref (G.2.2 (30, 0, 0)) :: rest)) := by
  subst hA0
  obtain ⟨q, hq⟩ := mb_at (t := (30, 0, 0)) ⟨by decide, by decide⟩
  refine va_last B.1 B.2.1 B.2.2.2.2.2.1 hw.1 (mb_D B.2.2.2.2.2.2.2.1 h) hS q 2 (mb_wl_at G h hq) rfl (by unfold vp_in; decide) dg (fun H1 locs1 hP1 _ hS1 => ?_)
  rw [mb_set hq (h2 := mb_sL h 30 0 0 0 x) (fun u _ hu => mb_sL_ne G h 30 0 0 _ _ u hu) (by show mb_ek G _ _ _ (30, 0, 0) = _; simp only [mb_sL_eq]; rfl)] at hP1
  exact kk H1 locs1 ⟨hP1, hw.2⟩ hS1
/-- a helper's end -/
theorem mb_hret {k : Int32} {d mc ms : Nat} (B : mb_Lx p l s m args c G own cc nL (mb_A G)) (hS : va_S (mb_A G) s.heap H locs) (hw : mb_wd G h H) (hret : meth.sig.returnType = some .int) (hlk : meth.locks = false) (dg : decode cc pc = .ok (.ireturn, 1)) :
    W p l e (mb_rh d mc ms) s m args below meth c H locs cells slots (vx_MQ below (mb_Qc G (.inl (some (.inl k)), h)) (mb_XC G (.inl (some (.inl k)), h)) args s cells slots (mb_A G)) (F0 m pc ls [.int k]) :=
  vx_ret (W.iret B.1 B.2.1 hret (fun t ht hW => ⟨⟨_, rfl, rfl, ⟨trivial, trivial⟩⟩, by rw [ht]; exact hw, hS.F ht⟩) hS.2.2 dg hlk)
end MBX
theorem wc_L_36 : Cond.classLink RL 36 "java/lang/IndexOutOfBoundsException" ∈ mb_GW := mb_tb 599 (by decide +kernel) (by decide +kernel)
theorem wc_L_13 : Cond.classLink RL 13 "java/lang/IllegalArgumentException" ∈ mb_GW := mb_tb 485 (by decide +kernel) (by decide +kernel)
theorem wc_L_23 : Cond.classLink RL 23 "java/lang/IllegalStateException" ∈ mb_GW := mb_tb 530 (by decide +kernel) (by decide +kernel)
theorem fc_IOE : Cond.castable "java/lang/IndexOutOfBoundsException" "java/lang/IndexOutOfBoundsException" ∈ mb_FW := List.mem_filter.mpr ⟨List.mem_append_right _ (List.mem_of_getElem? (i := 414) (by decide +kernel)), by decide +kernel⟩
theorem fc_IAE : Cond.castable "java/lang/IllegalArgumentException" "java/lang/IllegalArgumentException" ∈ mb_FW := List.mem_filter.mpr ⟨List.mem_append_right _ (List.mem_of_getElem? (i := 333) (by decide +kernel)), by decide +kernel⟩
theorem fc_ISE : Cond.castable "java/lang/IllegalStateException" "java/lang/IllegalStateException" ∈ mb_FW := List.mem_filter.mpr ⟨List.mem_append_right _ (List.mem_of_getElem? (i := 545) (by decide +kernel)), by decide +kernel⟩
theorem mn_L : Cond.initialized RL ∈ mb_GW := mb_tb 0 (by decide +kernel) (by decide +kernel)
theorem mw_L_setTable : Cond.codeWith yL_setTable cL_setTable 3 (some .int) [(0, 8, 11, 13)] ∈ mb_GW := mb_tb 484 (by decide +kernel) (by decide +kernel)
theorem mt_L_setTable : Cond.static yL_setTable ∈ mb_GW := mb_tb 483 (by decide +kernel) (by decide +kernel)
theorem wl_L_7 : Cond.methodLink RL 7 yX5_setTable ∈ mb_GW := mb_tb 486 (by decide +kernel) (by decide +kernel)
theorem mi_X5_setTable : Cond.instanceMethod yX5_setTable ∈ mb_GW := mb_tb 487 (by decide +kernel) (by decide +kernel)
theorem ms_X5_setTable : Cond.selects RX5 yX5_setTable yX5_setTable ∈ mb_GW := mb_tb 488 (by decide +kernel) (by decide +kernel)
theorem mc_X5_setTable : Cond.code yX5_setTable cX5_setTable 1 (some .int) ∈ mb_GW := mb_tb 489 (by decide +kernel) (by decide +kernel)
theorem mw_L_low : Cond.codeWith yL_low cL_low 4 (some .int) [(0, 9, 12, 13)] ∈ mb_GW := mb_tb 521 (by decide +kernel) (by decide +kernel)
theorem mt_L_low : Cond.static yL_low ∈ mb_GW := mb_tb 520 (by decide +kernel) (by decide +kernel)
theorem wl_L_15 : Cond.methodLink RL 15 yX5_low ∈ mb_GW := mb_tb 522 (by decide +kernel) (by decide +kernel)
theorem mi_X5_low : Cond.instanceMethod yX5_low ∈ mb_GW := mb_tb 523 (by decide +kernel) (by decide +kernel)
theorem ms_X5_low : Cond.selects RX5 yX5_low yX5_low ∈ mb_GW := mb_tb 524 (by decide +kernel) (by decide +kernel)
theorem mc_X5_low : Cond.code yX5_low cX5_low 2 (some .int) ∈ mb_GW := mb_tb 525 (by decide +kernel) (by decide +kernel)
theorem mw_L_addBerth : Cond.codeWith yL_addBerth cL_addBerth 7 (some .int) [(0, 14, 17, 13), (0, 14, 21, 23)] ∈ mb_GW := mb_tb 529 (by decide +kernel) (by decide +kernel)
theorem mt_L_addBerth : Cond.static yL_addBerth ∈ mb_GW := mb_tb 528 (by decide +kernel) (by decide +kernel)
theorem wl_L_19 : Cond.methodLink RL 19 yX5_addBerth ∈ mb_GW := mb_tb 531 (by decide +kernel) (by decide +kernel)
theorem mi_X5_addBerth : Cond.instanceMethod yX5_addBerth ∈ mb_GW := mb_tb 532 (by decide +kernel) (by decide +kernel)
theorem ms_X5_addBerth : Cond.selects RX5 yX5_addBerth yX5_addBerth ∈ mb_GW := mb_tb 533 (by decide +kernel) (by decide +kernel)
theorem mc_X5_addBerth : Cond.code yX5_addBerth cX5_addBerth 6 (some .int) ∈ mb_GW := mb_tb 534 (by decide +kernel) (by decide +kernel)
theorem mw_L_addBoat : Cond.codeWith yL_addBoat cL_addBoat 6 (some .int) [(0, 12, 15, 13), (0, 12, 19, 23)] ∈ mb_GW := mb_tb 562 (by decide +kernel) (by decide +kernel)
theorem mt_L_addBoat : Cond.static yL_addBoat ∈ mb_GW := mb_tb 561 (by decide +kernel) (by decide +kernel)
theorem wl_L_25 : Cond.methodLink RL 25 yX5_addBoat ∈ mb_GW := mb_tb 563 (by decide +kernel) (by decide +kernel)
theorem mi_X5_addBoat : Cond.instanceMethod yX5_addBoat ∈ mb_GW := mb_tb 564 (by decide +kernel) (by decide +kernel)
theorem ms_X5_addBoat : Cond.selects RX5 yX5_addBoat yX5_addBoat ∈ mb_GW := mb_tb 565 (by decide +kernel) (by decide +kernel)
theorem mc_X5_addBoat : Cond.code yX5_addBoat cX5_addBoat 5 (some .int) ∈ mb_GW := mb_tb 566 (by decide +kernel) (by decide +kernel)
theorem mw_L_set : Cond.codeWith yL_set cL_set 5 (some .int) [(0, 10, 13, 13)] ∈ mb_GW := mb_tb 583 (by decide +kernel) (by decide +kernel)
theorem mt_L_set : Cond.static yL_set ∈ mb_GW := mb_tb 582 (by decide +kernel) (by decide +kernel)
theorem wl_L_29 : Cond.methodLink RL 29 yX5_set ∈ mb_GW := mb_tb 584 (by decide +kernel) (by decide +kernel)
theorem mi_X5_set : Cond.instanceMethod yX5_set ∈ mb_GW := mb_tb 585 (by decide +kernel) (by decide +kernel)
theorem ms_X5_set : Cond.selects RX5 yX5_set yX5_set ∈ mb_GW := mb_tb 586 (by decide +kernel) (by decide +kernel)
theorem mc_X5_set : Cond.code yX5_set cX5_set 4 (some .int) ∈ mb_GW := mb_tb 587 (by decide +kernel) (by decide +kernel)
theorem mw_L_setRate : Cond.codeWith yL_setRate cL_setRate 5 (some .int) [(0, 10, 13, 36), (0, 10, 17, 13)] ∈ mb_GW := mb_tb 598 (by decide +kernel) (by decide +kernel)
theorem mt_L_setRate : Cond.static yL_setRate ∈ mb_GW := mb_tb 597 (by decide +kernel) (by decide +kernel)
theorem wl_L_33 : Cond.methodLink RL 33 yX5_setRate ∈ mb_GW := mb_tb 600 (by decide +kernel) (by decide +kernel)
theorem mi_X5_setRate : Cond.instanceMethod yX5_setRate ∈ mb_GW := mb_tb 601 (by decide +kernel) (by decide +kernel)
theorem ms_X5_setRate : Cond.selects RX5 yX5_setRate yX5_setRate ∈ mb_GW := mb_tb 602 (by decide +kernel) (by decide +kernel)
theorem mc_X5_setRate : Cond.code yX5_setRate cX5_setRate 4 (some .int) ∈ mb_GW := mb_tb 603 (by decide +kernel) (by decide +kernel)
theorem mw_L_berth : Cond.codeWith yL_berth cL_berth 5 (some .int) [(0, 10, 13, 36), (0, 10, 17, 13)] ∈ mb_GW := mb_tb 607 (by decide +kernel) (by decide +kernel)
theorem mt_L_berth : Cond.static yL_berth ∈ mb_GW := mb_tb 606 (by decide +kernel) (by decide +kernel)
theorem wl_L_38 : Cond.methodLink RL 38 yX5_berth ∈ mb_GW := mb_tb 608 (by decide +kernel) (by decide +kernel)
theorem mw_L_boat : Cond.codeWith yL_boat cL_boat 5 (some .int) [(0, 10, 13, 36), (0, 10, 17, 13)] ∈ mb_GW := mb_tb 611 (by decide +kernel) (by decide +kernel)
theorem mt_L_boat : Cond.static yL_boat ∈ mb_GW := mb_tb 610 (by decide +kernel) (by decide +kernel)
theorem wl_L_41 : Cond.methodLink RL 41 yX5_boat ∈ mb_GW := mb_tb 612 (by decide +kernel) (by decide +kernel)
theorem mw_L_fits : Cond.codeWith yL_fits cL_fits 5 (some .int) [(0, 17, 20, 36)] ∈ mb_GW := mb_tb 615 (by decide +kernel) (by decide +kernel)
theorem mt_L_fits : Cond.static yL_fits ∈ mb_GW := mb_tb 614 (by decide +kernel) (by decide +kernel)
theorem wl_L_44 : Cond.methodLink RL 44 yX5_fits ∈ mb_GW := mb_tb 616 (by decide +kernel) (by decide +kernel)
theorem mi_X5_fits : Cond.instanceMethod yX5_fits ∈ mb_GW := mb_tb 617 (by decide +kernel) (by decide +kernel)
theorem ms_X5_fits : Cond.selects RX5 yX5_fits yX5_fits ∈ mb_GW := mb_tb 618 (by decide +kernel) (by decide +kernel)
theorem mc_X5_fits : Cond.code yX5_fits cX5_fits 3 (some .boolean) ∈ mb_GW := mb_tb 619 (by decide +kernel) (by decide +kernel)
theorem mw_L_info : Cond.codeWith yL_info cL_info 4 (some .int) [(0, 9, 12, 13)] ∈ mb_GW := mb_tb 623 (by decide +kernel) (by decide +kernel)
theorem mt_L_info : Cond.static yL_info ∈ mb_GW := mb_tb 622 (by decide +kernel) (by decide +kernel)
theorem wl_L_48 : Cond.methodLink RL 48 yX5_info ∈ mb_GW := mb_tb 624 (by decide +kernel) (by decide +kernel)
theorem mw_L_place : Cond.codeWith yL_place cL_place 5 (some .int) [(0, 10, 13, 36), (0, 10, 17, 23)] ∈ mb_GW := mb_tb 627 (by decide +kernel) (by decide +kernel)
theorem mt_L_place : Cond.static yL_place ∈ mb_GW := mb_tb 626 (by decide +kernel) (by decide +kernel)
theorem wl_L_51 : Cond.methodLink RL 51 yX5_place ∈ mb_GW := mb_tb 628 (by decide +kernel) (by decide +kernel)
theorem mi_X5_place : Cond.instanceMethod yX5_place ∈ mb_GW := mb_tb 629 (by decide +kernel) (by decide +kernel)
theorem ms_X5_place : Cond.selects RX5 yX5_place yX5_place ∈ mb_GW := mb_tb 630 (by decide +kernel) (by decide +kernel)
theorem mc_X5_place : Cond.code yX5_place cX5_place 5 (some .int) ∈ mb_GW := mb_tb 631 (by decide +kernel) (by decide +kernel)
theorem mw_L_leave : Cond.codeWith yL_leave cL_leave 4 (some .int) [(0, 9, 12, 36), (0, 9, 15, 23)] ∈ mb_GW := mb_tb 637 (by decide +kernel) (by decide +kernel)
theorem mt_L_leave : Cond.static yL_leave ∈ mb_GW := mb_tb 636 (by decide +kernel) (by decide +kernel)
theorem wl_L_54 : Cond.methodLink RL 54 yX5_leave ∈ mb_GW := mb_tb 638 (by decide +kernel) (by decide +kernel)
theorem mi_X5_leave : Cond.instanceMethod yX5_leave ∈ mb_GW := mb_tb 639 (by decide +kernel) (by decide +kernel)
theorem ms_X5_leave : Cond.selects RX5 yX5_leave yX5_leave ∈ mb_GW := mb_tb 640 (by decide +kernel) (by decide +kernel)
theorem mc_X5_leave : Cond.code yX5_leave cX5_leave 4 (some .int) ∈ mb_GW := mb_tb 641 (by decide +kernel) (by decide +kernel)
theorem mw_L_change : Cond.codeWith yL_change cL_change 5 (some .int) [(0, 10, 13, 36), (0, 10, 17, 13), (0, 10, 21, 23)] ∈ mb_GW := mb_tb 645 (by decide +kernel) (by decide +kernel)
theorem mt_L_change : Cond.static yL_change ∈ mb_GW := mb_tb 644 (by decide +kernel) (by decide +kernel)
theorem wl_L_57 : Cond.methodLink RL 57 yX5_change ∈ mb_GW := mb_tb 646 (by decide +kernel) (by decide +kernel)
theorem mi_X5_change : Cond.instanceMethod yX5_change ∈ mb_GW := mb_tb 647 (by decide +kernel) (by decide +kernel)
theorem ms_X5_change : Cond.selects RX5 yX5_change yX5_change ∈ mb_GW := mb_tb 648 (by decide +kernel) (by decide +kernel)
theorem mc_X5_change : Cond.code yX5_change cX5_change 6 (some .int) ∈ mb_GW := mb_tb 649 (by decide +kernel) (by decide +kernel)
theorem mw_L_await : Cond.codeWith yL_await cL_await 4 (some .int) [(0, 9, 12, 36), (0, 9, 15, 23)] ∈ mb_GW := mb_tb 658 (by decide +kernel) (by decide +kernel)
theorem mt_L_await : Cond.static yL_await ∈ mb_GW := mb_tb 657 (by decide +kernel) (by decide +kernel)
theorem wl_L_60 : Cond.methodLink RL 60 yX5_await ∈ mb_GW := mb_tb 659 (by decide +kernel) (by decide +kernel)
theorem mi_X5_await : Cond.instanceMethod yX5_await ∈ mb_GW := mb_tb 660 (by decide +kernel) (by decide +kernel)
theorem ms_X5_await : Cond.selects RX5 yX5_await yX5_await ∈ mb_GW := mb_tb 661 (by decide +kernel) (by decide +kernel)
theorem mc_X5_await : Cond.code yX5_await cX5_await 3 (some .int) ∈ mb_GW := mb_tb 662 (by decide +kernel) (by decide +kernel)
theorem mw_L_offer : Cond.codeWith yL_offer cL_offer 4 (some .int) [(0, 9, 12, 36), (0, 9, 15, 23)] ∈ mb_GW := mb_tb 672 (by decide +kernel) (by decide +kernel)
theorem mt_L_offer : Cond.static yL_offer ∈ mb_GW := mb_tb 671 (by decide +kernel) (by decide +kernel)
theorem wl_L_63 : Cond.methodLink RL 63 yX5_offer ∈ mb_GW := mb_tb 673 (by decide +kernel) (by decide +kernel)
theorem mi_X5_offer : Cond.instanceMethod yX5_offer ∈ mb_GW := mb_tb 674 (by decide +kernel) (by decide +kernel)
theorem ms_X5_offer : Cond.selects RX5 yX5_offer yX5_offer ∈ mb_GW := mb_tb 675 (by decide +kernel) (by decide +kernel)
theorem mc_X5_offer : Cond.code yX5_offer cX5_offer 3 (some .int) ∈ mb_GW := mb_tb 676 (by decide +kernel) (by decide +kernel)
theorem mw_L_bestBerth : Cond.codeWith yL_bestBerth cL_bestBerth 4 (some .int) [(0, 9, 12, 36)] ∈ mb_GW := mb_tb 684 (by decide +kernel) (by decide +kernel)
theorem mt_L_bestBerth : Cond.static yL_bestBerth ∈ mb_GW := mb_tb 683 (by decide +kernel) (by decide +kernel)
theorem wl_L_66 : Cond.methodLink RL 66 yX5_bestBerth ∈ mb_GW := mb_tb 685 (by decide +kernel) (by decide +kernel)
theorem mi_X5_bestBerth : Cond.instanceMethod yX5_bestBerth ∈ mb_GW := mb_tb 686 (by decide +kernel) (by decide +kernel)
theorem ms_X5_bestBerth : Cond.selects RX5 yX5_bestBerth yX5_bestBerth ∈ mb_GW := mb_tb 687 (by decide +kernel) (by decide +kernel)
theorem mc_X5_bestBerth : Cond.code yX5_bestBerth cX5_bestBerth 2 (some .int) ∈ mb_GW := mb_tb 688 (by decide +kernel) (by decide +kernel)
theorem mw_L_pass : Cond.codeWith yL_pass cL_pass 4 (some .int) [(0, 9, 12, 13), (0, 9, 15, 23)] ∈ mb_GW := mb_tb 691 (by decide +kernel) (by decide +kernel)
theorem mt_L_pass : Cond.static yL_pass ∈ mb_GW := mb_tb 690 (by decide +kernel) (by decide +kernel)
theorem wl_L_69 : Cond.methodLink RL 69 yX5_pass ∈ mb_GW := mb_tb 692 (by decide +kernel) (by decide +kernel)
theorem mi_X5_pass : Cond.instanceMethod yX5_pass ∈ mb_GW := mb_tb 693 (by decide +kernel) (by decide +kernel)
theorem ms_X5_pass : Cond.selects RX5 yX5_pass yX5_pass ∈ mb_GW := mb_tb 694 (by decide +kernel) (by decide +kernel)
theorem mc_X5_pass : Cond.code yX5_pass cX5_pass 3 (some .int) ∈ mb_GW := mb_tb 695 (by decide +kernel) (by decide +kernel)
theorem mw_L_pay : Cond.codeWith yL_pay cL_pay 5 (some .int) [(0, 10, 13, 36), (0, 10, 17, 13)] ∈ mb_GW := mb_tb 755 (by decide +kernel) (by decide +kernel)
theorem mt_L_pay : Cond.static yL_pay ∈ mb_GW := mb_tb 754 (by decide +kernel) (by decide +kernel)
theorem wl_L_72 : Cond.methodLink RL 72 yX5_pay ∈ mb_GW := mb_tb 756 (by decide +kernel) (by decide +kernel)
theorem mi_X5_pay : Cond.instanceMethod yX5_pay ∈ mb_GW := mb_tb 757 (by decide +kernel) (by decide +kernel)
theorem ms_X5_pay : Cond.selects RX5 yX5_pay yX5_pay ∈ mb_GW := mb_tb 758 (by decide +kernel) (by decide +kernel)
theorem mc_X5_pay : Cond.code yX5_pay cX5_pay 4 (some .int) ∈ mb_GW := mb_tb 759 (by decide +kernel) (by decide +kernel)
theorem mw_L_charge : Cond.codeWith yL_charge cL_charge 5 (some .int) [(0, 10, 13, 36), (0, 10, 17, 13), (0, 10, 21, 23)] ∈ mb_GW := mb_tb 763 (by decide +kernel) (by decide +kernel)
theorem mt_L_charge : Cond.static yL_charge ∈ mb_GW := mb_tb 762 (by decide +kernel) (by decide +kernel)
theorem wl_L_75 : Cond.methodLink RL 75 yX5_charge ∈ mb_GW := mb_tb 764 (by decide +kernel) (by decide +kernel)
theorem mi_X5_charge : Cond.instanceMethod yX5_charge ∈ mb_GW := mb_tb 765 (by decide +kernel) (by decide +kernel)
theorem ms_X5_charge : Cond.selects RX5 yX5_charge yX5_charge ∈ mb_GW := mb_tb 766 (by decide +kernel) (by decide +kernel)
theorem mc_X5_charge : Cond.code yX5_charge cX5_charge 4 (some .int) ∈ mb_GW := mb_tb 767 (by decide +kernel) (by decide +kernel)
theorem mw_L_owesAfter : Cond.codeWith yL_owesAfter cL_owesAfter 5 (some .int) [(0, 10, 13, 36), (0, 10, 17, 13)] ∈ mb_GW := mb_tb 773 (by decide +kernel) (by decide +kernel)
theorem mt_L_owesAfter : Cond.static yL_owesAfter ∈ mb_GW := mb_tb 772 (by decide +kernel) (by decide +kernel)
theorem wl_L_78 : Cond.methodLink RL 78 yX5_owesAfter ∈ mb_GW := mb_tb 774 (by decide +kernel) (by decide +kernel)
theorem mi_X5_owesAfter : Cond.instanceMethod yX5_owesAfter ∈ mb_GW := mb_tb 775 (by decide +kernel) (by decide +kernel)
theorem ms_X5_owesAfter : Cond.selects RX5 yX5_owesAfter yX5_owesAfter ∈ mb_GW := mb_tb 776 (by decide +kernel) (by decide +kernel)
theorem mc_X5_owesAfter : Cond.code yX5_owesAfter cX5_owesAfter 3 (some .int) ∈ mb_GW := mb_tb 777 (by decide +kernel) (by decide +kernel)
theorem mw_L_groundsIn : Cond.codeWith yL_groundsIn cL_groundsIn 4 (some .int) [(0, 9, 12, 36)] ∈ mb_GW := mb_tb 780 (by decide +kernel) (by decide +kernel)
theorem mt_L_groundsIn : Cond.static yL_groundsIn ∈ mb_GW := mb_tb 779 (by decide +kernel) (by decide +kernel)
theorem wl_L_81 : Cond.methodLink RL 81 yX5_groundsIn ∈ mb_GW := mb_tb 781 (by decide +kernel) (by decide +kernel)
theorem mi_X5_groundsIn : Cond.instanceMethod yX5_groundsIn ∈ mb_GW := mb_tb 782 (by decide +kernel) (by decide +kernel)
theorem ms_X5_groundsIn : Cond.selects RX5 yX5_groundsIn yX5_groundsIn ∈ mb_GW := mb_tb 783 (by decide +kernel) (by decide +kernel)
theorem mc_X5_groundsIn : Cond.code yX5_groundsIn cX5_groundsIn 2 (some .int) ∈ mb_GW := mb_tb 784 (by decide +kernel) (by decide +kernel)
theorem mw_L_winterBerth : Cond.codeWith yL_winterBerth cL_winterBerth 4 (some .int) [(0, 9, 12, 36), (0, 9, 15, 23)] ∈ mb_GW := mb_tb 787 (by decide +kernel) (by decide +kernel)
theorem mt_L_winterBerth : Cond.static yL_winterBerth ∈ mb_GW := mb_tb 786 (by decide +kernel) (by decide +kernel)
theorem wl_L_84 : Cond.methodLink RL 84 yX5_winterBerth ∈ mb_GW := mb_tb 788 (by decide +kernel) (by decide +kernel)
theorem mi_X5_winterBerth : Cond.instanceMethod yX5_winterBerth ∈ mb_GW := mb_tb 789 (by decide +kernel) (by decide +kernel)
theorem ms_X5_winterBerth : Cond.selects RX5 yX5_winterBerth yX5_winterBerth ∈ mb_GW := mb_tb 790 (by decide +kernel) (by decide +kernel)
theorem mc_X5_winterBerth : Cond.code yX5_winterBerth cX5_winterBerth 2 (some .int) ∈ mb_GW := mb_tb 791 (by decide +kernel) (by decide +kernel)
theorem mw_L_wouldGoAshore : Cond.codeWith yL_wouldGoAshore cL_wouldGoAshore 3 (some .int) [(0, 8, 11, 23)] ∈ mb_GW := mb_tb 800 (by decide +kernel) (by decide +kernel)
theorem mt_L_wouldGoAshore : Cond.static yL_wouldGoAshore ∈ mb_GW := mb_tb 799 (by decide +kernel) (by decide +kernel)
theorem wl_L_87 : Cond.methodLink RL 87 yX5_wouldGoAshore ∈ mb_GW := mb_tb 801 (by decide +kernel) (by decide +kernel)
theorem mi_X5_wouldGoAshore : Cond.instanceMethod yX5_wouldGoAshore ∈ mb_GW := mb_tb 802 (by decide +kernel) (by decide +kernel)
theorem ms_X5_wouldGoAshore : Cond.selects RX5 yX5_wouldGoAshore yX5_wouldGoAshore ∈ mb_GW := mb_tb 803 (by decide +kernel) (by decide +kernel)
theorem mc_X5_wouldGoAshore : Cond.code yX5_wouldGoAshore cX5_wouldGoAshore 1 (some .int) ∈ mb_GW := mb_tb 804 (by decide +kernel) (by decide +kernel)
theorem mw_L_missingDepth : Cond.codeWith yL_missingDepth cL_missingDepth 5 (some .int) [(0, 10, 13, 36)] ∈ mb_GW := mb_tb 807 (by decide +kernel) (by decide +kernel)
theorem mt_L_missingDepth : Cond.static yL_missingDepth ∈ mb_GW := mb_tb 806 (by decide +kernel) (by decide +kernel)
theorem wl_L_90 : Cond.methodLink RL 90 yX5_missingDepth ∈ mb_GW := mb_tb 808 (by decide +kernel) (by decide +kernel)
theorem mi_X5_missingDepth : Cond.instanceMethod yX5_missingDepth ∈ mb_GW := mb_tb 809 (by decide +kernel) (by decide +kernel)
theorem ms_X5_missingDepth : Cond.selects RX5 yX5_missingDepth yX5_missingDepth ∈ mb_GW := mb_tb 810 (by decide +kernel) (by decide +kernel)
theorem mc_X5_missingDepth : Cond.code yX5_missingDepth cX5_missingDepth 5 (some .int) ∈ mb_GW := mb_tb 811 (by decide +kernel) (by decide +kernel)
theorem mw_L_type : Cond.codeWith yL_type cL_type 4 (some .int) [(0, 9, 12, 13), (0, 9, 15, 23)] ∈ mb_GW := mb_tb 818 (by decide +kernel) (by decide +kernel)
theorem mt_L_type : Cond.static yL_type ∈ mb_GW := mb_tb 817 (by decide +kernel) (by decide +kernel)
theorem wl_L_93 : Cond.methodLink RL 93 yX5_type ∈ mb_GW := mb_tb 819 (by decide +kernel) (by decide +kernel)
theorem mi_X5_type : Cond.instanceMethod yX5_type ∈ mb_GW := mb_tb 820 (by decide +kernel) (by decide +kernel)
theorem ms_X5_type : Cond.selects RX5 yX5_type yX5_type ∈ mb_GW := mb_tb 821 (by decide +kernel) (by decide +kernel)
theorem mc_X5_type : Cond.code yX5_type cX5_type 2 (some .int) ∈ mb_GW := mb_tb 822 (by decide +kernel) (by decide +kernel)
theorem mw_L_undo : Cond.codeWith yL_undo cL_undo 3 (some .int) [(0, 8, 11, 23)] ∈ mb_GW := mb_tb 831 (by decide +kernel) (by decide +kernel)
theorem mt_L_undo : Cond.static yL_undo ∈ mb_GW := mb_tb 830 (by decide +kernel) (by decide +kernel)
theorem wl_L_96 : Cond.methodLink RL 96 yX5_undo ∈ mb_GW := mb_tb 832 (by decide +kernel) (by decide +kernel)
theorem mi_X5_undo : Cond.instanceMethod yX5_undo ∈ mb_GW := mb_tb 833 (by decide +kernel) (by decide +kernel)
theorem ms_X5_undo : Cond.selects RX5 yX5_undo yX5_undo ∈ mb_GW := mb_tb 834 (by decide +kernel) (by decide +kernel)
theorem mc_X5_undo : Cond.code yX5_undo cX5_undo 1 (some .int) ∈ mb_GW := mb_tb 835 (by decide +kernel) (by decide +kernel)
set_option maxRecDepth 100000 in
set_option maxHeartbeats 4000000 in
theorem H_setTable_r {l : Launch} {G : mb_G} (hst : l.stackTraces = false) (hg : mb_gok G)  {h h1 : mb_AH} {v : Int32} (hf : F_X5_setTable  h = some (.inl (some (.inl v)), h1)) : mb_Mh l G yL_setTable cL_setTable 3 [(0, 8, 11, 13)] 5 0 0 [mb_F 0 0 0, mb_F 30 0 0] h (.inl (some (.inl 0)), mb_sL h1 30 0 0 0 v.toInt64) := by
  refine mb_hentry (own := RL) (lv := [(0, .ref (G.2.2 (0, 0, 0))), (1, .ref (G.2.2 (30, 0, 0)))]) (by decide +kernel) rfl (Nat.le_of_ble_eq_true rfl) rfl hg (fun p e s m args below meth c ls B hlk hrt htab hw hl => ?_) (fun _ => trivial)
  refine lv_aload_n B.1 B.2.1 dL_setTable_0 rfl (lv_at hl 1 rfl) ?_
  refine lv_iconst (v := 0) B.1 B.2.1 dL_setTable_1 (by decide) ?_
  refine lv_aload_n B.1 B.2.1 dL_setTable_2 rfl (lv_at hl 0 rfl) ?_
  refine mb_xV (as := []) (n := 0) (d2 := 4) (ci := 5) (N := 6) (rest := [.int 0, .ref (G.2.2 (30, 0, 0))]) B va_S.rf hw hl.1 ⟨⟨by decide, by decide⟩, trivial⟩ (Nat.le_of_ble_eq_true rfl) (C_X5_setTable hst hg hf) (mb_gV wl_L_7 mi_X5_setTable ms_X5_setTable mn_X5 mc_X5_setTable) (by decide +kernel) rfl rfl rfl ⟨by show 8 + 4 + 1 ≤ 8 + 5; decide, by show _ ≤ 128 + 64 * 5; decide, Nat.le_of_ble_eq_true rfl, Nat.le_of_ble_eq_true rfl⟩ rfl dL_setTable_3 (fun v H1 locs1 hv _ hwd hS1 _ _ => ?_) (fun E ce q9 H1 locs1 hv hwd hS1 _ _ hce hcv hcl => ?_)
  · cases hv
    refine lv_i2l B.1 B.2.1 dL_setTable_6 rfl ?_
    refine mb_lastout B hS1 hwd dL_setTable_7 (fun H2 locs2 hwd2 hS2 => ?_) rfl
    refine lv_goto (tgt := 14) B.1 B.2.1 dL_setTable_8 (by decide) ?_
    refine lv_iconst (v := 0) B.1 B.2.1 dL_setTable_14 (by decide) ?_
    exact mb_hret B hS2 hwd2 hrt hlk dL_setTable_15
  · cases hv
set_option maxRecDepth 100000 in
set_option maxHeartbeats 4000000 in
theorem H_setTable_t1 {l : Launch} {G : mb_G} (hst : l.stackTraces = false) (hg : mb_gok G)  {h h1 : mb_AH} (hf : F_X5_setTable  h = some (.inr "java/lang/IllegalArgumentException", h1)) : mb_Mh l G yL_setTable cL_setTable 3 [(0, 8, 11, 13)] 5 1 6 [mb_F 0 0 0, mb_F 30 0 0] h (.inl (some (.inl 1)), h1) := by
  refine mb_hentry (own := RL) (lv := [(0, .ref (G.2.2 (0, 0, 0))), (1, .ref (G.2.2 (30, 0, 0)))]) (by decide +kernel) rfl (Nat.le_of_ble_eq_true rfl) rfl hg (fun p e s m args below meth c ls B hlk hrt htab hw hl => ?_) (fun _ => trivial)
  refine lv_aload_n B.1 B.2.1 dL_setTable_0 rfl (lv_at hl 1 rfl) ?_
  refine lv_iconst (v := 0) B.1 B.2.1 dL_setTable_1 (by decide) ?_
  refine lv_aload_n B.1 B.2.1 dL_setTable_2 rfl (lv_at hl 0 rfl) ?_
  refine mb_xV (as := []) (n := 0) (d2 := 4) (ci := 5) (N := 6) (rest := [.int 0, .ref (G.2.2 (30, 0, 0))]) B va_S.rf hw hl.1 ⟨⟨by decide, by decide⟩, trivial⟩ (Nat.le_of_ble_eq_true rfl) (C_X5_setTable hst hg hf) (mb_gV wl_L_7 mi_X5_setTable ms_X5_setTable mn_X5 mc_X5_setTable) (by decide +kernel) rfl rfl rfl ⟨by show 8 + 4 + 1 ≤ 8 + 5; decide, by show _ ≤ 128 + 64 * 5; decide, Nat.le_of_ble_eq_true rfl, Nat.le_of_ble_eq_true rfl⟩ rfl dL_setTable_3 (fun v H1 locs1 hv _ hwd hS1 _ _ => ?_) (fun E ce q9 H1 locs1 hv hwd hS1 _ _ hce hcv hcl => ?_)
  · cases hv
  · cases hv
    refine vx_catch (name := "java/lang/IllegalArgumentException") B.2.2.2.1 [] ⟨0, 8, 11, 13⟩ [] (by rw [htab]; rfl) (fun z hz => nomatch hz) (by decide) (by decide) (B.2.2.2.2.1 _ wc_L_13) (va_Nw.use (by decide) (B.2.2.2.2.2.2.1.2.2.2 _ fc_IAE)) hce hcv hcl ?_
    refine lv_astore_n (lv' := [(2, .ref q9), (0, .ref (G.2.2 (0, 0, 0))), (1, .ref (G.2.2 (30, 0, 0)))]) B.1 B.2.1 dL_setTable_11 rfl hl (by decide) rfl (fun ls hl => ?_)
    refine lv_iconst (v := 1) B.1 B.2.1 dL_setTable_12 (by decide) ?_
    exact mb_hret B hS1 hwd hrt hlk dL_setTable_13
set_option maxRecDepth 100000 in
set_option maxHeartbeats 4000000 in
theorem H_low_r {l : Launch} {G : mb_G} (hst : l.stackTraces = false) (hg : mb_gok G) {x1 : Int32} {h h1 : mb_AH} {v : Int32} (hf : F_X5_low x1 h = some (.inl (some (.inl v)), h1)) : mb_Mh l G yL_low cL_low 4 [(0, 9, 12, 13)] 2 0 0 [mb_F 0 0 0, .inl x1, mb_F 30 0 0] h (.inl (some (.inl 0)), mb_sL h1 30 0 0 0 v.toInt64) := by
  refine mb_hentry (own := RL) (lv := [(0, .ref (G.2.2 (0, 0, 0))), (1, .int x1), (2, .ref (G.2.2 (30, 0, 0)))]) (by decide +kernel) rfl (Nat.le_of_ble_eq_true rfl) rfl hg (fun p e s m args below meth c ls B hlk hrt htab hw hl => ?_) (fun _ => trivial)
  refine lv_aload_n B.1 B.2.1 dL_low_0 rfl (lv_at hl 2 rfl) ?_
  refine lv_iconst (v := 0) B.1 B.2.1 dL_low_1 (by decide) ?_
  refine lv_aload_n B.1 B.2.1 dL_low_2 rfl (lv_at hl 0 rfl) ?_
  refine lv_iload_n B.1 B.2.1 dL_low_3 rfl (lv_at hl 1 rfl) ?_
  refine mb_xV (as := [.inl x1]) (n := 1) (d2 := 1) (ci := 5) (N := 6) (rest := [.int 0, .ref (G.2.2 (30, 0, 0))]) B va_S.rf hw hl.1 ⟨⟨by decide, by decide⟩, ⟨trivial, trivial⟩⟩ (Nat.le_of_ble_eq_true rfl) (C_X5_low hst hg hf) (mb_gV wl_L_15 mi_X5_low ms_X5_low mn_X5 mc_X5_low) (by decide +kernel) rfl rfl rfl ⟨by show 8 + 1 + 1 ≤ 8 + 2; decide, by show _ ≤ 128 + 64 * 2; decide, Nat.le_of_ble_eq_true rfl, Nat.le_of_ble_eq_true rfl⟩ rfl dL_low_4 (fun v H1 locs1 hv _ hwd hS1 _ _ => ?_) (fun E ce q9 H1 locs1 hv hwd hS1 _ _ hce hcv hcl => ?_)
  · cases hv
    refine lv_i2l B.1 B.2.1 dL_low_7 rfl ?_
    refine mb_lastout B hS1 hwd dL_low_8 (fun H2 locs2 hwd2 hS2 => ?_) rfl
    refine lv_goto (tgt := 15) B.1 B.2.1 dL_low_9 (by decide) ?_
    refine lv_iconst (v := 0) B.1 B.2.1 dL_low_15 (by decide) ?_
    exact mb_hret B hS2 hwd2 hrt hlk dL_low_16
  · cases hv
set_option maxRecDepth 100000 in
set_option maxHeartbeats 4000000 in
theorem H_low_t1 {l : Launch} {G : mb_G} (hst : l.stackTraces = false) (hg : mb_gok G) {x1 : Int32} {h h1 : mb_AH} (hf : F_X5_low x1 h = some (.inr "java/lang/IllegalArgumentException", h1)) : mb_Mh l G yL_low cL_low 4 [(0, 9, 12, 13)] 2 1 6 [mb_F 0 0 0, .inl x1, mb_F 30 0 0] h (.inl (some (.inl 1)), h1) := by
  refine mb_hentry (own := RL) (lv := [(0, .ref (G.2.2 (0, 0, 0))), (1, .int x1), (2, .ref (G.2.2 (30, 0, 0)))]) (by decide +kernel) rfl (Nat.le_of_ble_eq_true rfl) rfl hg (fun p e s m args below meth c ls B hlk hrt htab hw hl => ?_) (fun _ => trivial)
  refine lv_aload_n B.1 B.2.1 dL_low_0 rfl (lv_at hl 2 rfl) ?_
  refine lv_iconst (v := 0) B.1 B.2.1 dL_low_1 (by decide) ?_
  refine lv_aload_n B.1 B.2.1 dL_low_2 rfl (lv_at hl 0 rfl) ?_
  refine lv_iload_n B.1 B.2.1 dL_low_3 rfl (lv_at hl 1 rfl) ?_
  refine mb_xV (as := [.inl x1]) (n := 1) (d2 := 1) (ci := 5) (N := 6) (rest := [.int 0, .ref (G.2.2 (30, 0, 0))]) B va_S.rf hw hl.1 ⟨⟨by decide, by decide⟩, ⟨trivial, trivial⟩⟩ (Nat.le_of_ble_eq_true rfl) (C_X5_low hst hg hf) (mb_gV wl_L_15 mi_X5_low ms_X5_low mn_X5 mc_X5_low) (by decide +kernel) rfl rfl rfl ⟨by show 8 + 1 + 1 ≤ 8 + 2; decide, by show _ ≤ 128 + 64 * 2; decide, Nat.le_of_ble_eq_true rfl, Nat.le_of_ble_eq_true rfl⟩ rfl dL_low_4 (fun v H1 locs1 hv _ hwd hS1 _ _ => ?_) (fun E ce q9 H1 locs1 hv hwd hS1 _ _ hce hcv hcl => ?_)
  · cases hv
  · cases hv
    refine vx_catch (name := "java/lang/IllegalArgumentException") B.2.2.2.1 [] ⟨0, 9, 12, 13⟩ [] (by rw [htab]; rfl) (fun z hz => nomatch hz) (by decide) (by decide) (B.2.2.2.2.1 _ wc_L_13) (va_Nw.use (by decide) (B.2.2.2.2.2.2.1.2.2.2 _ fc_IAE)) hce hcv hcl ?_
    refine lv_astore_n (lv' := [(3, .ref q9), (0, .ref (G.2.2 (0, 0, 0))), (1, .int x1), (2, .ref (G.2.2 (30, 0, 0)))]) B.1 B.2.1 dL_low_12 rfl hl (by decide) rfl (fun ls hl => ?_)
    refine lv_iconst (v := 1) B.1 B.2.1 dL_low_13 (by decide) ?_
    exact mb_hret B hS1 hwd hrt hlk dL_low_14
set_option maxRecDepth 100000 in
set_option maxHeartbeats 4000000 in
theorem H_addBerth_r {l : Launch} {G : mb_G} (hst : l.stackTraces = false) (hg : mb_gok G) {x1 : Int32} {x2 : Int32} {x3 : Int32} {x4 : Int32} {h h1 : mb_AH} {v : Int32} (hf : F_X5_addBerth x1 x2 x3 x4 h = some (.inl (some (.inl v)), h1)) : mb_Mh l G yL_addBerth cL_addBerth 7 [(0, 14, 17, 13), (0, 14, 21, 23)] 5 0 0 [mb_F 0 0 0, .inl x1, .inl x2, .inl x3, .inl x4, mb_F 30 0 0] h (.inl (some (.inl 0)), mb_sL h1 30 0 0 0 v.toInt64) := by
  refine mb_hentry (own := RL) (lv := [(0, .ref (G.2.2 (0, 0, 0))), (1, .int x1), (2, .int x2), (3, .int x3), (4, .int x4), (5, .ref (G.2.2 (30, 0, 0)))]) (by decide +kernel) rfl (Nat.le_of_ble_eq_true rfl) rfl hg (fun p e s m args below meth c ls B hlk hrt htab hw hl => ?_) (fun _ => trivial)
  refine lv_aload B.1 B.2.1 dL_addBerth_0 (lv_at hl 5 rfl) ?_
  refine lv_iconst (v := 0) B.1 B.2.1 dL_addBerth_2 (by decide) ?_
  refine lv_aload_n B.1 B.2.1 dL_addBerth_3 rfl (lv_at hl 0 rfl) ?_
  refine lv_iload_n B.1 B.2.1 dL_addBerth_4 rfl (lv_at hl 1 rfl) ?_
  refine lv_iload_n B.1 B.2.1 dL_addBerth_5 rfl (lv_at hl 2 rfl) ?_
  refine lv_iload_n B.1 B.2.1 dL_addBerth_6 rfl (lv_at hl 3 rfl) ?_
  refine lv_iload B.1 B.2.1 dL_addBerth_7 (lv_at hl 4 rfl) ?_
  refine mb_xV (as := [.inl x1, .inl x2, .inl x3, .inl x4]) (n := 4) (d2 := 4) (ci := 5) (N := 6) (rest := [.int 0, .ref (G.2.2 (30, 0, 0))]) B va_S.rf hw hl.1 ⟨⟨by decide, by decide⟩, ⟨trivial, ⟨trivial, ⟨trivial, ⟨trivial, trivial⟩⟩⟩⟩⟩ (Nat.le_of_ble_eq_true rfl) (C_X5_addBerth hst hg hf) (mb_gV wl_L_19 mi_X5_addBerth ms_X5_addBerth mn_X5 mc_X5_addBerth) (by decide +kernel) rfl rfl rfl ⟨by show 8 + 4 + 1 ≤ 8 + 5; decide, by show _ ≤ 128 + 64 * 5; decide, Nat.le_of_ble_eq_true rfl, Nat.le_of_ble_eq_true rfl⟩ rfl dL_addBerth_9 (fun v H1 locs1 hv _ hwd hS1 _ _ => ?_) (fun E ce q9 H1 locs1 hv hwd hS1 _ _ hce hcv hcl => ?_)
  · cases hv
    refine lv_i2l B.1 B.2.1 dL_addBerth_12 rfl ?_
    refine mb_lastout B hS1 hwd dL_addBerth_13 (fun H2 locs2 hwd2 hS2 => ?_) rfl
    refine lv_goto (tgt := 25) B.1 B.2.1 dL_addBerth_14 (by decide) ?_
    refine lv_iconst (v := 0) B.1 B.2.1 dL_addBerth_25 (by decide) ?_
    exact mb_hret B hS2 hwd2 hrt hlk dL_addBerth_26
  · cases hv
set_option maxRecDepth 100000 in
set_option maxHeartbeats 4000000 in
theorem H_addBerth_t1 {l : Launch} {G : mb_G} (hst : l.stackTraces = false) (hg : mb_gok G) {x1 : Int32} {x2 : Int32} {x3 : Int32} {x4 : Int32} {h h1 : mb_AH} (hf : F_X5_addBerth x1 x2 x3 x4 h = some (.inr "java/lang/IllegalArgumentException", h1)) : mb_Mh l G yL_addBerth cL_addBerth 7 [(0, 14, 17, 13), (0, 14, 21, 23)] 5 1 6 [mb_F 0 0 0, .inl x1, .inl x2, .inl x3, .inl x4, mb_F 30 0 0] h (.inl (some (.inl 1)), h1) := by
  refine mb_hentry (own := RL) (lv := [(0, .ref (G.2.2 (0, 0, 0))), (1, .int x1), (2, .int x2), (3, .int x3), (4, .int x4), (5, .ref (G.2.2 (30, 0, 0)))]) (by decide +kernel) rfl (Nat.le_of_ble_eq_true rfl) rfl hg (fun p e s m args below meth c ls B hlk hrt htab hw hl => ?_) (fun _ => trivial)
  refine lv_aload B.1 B.2.1 dL_addBerth_0 (lv_at hl 5 rfl) ?_
  refine lv_iconst (v := 0) B.1 B.2.1 dL_addBerth_2 (by decide) ?_
  refine lv_aload_n B.1 B.2.1 dL_addBerth_3 rfl (lv_at hl 0 rfl) ?_
  refine lv_iload_n B.1 B.2.1 dL_addBerth_4 rfl (lv_at hl 1 rfl) ?_
  refine lv_iload_n B.1 B.2.1 dL_addBerth_5 rfl (lv_at hl 2 rfl) ?_
  refine lv_iload_n B.1 B.2.1 dL_addBerth_6 rfl (lv_at hl 3 rfl) ?_
  refine lv_iload B.1 B.2.1 dL_addBerth_7 (lv_at hl 4 rfl) ?_
  refine mb_xV (as := [.inl x1, .inl x2, .inl x3, .inl x4]) (n := 4) (d2 := 4) (ci := 5) (N := 6) (rest := [.int 0, .ref (G.2.2 (30, 0, 0))]) B va_S.rf hw hl.1 ⟨⟨by decide, by decide⟩, ⟨trivial, ⟨trivial, ⟨trivial, ⟨trivial, trivial⟩⟩⟩⟩⟩ (Nat.le_of_ble_eq_true rfl) (C_X5_addBerth hst hg hf) (mb_gV wl_L_19 mi_X5_addBerth ms_X5_addBerth mn_X5 mc_X5_addBerth) (by decide +kernel) rfl rfl rfl ⟨by show 8 + 4 + 1 ≤ 8 + 5; decide, by show _ ≤ 128 + 64 * 5; decide, Nat.le_of_ble_eq_true rfl, Nat.le_of_ble_eq_true rfl⟩ rfl dL_addBerth_9 (fun v H1 locs1 hv _ hwd hS1 _ _ => ?_) (fun E ce q9 H1 locs1 hv hwd hS1 _ _ hce hcv hcl => ?_)
  · cases hv
  · cases hv
    refine vx_catch (name := "java/lang/IllegalArgumentException") B.2.2.2.1 [] ⟨0, 14, 17, 13⟩ [⟨0, 14, 21, 23⟩] (by rw [htab]; rfl) (fun z hz => nomatch hz) (by decide) (by decide) (B.2.2.2.2.1 _ wc_L_13) (va_Nw.use (by decide) (B.2.2.2.2.2.2.1.2.2.2 _ fc_IAE)) hce hcv hcl ?_
    refine lv_astore (lv' := [(6, .ref q9), (0, .ref (G.2.2 (0, 0, 0))), (1, .int x1), (2, .int x2), (3, .int x3), (4, .int x4), (5, .ref (G.2.2 (30, 0, 0)))]) B.1 B.2.1 dL_addBerth_17 hl (by decide) rfl (fun ls hl => ?_)
    refine lv_iconst (v := 1) B.1 B.2.1 dL_addBerth_19 (by decide) ?_
    exact mb_hret B hS1 hwd hrt hlk dL_addBerth_20
set_option maxRecDepth 100000 in
set_option maxHeartbeats 4000000 in
theorem H_addBerth_t2 {l : Launch} {G : mb_G} (hst : l.stackTraces = false) (hg : mb_gok G) {x1 : Int32} {x2 : Int32} {x3 : Int32} {x4 : Int32} {h h1 : mb_AH} (hf : F_X5_addBerth x1 x2 x3 x4 h = some (.inr "java/lang/IllegalStateException", h1)) : mb_Mh l G yL_addBerth cL_addBerth 7 [(0, 14, 17, 13), (0, 14, 21, 23)] 5 1 6 [mb_F 0 0 0, .inl x1, .inl x2, .inl x3, .inl x4, mb_F 30 0 0] h (.inl (some (.inl 2)), h1) := by
  refine mb_hentry (own := RL) (lv := [(0, .ref (G.2.2 (0, 0, 0))), (1, .int x1), (2, .int x2), (3, .int x3), (4, .int x4), (5, .ref (G.2.2 (30, 0, 0)))]) (by decide +kernel) rfl (Nat.le_of_ble_eq_true rfl) rfl hg (fun p e s m args below meth c ls B hlk hrt htab hw hl => ?_) (fun _ => trivial)
  refine lv_aload B.1 B.2.1 dL_addBerth_0 (lv_at hl 5 rfl) ?_
  refine lv_iconst (v := 0) B.1 B.2.1 dL_addBerth_2 (by decide) ?_
  refine lv_aload_n B.1 B.2.1 dL_addBerth_3 rfl (lv_at hl 0 rfl) ?_
  refine lv_iload_n B.1 B.2.1 dL_addBerth_4 rfl (lv_at hl 1 rfl) ?_
  refine lv_iload_n B.1 B.2.1 dL_addBerth_5 rfl (lv_at hl 2 rfl) ?_
  refine lv_iload_n B.1 B.2.1 dL_addBerth_6 rfl (lv_at hl 3 rfl) ?_
  refine lv_iload B.1 B.2.1 dL_addBerth_7 (lv_at hl 4 rfl) ?_
  refine mb_xV (as := [.inl x1, .inl x2, .inl x3, .inl x4]) (n := 4) (d2 := 4) (ci := 5) (N := 6) (rest := [.int 0, .ref (G.2.2 (30, 0, 0))]) B va_S.rf hw hl.1 ⟨⟨by decide, by decide⟩, ⟨trivial, ⟨trivial, ⟨trivial, ⟨trivial, trivial⟩⟩⟩⟩⟩ (Nat.le_of_ble_eq_true rfl) (C_X5_addBerth hst hg hf) (mb_gV wl_L_19 mi_X5_addBerth ms_X5_addBerth mn_X5 mc_X5_addBerth) (by decide +kernel) rfl rfl rfl ⟨by show 8 + 4 + 1 ≤ 8 + 5; decide, by show _ ≤ 128 + 64 * 5; decide, Nat.le_of_ble_eq_true rfl, Nat.le_of_ble_eq_true rfl⟩ rfl dL_addBerth_9 (fun v H1 locs1 hv _ hwd hS1 _ _ => ?_) (fun E ce q9 H1 locs1 hv hwd hS1 _ _ hce hcv hcl => ?_)
  · cases hv
  · cases hv
    refine vx_catch (name := "java/lang/IllegalStateException") B.2.2.2.1 [⟨0, 14, 17, 13⟩] ⟨0, 14, 21, 23⟩ [] (by rw [htab]; rfl) (fun z hz => by rw [List.mem_singleton] at hz; subst hz; exact Or.inr ⟨by decide, "java/lang/IllegalArgumentException", B.2.2.2.2.1 _ wc_L_13, B.2.2.2.2.2.2.2.2.2.2 ("java/lang/IllegalStateException", "java/lang/IllegalArgumentException") (by decide)⟩) (by decide) (by decide) (B.2.2.2.2.1 _ wc_L_23) (va_Nw.use (by decide) (B.2.2.2.2.2.2.1.2.2.2 _ fc_ISE)) hce hcv hcl ?_
    refine lv_astore (lv' := [(6, .ref q9), (0, .ref (G.2.2 (0, 0, 0))), (1, .int x1), (2, .int x2), (3, .int x3), (4, .int x4), (5, .ref (G.2.2 (30, 0, 0)))]) B.1 B.2.1 dL_addBerth_21 hl (by decide) rfl (fun ls hl => ?_)
    refine lv_iconst (v := 2) B.1 B.2.1 dL_addBerth_23 (by decide) ?_
    exact mb_hret B hS1 hwd hrt hlk dL_addBerth_24
set_option maxRecDepth 100000 in
set_option maxHeartbeats 4000000 in
theorem H_addBoat_r {l : Launch} {G : mb_G} (hst : l.stackTraces = false) (hg : mb_gok G) {x1 : Int32} {x2 : Int32} {x3 : Int32} {h h1 : mb_AH} {v : Int32} (hf : F_X5_addBoat x1 x2 x3 h = some (.inl (some (.inl v)), h1)) : mb_Mh l G yL_addBoat cL_addBoat 6 [(0, 12, 15, 13), (0, 12, 19, 23)] 5 0 0 [mb_F 0 0 0, .inl x1, .inl x2, .inl x3, mb_F 30 0 0] h (.inl (some (.inl 0)), mb_sL h1 30 0 0 0 v.toInt64) := by
  refine mb_hentry (own := RL) (lv := [(0, .ref (G.2.2 (0, 0, 0))), (1, .int x1), (2, .int x2), (3, .int x3), (4, .ref (G.2.2 (30, 0, 0)))]) (by decide +kernel) rfl (Nat.le_of_ble_eq_true rfl) rfl hg (fun p e s m args below meth c ls B hlk hrt htab hw hl => ?_) (fun _ => trivial)
  refine lv_aload B.1 B.2.1 dL_addBoat_0 (lv_at hl 4 rfl) ?_
  refine lv_iconst (v := 0) B.1 B.2.1 dL_addBoat_2 (by decide) ?_
  refine lv_aload_n B.1 B.2.1 dL_addBoat_3 rfl (lv_at hl 0 rfl) ?_
  refine lv_iload_n B.1 B.2.1 dL_addBoat_4 rfl (lv_at hl 1 rfl) ?_
  refine lv_iload_n B.1 B.2.1 dL_addBoat_5 rfl (lv_at hl 2 rfl) ?_
  refine lv_iload_n B.1 B.2.1 dL_addBoat_6 rfl (lv_at hl 3 rfl) ?_
  refine mb_xV (as := [.inl x1, .inl x2, .inl x3]) (n := 3) (d2 := 4) (ci := 5) (N := 6) (rest := [.int 0, .ref (G.2.2 (30, 0, 0))]) B va_S.rf hw hl.1 ⟨⟨by decide, by decide⟩, ⟨trivial, ⟨trivial, ⟨trivial, trivial⟩⟩⟩⟩ (Nat.le_of_ble_eq_true rfl) (C_X5_addBoat hst hg hf) (mb_gV wl_L_25 mi_X5_addBoat ms_X5_addBoat mn_X5 mc_X5_addBoat) (by decide +kernel) rfl rfl rfl ⟨by show 8 + 4 + 1 ≤ 8 + 5; decide, by show _ ≤ 128 + 64 * 5; decide, Nat.le_of_ble_eq_true rfl, Nat.le_of_ble_eq_true rfl⟩ rfl dL_addBoat_7 (fun v H1 locs1 hv _ hwd hS1 _ _ => ?_) (fun E ce q9 H1 locs1 hv hwd hS1 _ _ hce hcv hcl => ?_)
  · cases hv
    refine lv_i2l B.1 B.2.1 dL_addBoat_10 rfl ?_
    refine mb_lastout B hS1 hwd dL_addBoat_11 (fun H2 locs2 hwd2 hS2 => ?_) rfl
    refine lv_goto (tgt := 23) B.1 B.2.1 dL_addBoat_12 (by decide) ?_
    refine lv_iconst (v := 0) B.1 B.2.1 dL_addBoat_23 (by decide) ?_
    exact mb_hret B hS2 hwd2 hrt hlk dL_addBoat_24
  · cases hv
set_option maxRecDepth 100000 in
set_option maxHeartbeats 4000000 in
theorem H_addBoat_t1 {l : Launch} {G : mb_G} (hst : l.stackTraces = false) (hg : mb_gok G) {x1 : Int32} {x2 : Int32} {x3 : Int32} {h h1 : mb_AH} (hf : F_X5_addBoat x1 x2 x3 h = some (.inr "java/lang/IllegalArgumentException", h1)) : mb_Mh l G yL_addBoat cL_addBoat 6 [(0, 12, 15, 13), (0, 12, 19, 23)] 5 1 6 [mb_F 0 0 0, .inl x1, .inl x2, .inl x3, mb_F 30 0 0] h (.inl (some (.inl 1)), h1) := by
  refine mb_hentry (own := RL) (lv := [(0, .ref (G.2.2 (0, 0, 0))), (1, .int x1), (2, .int x2), (3, .int x3), (4, .ref (G.2.2 (30, 0, 0)))]) (by decide +kernel) rfl (Nat.le_of_ble_eq_true rfl) rfl hg (fun p e s m args below meth c ls B hlk hrt htab hw hl => ?_) (fun _ => trivial)
  refine lv_aload B.1 B.2.1 dL_addBoat_0 (lv_at hl 4 rfl) ?_
  refine lv_iconst (v := 0) B.1 B.2.1 dL_addBoat_2 (by decide) ?_
  refine lv_aload_n B.1 B.2.1 dL_addBoat_3 rfl (lv_at hl 0 rfl) ?_
  refine lv_iload_n B.1 B.2.1 dL_addBoat_4 rfl (lv_at hl 1 rfl) ?_
  refine lv_iload_n B.1 B.2.1 dL_addBoat_5 rfl (lv_at hl 2 rfl) ?_
  refine lv_iload_n B.1 B.2.1 dL_addBoat_6 rfl (lv_at hl 3 rfl) ?_
  refine mb_xV (as := [.inl x1, .inl x2, .inl x3]) (n := 3) (d2 := 4) (ci := 5) (N := 6) (rest := [.int 0, .ref (G.2.2 (30, 0, 0))]) B va_S.rf hw hl.1 ⟨⟨by decide, by decide⟩, ⟨trivial, ⟨trivial, ⟨trivial, trivial⟩⟩⟩⟩ (Nat.le_of_ble_eq_true rfl) (C_X5_addBoat hst hg hf) (mb_gV wl_L_25 mi_X5_addBoat ms_X5_addBoat mn_X5 mc_X5_addBoat) (by decide +kernel) rfl rfl rfl ⟨by show 8 + 4 + 1 ≤ 8 + 5; decide, by show _ ≤ 128 + 64 * 5; decide, Nat.le_of_ble_eq_true rfl, Nat.le_of_ble_eq_true rfl⟩ rfl dL_addBoat_7 (fun v H1 locs1 hv _ hwd hS1 _ _ => ?_) (fun E ce q9 H1 locs1 hv hwd hS1 _ _ hce hcv hcl => ?_)
  · cases hv
  · cases hv
    refine vx_catch (name := "java/lang/IllegalArgumentException") B.2.2.2.1 [] ⟨0, 12, 15, 13⟩ [⟨0, 12, 19, 23⟩] (by rw [htab]; rfl) (fun z hz => nomatch hz) (by decide) (by decide) (B.2.2.2.2.1 _ wc_L_13) (va_Nw.use (by decide) (B.2.2.2.2.2.2.1.2.2.2 _ fc_IAE)) hce hcv hcl ?_
    refine lv_astore (lv' := [(5, .ref q9), (0, .ref (G.2.2 (0, 0, 0))), (1, .int x1), (2, .int x2), (3, .int x3), (4, .ref (G.2.2 (30, 0, 0)))]) B.1 B.2.1 dL_addBoat_15 hl (by decide) rfl (fun ls hl => ?_)
    refine lv_iconst (v := 1) B.1 B.2.1 dL_addBoat_17 (by decide) ?_
    exact mb_hret B hS1 hwd hrt hlk dL_addBoat_18
set_option maxRecDepth 100000 in
set_option maxHeartbeats 4000000 in
theorem H_addBoat_t2 {l : Launch} {G : mb_G} (hst : l.stackTraces = false) (hg : mb_gok G) {x1 : Int32} {x2 : Int32} {x3 : Int32} {h h1 : mb_AH} (hf : F_X5_addBoat x1 x2 x3 h = some (.inr "java/lang/IllegalStateException", h1)) : mb_Mh l G yL_addBoat cL_addBoat 6 [(0, 12, 15, 13), (0, 12, 19, 23)] 5 1 6 [mb_F 0 0 0, .inl x1, .inl x2, .inl x3, mb_F 30 0 0] h (.inl (some (.inl 2)), h1) := by
  refine mb_hentry (own := RL) (lv := [(0, .ref (G.2.2 (0, 0, 0))), (1, .int x1), (2, .int x2), (3, .int x3), (4, .ref (G.2.2 (30, 0, 0)))]) (by decide +kernel) rfl (Nat.le_of_ble_eq_true rfl) rfl hg (fun p e s m args below meth c ls B hlk hrt htab hw hl => ?_) (fun _ => trivial)
  refine lv_aload B.1 B.2.1 dL_addBoat_0 (lv_at hl 4 rfl) ?_
  refine lv_iconst (v := 0) B.1 B.2.1 dL_addBoat_2 (by decide) ?_
  refine lv_aload_n B.1 B.2.1 dL_addBoat_3 rfl (lv_at hl 0 rfl) ?_
  refine lv_iload_n B.1 B.2.1 dL_addBoat_4 rfl (lv_at hl 1 rfl) ?_
  refine lv_iload_n B.1 B.2.1 dL_addBoat_5 rfl (lv_at hl 2 rfl) ?_
  refine lv_iload_n B.1 B.2.1 dL_addBoat_6 rfl (lv_at hl 3 rfl) ?_
  refine mb_xV (as := [.inl x1, .inl x2, .inl x3]) (n := 3) (d2 := 4) (ci := 5) (N := 6) (rest := [.int 0, .ref (G.2.2 (30, 0, 0))]) B va_S.rf hw hl.1 ⟨⟨by decide, by decide⟩, ⟨trivial, ⟨trivial, ⟨trivial, trivial⟩⟩⟩⟩ (Nat.le_of_ble_eq_true rfl) (C_X5_addBoat hst hg hf) (mb_gV wl_L_25 mi_X5_addBoat ms_X5_addBoat mn_X5 mc_X5_addBoat) (by decide +kernel) rfl rfl rfl ⟨by show 8 + 4 + 1 ≤ 8 + 5; decide, by show _ ≤ 128 + 64 * 5; decide, Nat.le_of_ble_eq_true rfl, Nat.le_of_ble_eq_true rfl⟩ rfl dL_addBoat_7 (fun v H1 locs1 hv _ hwd hS1 _ _ => ?_) (fun E ce q9 H1 locs1 hv hwd hS1 _ _ hce hcv hcl => ?_)
  · cases hv
  · cases hv
    refine vx_catch (name := "java/lang/IllegalStateException") B.2.2.2.1 [⟨0, 12, 15, 13⟩] ⟨0, 12, 19, 23⟩ [] (by rw [htab]; rfl) (fun z hz => by rw [List.mem_singleton] at hz; subst hz; exact Or.inr ⟨by decide, "java/lang/IllegalArgumentException", B.2.2.2.2.1 _ wc_L_13, B.2.2.2.2.2.2.2.2.2.2 ("java/lang/IllegalStateException", "java/lang/IllegalArgumentException") (by decide)⟩) (by decide) (by decide) (B.2.2.2.2.1 _ wc_L_23) (va_Nw.use (by decide) (B.2.2.2.2.2.2.1.2.2.2 _ fc_ISE)) hce hcv hcl ?_
    refine lv_astore (lv' := [(5, .ref q9), (0, .ref (G.2.2 (0, 0, 0))), (1, .int x1), (2, .int x2), (3, .int x3), (4, .ref (G.2.2 (30, 0, 0)))]) B.1 B.2.1 dL_addBoat_19 hl (by decide) rfl (fun ls hl => ?_)
    refine lv_iconst (v := 2) B.1 B.2.1 dL_addBoat_21 (by decide) ?_
    exact mb_hret B hS1 hwd hrt hlk dL_addBoat_22
set_option maxRecDepth 100000 in
set_option maxHeartbeats 4000000 in
theorem H_set_r {l : Launch} {G : mb_G} (hst : l.stackTraces = false) (hg : mb_gok G) {x1 : Int32} {x2 : Int32} {h h1 : mb_AH} {v : Int32} (hf : F_X5_set x1 x2 h = some (.inl (some (.inl v)), h1)) : mb_Mh l G yL_set cL_set 5 [(0, 10, 13, 13)] 6 0 0 [mb_F 0 0 0, .inl x1, .inl x2, mb_F 30 0 0] h (.inl (some (.inl 0)), mb_sL h1 30 0 0 0 v.toInt64) := by
  refine mb_hentry (own := RL) (lv := [(0, .ref (G.2.2 (0, 0, 0))), (1, .int x1), (2, .int x2), (3, .ref (G.2.2 (30, 0, 0)))]) (by decide +kernel) rfl (Nat.le_of_ble_eq_true rfl) rfl hg (fun p e s m args below meth c ls B hlk hrt htab hw hl => ?_) (fun _ => trivial)
  refine lv_aload_n B.1 B.2.1 dL_set_0 rfl (lv_at hl 3 rfl) ?_
  refine lv_iconst (v := 0) B.1 B.2.1 dL_set_1 (by decide) ?_
  refine lv_aload_n B.1 B.2.1 dL_set_2 rfl (lv_at hl 0 rfl) ?_
  refine lv_iload_n B.1 B.2.1 dL_set_3 rfl (lv_at hl 1 rfl) ?_
  refine lv_iload_n B.1 B.2.1 dL_set_4 rfl (lv_at hl 2 rfl) ?_
  refine mb_xV (as := [.inl x1, .inl x2]) (n := 2) (d2 := 5) (ci := 5) (N := 6) (rest := [.int 0, .ref (G.2.2 (30, 0, 0))]) B va_S.rf hw hl.1 ⟨⟨by decide, by decide⟩, ⟨trivial, ⟨trivial, trivial⟩⟩⟩ (Nat.le_of_ble_eq_true rfl) (C_X5_set hst hg hf) (mb_gV wl_L_29 mi_X5_set ms_X5_set mn_X5 mc_X5_set) (by decide +kernel) rfl rfl rfl ⟨by show 8 + 5 + 1 ≤ 8 + 6; decide, by show _ ≤ 128 + 64 * 6; decide, Nat.le_of_ble_eq_true rfl, Nat.le_of_ble_eq_true rfl⟩ rfl dL_set_5 (fun v H1 locs1 hv _ hwd hS1 _ _ => ?_) (fun E ce q9 H1 locs1 hv hwd hS1 _ _ hce hcv hcl => ?_)
  · cases hv
    refine lv_i2l B.1 B.2.1 dL_set_8 rfl ?_
    refine mb_lastout B hS1 hwd dL_set_9 (fun H2 locs2 hwd2 hS2 => ?_) rfl
    refine lv_goto (tgt := 17) B.1 B.2.1 dL_set_10 (by decide) ?_
    refine lv_iconst (v := 0) B.1 B.2.1 dL_set_17 (by decide) ?_
    exact mb_hret B hS2 hwd2 hrt hlk dL_set_18
  · cases hv
set_option maxRecDepth 100000 in
set_option maxHeartbeats 4000000 in
theorem H_set_t1 {l : Launch} {G : mb_G} (hst : l.stackTraces = false) (hg : mb_gok G) {x1 : Int32} {x2 : Int32} {h h1 : mb_AH} (hf : F_X5_set x1 x2 h = some (.inr "java/lang/IllegalArgumentException", h1)) : mb_Mh l G yL_set cL_set 5 [(0, 10, 13, 13)] 6 1 6 [mb_F 0 0 0, .inl x1, .inl x2, mb_F 30 0 0] h (.inl (some (.inl 1)), h1) := by
  refine mb_hentry (own := RL) (lv := [(0, .ref (G.2.2 (0, 0, 0))), (1, .int x1), (2, .int x2), (3, .ref (G.2.2 (30, 0, 0)))]) (by decide +kernel) rfl (Nat.le_of_ble_eq_true rfl) rfl hg (fun p e s m args below meth c ls B hlk hrt htab hw hl => ?_) (fun _ => trivial)
  refine lv_aload_n B.1 B.2.1 dL_set_0 rfl (lv_at hl 3 rfl) ?_
  refine lv_iconst (v := 0) B.1 B.2.1 dL_set_1 (by decide) ?_
  refine lv_aload_n B.1 B.2.1 dL_set_2 rfl (lv_at hl 0 rfl) ?_
  refine lv_iload_n B.1 B.2.1 dL_set_3 rfl (lv_at hl 1 rfl) ?_
  refine lv_iload_n B.1 B.2.1 dL_set_4 rfl (lv_at hl 2 rfl) ?_
  refine mb_xV (as := [.inl x1, .inl x2]) (n := 2) (d2 := 5) (ci := 5) (N := 6) (rest := [.int 0, .ref (G.2.2 (30, 0, 0))]) B va_S.rf hw hl.1 ⟨⟨by decide, by decide⟩, ⟨trivial, ⟨trivial, trivial⟩⟩⟩ (Nat.le_of_ble_eq_true rfl) (C_X5_set hst hg hf) (mb_gV wl_L_29 mi_X5_set ms_X5_set mn_X5 mc_X5_set) (by decide +kernel) rfl rfl rfl ⟨by show 8 + 5 + 1 ≤ 8 + 6; decide, by show _ ≤ 128 + 64 * 6; decide, Nat.le_of_ble_eq_true rfl, Nat.le_of_ble_eq_true rfl⟩ rfl dL_set_5 (fun v H1 locs1 hv _ hwd hS1 _ _ => ?_) (fun E ce q9 H1 locs1 hv hwd hS1 _ _ hce hcv hcl => ?_)
  · cases hv
  · cases hv
    refine vx_catch (name := "java/lang/IllegalArgumentException") B.2.2.2.1 [] ⟨0, 10, 13, 13⟩ [] (by rw [htab]; rfl) (fun z hz => nomatch hz) (by decide) (by decide) (B.2.2.2.2.1 _ wc_L_13) (va_Nw.use (by decide) (B.2.2.2.2.2.2.1.2.2.2 _ fc_IAE)) hce hcv hcl ?_
    refine lv_astore (lv' := [(4, .ref q9), (0, .ref (G.2.2 (0, 0, 0))), (1, .int x1), (2, .int x2), (3, .ref (G.2.2 (30, 0, 0)))]) B.1 B.2.1 dL_set_13 hl (by decide) rfl (fun ls hl => ?_)
    refine lv_iconst (v := 1) B.1 B.2.1 dL_set_15 (by decide) ?_
    exact mb_hret B hS1 hwd hrt hlk dL_set_16
set_option maxRecDepth 100000 in
set_option maxHeartbeats 4000000 in
theorem H_setRate_r {l : Launch} {G : mb_G} (hst : l.stackTraces = false) (hg : mb_gok G) {x1 : Int32} {x2 : Int32} {h h1 : mb_AH} {v : Int32} (hf : F_X5_setRate x1 x2 h = some (.inl (some (.inl v)), h1)) : mb_Mh l G yL_setRate cL_setRate 5 [(0, 10, 13, 36), (0, 10, 17, 13)] 5 0 0 [mb_F 0 0 0, .inl x1, .inl x2, mb_F 30 0 0] h (.inl (some (.inl 0)), mb_sL h1 30 0 0 0 v.toInt64) := by
  refine mb_hentry (own := RL) (lv := [(0, .ref (G.2.2 (0, 0, 0))), (1, .int x1), (2, .int x2), (3, .ref (G.2.2 (30, 0, 0)))]) (by decide +kernel) rfl (Nat.le_of_ble_eq_true rfl) rfl hg (fun p e s m args below meth c ls B hlk hrt htab hw hl => ?_) (fun _ => trivial)
  refine lv_aload_n B.1 B.2.1 dL_setRate_0 rfl (lv_at hl 3 rfl) ?_
  refine lv_iconst (v := 0) B.1 B.2.1 dL_setRate_1 (by decide) ?_
  refine lv_aload_n B.1 B.2.1 dL_setRate_2 rfl (lv_at hl 0 rfl) ?_
  refine lv_iload_n B.1 B.2.1 dL_setRate_3 rfl (lv_at hl 1 rfl) ?_
  refine lv_iload_n B.1 B.2.1 dL_setRate_4 rfl (lv_at hl 2 rfl) ?_
  refine mb_xV (as := [.inl x1, .inl x2]) (n := 2) (d2 := 4) (ci := 5) (N := 6) (rest := [.int 0, .ref (G.2.2 (30, 0, 0))]) B va_S.rf hw hl.1 ⟨⟨by decide, by decide⟩, ⟨trivial, ⟨trivial, trivial⟩⟩⟩ (Nat.le_of_ble_eq_true rfl) (C_X5_setRate hst hg hf) (mb_gV wl_L_33 mi_X5_setRate ms_X5_setRate mn_X5 mc_X5_setRate) (by decide +kernel) rfl rfl rfl ⟨by show 8 + 4 + 1 ≤ 8 + 5; decide, by show _ ≤ 128 + 64 * 5; decide, Nat.le_of_ble_eq_true rfl, Nat.le_of_ble_eq_true rfl⟩ rfl dL_setRate_5 (fun v H1 locs1 hv _ hwd hS1 _ _ => ?_) (fun E ce q9 H1 locs1 hv hwd hS1 _ _ hce hcv hcl => ?_)
  · cases hv
    refine lv_i2l B.1 B.2.1 dL_setRate_8 rfl ?_
    refine mb_lastout B hS1 hwd dL_setRate_9 (fun H2 locs2 hwd2 hS2 => ?_) rfl
    refine lv_goto (tgt := 21) B.1 B.2.1 dL_setRate_10 (by decide) ?_
    refine lv_iconst (v := 0) B.1 B.2.1 dL_setRate_21 (by decide) ?_
    exact mb_hret B hS2 hwd2 hrt hlk dL_setRate_22
  · cases hv
set_option maxRecDepth 100000 in
set_option maxHeartbeats 4000000 in
theorem H_setRate_t1 {l : Launch} {G : mb_G} (hst : l.stackTraces = false) (hg : mb_gok G) {x1 : Int32} {x2 : Int32} {h h1 : mb_AH} (hf : F_X5_setRate x1 x2 h = some (.inr "java/lang/IndexOutOfBoundsException", h1)) : mb_Mh l G yL_setRate cL_setRate 5 [(0, 10, 13, 36), (0, 10, 17, 13)] 5 1 6 [mb_F 0 0 0, .inl x1, .inl x2, mb_F 30 0 0] h (.inl (some (.inl 1)), h1) := by
  refine mb_hentry (own := RL) (lv := [(0, .ref (G.2.2 (0, 0, 0))), (1, .int x1), (2, .int x2), (3, .ref (G.2.2 (30, 0, 0)))]) (by decide +kernel) rfl (Nat.le_of_ble_eq_true rfl) rfl hg (fun p e s m args below meth c ls B hlk hrt htab hw hl => ?_) (fun _ => trivial)
  refine lv_aload_n B.1 B.2.1 dL_setRate_0 rfl (lv_at hl 3 rfl) ?_
  refine lv_iconst (v := 0) B.1 B.2.1 dL_setRate_1 (by decide) ?_
  refine lv_aload_n B.1 B.2.1 dL_setRate_2 rfl (lv_at hl 0 rfl) ?_
  refine lv_iload_n B.1 B.2.1 dL_setRate_3 rfl (lv_at hl 1 rfl) ?_
  refine lv_iload_n B.1 B.2.1 dL_setRate_4 rfl (lv_at hl 2 rfl) ?_
  refine mb_xV (as := [.inl x1, .inl x2]) (n := 2) (d2 := 4) (ci := 5) (N := 6) (rest := [.int 0, .ref (G.2.2 (30, 0, 0))]) B va_S.rf hw hl.1 ⟨⟨by decide, by decide⟩, ⟨trivial, ⟨trivial, trivial⟩⟩⟩ (Nat.le_of_ble_eq_true rfl) (C_X5_setRate hst hg hf) (mb_gV wl_L_33 mi_X5_setRate ms_X5_setRate mn_X5 mc_X5_setRate) (by decide +kernel) rfl rfl rfl ⟨by show 8 + 4 + 1 ≤ 8 + 5; decide, by show _ ≤ 128 + 64 * 5; decide, Nat.le_of_ble_eq_true rfl, Nat.le_of_ble_eq_true rfl⟩ rfl dL_setRate_5 (fun v H1 locs1 hv _ hwd hS1 _ _ => ?_) (fun E ce q9 H1 locs1 hv hwd hS1 _ _ hce hcv hcl => ?_)
  · cases hv
  · cases hv
    refine vx_catch (name := "java/lang/IndexOutOfBoundsException") B.2.2.2.1 [] ⟨0, 10, 13, 36⟩ [⟨0, 10, 17, 13⟩] (by rw [htab]; rfl) (fun z hz => nomatch hz) (by decide) (by decide) (B.2.2.2.2.1 _ wc_L_36) (va_Nw.use (by decide) (B.2.2.2.2.2.2.1.2.2.2 _ fc_IOE)) hce hcv hcl ?_
    refine lv_astore (lv' := [(4, .ref q9), (0, .ref (G.2.2 (0, 0, 0))), (1, .int x1), (2, .int x2), (3, .ref (G.2.2 (30, 0, 0)))]) B.1 B.2.1 dL_setRate_13 hl (by decide) rfl (fun ls hl => ?_)
    refine lv_iconst (v := 1) B.1 B.2.1 dL_setRate_15 (by decide) ?_
    exact mb_hret B hS1 hwd hrt hlk dL_setRate_16
set_option maxRecDepth 100000 in
set_option maxHeartbeats 4000000 in
theorem H_setRate_t2 {l : Launch} {G : mb_G} (hst : l.stackTraces = false) (hg : mb_gok G) {x1 : Int32} {x2 : Int32} {h h1 : mb_AH} (hf : F_X5_setRate x1 x2 h = some (.inr "java/lang/IllegalArgumentException", h1)) : mb_Mh l G yL_setRate cL_setRate 5 [(0, 10, 13, 36), (0, 10, 17, 13)] 5 1 6 [mb_F 0 0 0, .inl x1, .inl x2, mb_F 30 0 0] h (.inl (some (.inl 2)), h1) := by
  refine mb_hentry (own := RL) (lv := [(0, .ref (G.2.2 (0, 0, 0))), (1, .int x1), (2, .int x2), (3, .ref (G.2.2 (30, 0, 0)))]) (by decide +kernel) rfl (Nat.le_of_ble_eq_true rfl) rfl hg (fun p e s m args below meth c ls B hlk hrt htab hw hl => ?_) (fun _ => trivial)
  refine lv_aload_n B.1 B.2.1 dL_setRate_0 rfl (lv_at hl 3 rfl) ?_
  refine lv_iconst (v := 0) B.1 B.2.1 dL_setRate_1 (by decide) ?_
  refine lv_aload_n B.1 B.2.1 dL_setRate_2 rfl (lv_at hl 0 rfl) ?_
  refine lv_iload_n B.1 B.2.1 dL_setRate_3 rfl (lv_at hl 1 rfl) ?_
  refine lv_iload_n B.1 B.2.1 dL_setRate_4 rfl (lv_at hl 2 rfl) ?_
  refine mb_xV (as := [.inl x1, .inl x2]) (n := 2) (d2 := 4) (ci := 5) (N := 6) (rest := [.int 0, .ref (G.2.2 (30, 0, 0))]) B va_S.rf hw hl.1 ⟨⟨by decide, by decide⟩, ⟨trivial, ⟨trivial, trivial⟩⟩⟩ (Nat.le_of_ble_eq_true rfl) (C_X5_setRate hst hg hf) (mb_gV wl_L_33 mi_X5_setRate ms_X5_setRate mn_X5 mc_X5_setRate) (by decide +kernel) rfl rfl rfl ⟨by show 8 + 4 + 1 ≤ 8 + 5; decide, by show _ ≤ 128 + 64 * 5; decide, Nat.le_of_ble_eq_true rfl, Nat.le_of_ble_eq_true rfl⟩ rfl dL_setRate_5 (fun v H1 locs1 hv _ hwd hS1 _ _ => ?_) (fun E ce q9 H1 locs1 hv hwd hS1 _ _ hce hcv hcl => ?_)
  · cases hv
  · cases hv
    refine vx_catch (name := "java/lang/IllegalArgumentException") B.2.2.2.1 [⟨0, 10, 13, 36⟩] ⟨0, 10, 17, 13⟩ [] (by rw [htab]; rfl) (fun z hz => by rw [List.mem_singleton] at hz; subst hz; exact Or.inr ⟨by decide, "java/lang/IndexOutOfBoundsException", B.2.2.2.2.1 _ wc_L_36, B.2.2.2.2.2.2.2.2.2.2 ("java/lang/IllegalArgumentException", "java/lang/IndexOutOfBoundsException") (by decide)⟩) (by decide) (by decide) (B.2.2.2.2.1 _ wc_L_13) (va_Nw.use (by decide) (B.2.2.2.2.2.2.1.2.2.2 _ fc_IAE)) hce hcv hcl ?_
    refine lv_astore (lv' := [(4, .ref q9), (0, .ref (G.2.2 (0, 0, 0))), (1, .int x1), (2, .int x2), (3, .ref (G.2.2 (30, 0, 0)))]) B.1 B.2.1 dL_setRate_17 hl (by decide) rfl (fun ls hl => ?_)
    refine lv_iconst (v := 2) B.1 B.2.1 dL_setRate_19 (by decide) ?_
    exact mb_hret B hS1 hwd hrt hlk dL_setRate_20
set_option maxRecDepth 100000 in
set_option maxHeartbeats 4000000 in
theorem H_berth_r {l : Launch} {G : mb_G} (hst : l.stackTraces = false) (hg : mb_gok G) {x1 : Int32} {x2 : Int32} {h h1 : mb_AH} {v : Int32} (hf : F_X5_berth x1 x2 h = some (.inl (some (.inl v)), h1)) : mb_Mh l G yL_berth cL_berth 5 [(0, 10, 13, 36), (0, 10, 17, 13)] 4 0 0 [mb_F 0 0 0, .inl x1, .inl x2, mb_F 30 0 0] h (.inl (some (.inl 0)), mb_sL h1 30 0 0 0 v.toInt64) := by
  refine mb_hentry (own := RL) (lv := [(0, .ref (G.2.2 (0, 0, 0))), (1, .int x1), (2, .int x2), (3, .ref (G.2.2 (30, 0, 0)))]) (by decide +kernel) rfl (Nat.le_of_ble_eq_true rfl) rfl hg (fun p e s m args below meth c ls B hlk hrt htab hw hl => ?_) (fun _ => trivial)
  refine lv_aload_n B.1 B.2.1 dL_berth_0 rfl (lv_at hl 3 rfl) ?_
  refine lv_iconst (v := 0) B.1 B.2.1 dL_berth_1 (by decide) ?_
  refine lv_aload_n B.1 B.2.1 dL_berth_2 rfl (lv_at hl 0 rfl) ?_
  refine lv_iload_n B.1 B.2.1 dL_berth_3 rfl (lv_at hl 1 rfl) ?_
  refine lv_iload_n B.1 B.2.1 dL_berth_4 rfl (lv_at hl 2 rfl) ?_
  refine mb_xV (as := [.inl x1, .inl x2]) (n := 2) (d2 := 3) (ci := 5) (N := 6) (rest := [.int 0, .ref (G.2.2 (30, 0, 0))]) B va_S.rf hw hl.1 ⟨⟨by decide, by decide⟩, ⟨trivial, ⟨trivial, trivial⟩⟩⟩ (Nat.le_of_ble_eq_true rfl) (C_X5_berth hst hg hf) (mb_gV wl_L_38 mi_X5_berth ms_X5_berth mn_X5 mc_X5_berth) (by decide +kernel) rfl rfl rfl ⟨by show 8 + 3 + 1 ≤ 8 + 4; decide, by show _ ≤ 128 + 64 * 4; decide, Nat.le_of_ble_eq_true rfl, Nat.le_of_ble_eq_true rfl⟩ rfl dL_berth_5 (fun v H1 locs1 hv _ hwd hS1 _ _ => ?_) (fun E ce q9 H1 locs1 hv hwd hS1 _ _ hce hcv hcl => ?_)
  · cases hv
    refine lv_i2l B.1 B.2.1 dL_berth_8 rfl ?_
    refine mb_lastout B hS1 hwd dL_berth_9 (fun H2 locs2 hwd2 hS2 => ?_) rfl
    refine lv_goto (tgt := 21) B.1 B.2.1 dL_berth_10 (by decide) ?_
    refine lv_iconst (v := 0) B.1 B.2.1 dL_berth_21 (by decide) ?_
    exact mb_hret B hS2 hwd2 hrt hlk dL_berth_22
  · cases hv
set_option maxRecDepth 100000 in
set_option maxHeartbeats 4000000 in
theorem H_berth_t1 {l : Launch} {G : mb_G} (hst : l.stackTraces = false) (hg : mb_gok G) {x1 : Int32} {x2 : Int32} {h h1 : mb_AH} (hf : F_X5_berth x1 x2 h = some (.inr "java/lang/IndexOutOfBoundsException", h1)) : mb_Mh l G yL_berth cL_berth 5 [(0, 10, 13, 36), (0, 10, 17, 13)] 4 1 6 [mb_F 0 0 0, .inl x1, .inl x2, mb_F 30 0 0] h (.inl (some (.inl 1)), h1) := by
  refine mb_hentry (own := RL) (lv := [(0, .ref (G.2.2 (0, 0, 0))), (1, .int x1), (2, .int x2), (3, .ref (G.2.2 (30, 0, 0)))]) (by decide +kernel) rfl (Nat.le_of_ble_eq_true rfl) rfl hg (fun p e s m args below meth c ls B hlk hrt htab hw hl => ?_) (fun _ => trivial)
  refine lv_aload_n B.1 B.2.1 dL_berth_0 rfl (lv_at hl 3 rfl) ?_
  refine lv_iconst (v := 0) B.1 B.2.1 dL_berth_1 (by decide) ?_
  refine lv_aload_n B.1 B.2.1 dL_berth_2 rfl (lv_at hl 0 rfl) ?_
  refine lv_iload_n B.1 B.2.1 dL_berth_3 rfl (lv_at hl 1 rfl) ?_
  refine lv_iload_n B.1 B.2.1 dL_berth_4 rfl (lv_at hl 2 rfl) ?_
  refine mb_xV (as := [.inl x1, .inl x2]) (n := 2) (d2 := 3) (ci := 5) (N := 6) (rest := [.int 0, .ref (G.2.2 (30, 0, 0))]) B va_S.rf hw hl.1 ⟨⟨by decide, by decide⟩, ⟨trivial, ⟨trivial, trivial⟩⟩⟩ (Nat.le_of_ble_eq_true rfl) (C_X5_berth hst hg hf) (mb_gV wl_L_38 mi_X5_berth ms_X5_berth mn_X5 mc_X5_berth) (by decide +kernel) rfl rfl rfl ⟨by show 8 + 3 + 1 ≤ 8 + 4; decide, by show _ ≤ 128 + 64 * 4; decide, Nat.le_of_ble_eq_true rfl, Nat.le_of_ble_eq_true rfl⟩ rfl dL_berth_5 (fun v H1 locs1 hv _ hwd hS1 _ _ => ?_) (fun E ce q9 H1 locs1 hv hwd hS1 _ _ hce hcv hcl => ?_)
  · cases hv
  · cases hv
    refine vx_catch (name := "java/lang/IndexOutOfBoundsException") B.2.2.2.1 [] ⟨0, 10, 13, 36⟩ [⟨0, 10, 17, 13⟩] (by rw [htab]; rfl) (fun z hz => nomatch hz) (by decide) (by decide) (B.2.2.2.2.1 _ wc_L_36) (va_Nw.use (by decide) (B.2.2.2.2.2.2.1.2.2.2 _ fc_IOE)) hce hcv hcl ?_
    refine lv_astore (lv' := [(4, .ref q9), (0, .ref (G.2.2 (0, 0, 0))), (1, .int x1), (2, .int x2), (3, .ref (G.2.2 (30, 0, 0)))]) B.1 B.2.1 dL_berth_13 hl (by decide) rfl (fun ls hl => ?_)
    refine lv_iconst (v := 1) B.1 B.2.1 dL_berth_15 (by decide) ?_
    exact mb_hret B hS1 hwd hrt hlk dL_berth_16
set_option maxRecDepth 100000 in
set_option maxHeartbeats 4000000 in
theorem H_berth_t2 {l : Launch} {G : mb_G} (hst : l.stackTraces = false) (hg : mb_gok G) {x1 : Int32} {x2 : Int32} {h h1 : mb_AH} (hf : F_X5_berth x1 x2 h = some (.inr "java/lang/IllegalArgumentException", h1)) : mb_Mh l G yL_berth cL_berth 5 [(0, 10, 13, 36), (0, 10, 17, 13)] 4 1 6 [mb_F 0 0 0, .inl x1, .inl x2, mb_F 30 0 0] h (.inl (some (.inl 2)), h1) := by
  refine mb_hentry (own := RL) (lv := [(0, .ref (G.2.2 (0, 0, 0))), (1, .int x1), (2, .int x2), (3, .ref (G.2.2 (30, 0, 0)))]) (by decide +kernel) rfl (Nat.le_of_ble_eq_true rfl) rfl hg (fun p e s m args below meth c ls B hlk hrt htab hw hl => ?_) (fun _ => trivial)
  refine lv_aload_n B.1 B.2.1 dL_berth_0 rfl (lv_at hl 3 rfl) ?_
  refine lv_iconst (v := 0) B.1 B.2.1 dL_berth_1 (by decide) ?_
  refine lv_aload_n B.1 B.2.1 dL_berth_2 rfl (lv_at hl 0 rfl) ?_
  refine lv_iload_n B.1 B.2.1 dL_berth_3 rfl (lv_at hl 1 rfl) ?_
  refine lv_iload_n B.1 B.2.1 dL_berth_4 rfl (lv_at hl 2 rfl) ?_
  refine mb_xV (as := [.inl x1, .inl x2]) (n := 2) (d2 := 3) (ci := 5) (N := 6) (rest := [.int 0, .ref (G.2.2 (30, 0, 0))]) B va_S.rf hw hl.1 ⟨⟨by decide, by decide⟩, ⟨trivial, ⟨trivial, trivial⟩⟩⟩ (Nat.le_of_ble_eq_true rfl) (C_X5_berth hst hg hf) (mb_gV wl_L_38 mi_X5_berth ms_X5_berth mn_X5 mc_X5_berth) (by decide +kernel) rfl rfl rfl ⟨by show 8 + 3 + 1 ≤ 8 + 4; decide, by show _ ≤ 128 + 64 * 4; decide, Nat.le_of_ble_eq_true rfl, Nat.le_of_ble_eq_true rfl⟩ rfl dL_berth_5 (fun v H1 locs1 hv _ hwd hS1 _ _ => ?_) (fun E ce q9 H1 locs1 hv hwd hS1 _ _ hce hcv hcl => ?_)
  · cases hv
  · cases hv
    refine vx_catch (name := "java/lang/IllegalArgumentException") B.2.2.2.1 [⟨0, 10, 13, 36⟩] ⟨0, 10, 17, 13⟩ [] (by rw [htab]; rfl) (fun z hz => by rw [List.mem_singleton] at hz; subst hz; exact Or.inr ⟨by decide, "java/lang/IndexOutOfBoundsException", B.2.2.2.2.1 _ wc_L_36, B.2.2.2.2.2.2.2.2.2.2 ("java/lang/IllegalArgumentException", "java/lang/IndexOutOfBoundsException") (by decide)⟩) (by decide) (by decide) (B.2.2.2.2.1 _ wc_L_13) (va_Nw.use (by decide) (B.2.2.2.2.2.2.1.2.2.2 _ fc_IAE)) hce hcv hcl ?_
    refine lv_astore (lv' := [(4, .ref q9), (0, .ref (G.2.2 (0, 0, 0))), (1, .int x1), (2, .int x2), (3, .ref (G.2.2 (30, 0, 0)))]) B.1 B.2.1 dL_berth_17 hl (by decide) rfl (fun ls hl => ?_)
    refine lv_iconst (v := 2) B.1 B.2.1 dL_berth_19 (by decide) ?_
    exact mb_hret B hS1 hwd hrt hlk dL_berth_20
set_option maxRecDepth 100000 in
set_option maxHeartbeats 4000000 in
theorem H_boat_r {l : Launch} {G : mb_G} (hst : l.stackTraces = false) (hg : mb_gok G) {x1 : Int32} {x2 : Int32} {h h1 : mb_AH} {v : Int32} (hf : F_X5_boat x1 x2 h = some (.inl (some (.inl v)), h1)) : mb_Mh l G yL_boat cL_boat 5 [(0, 10, 13, 36), (0, 10, 17, 13)] 4 0 0 [mb_F 0 0 0, .inl x1, .inl x2, mb_F 30 0 0] h (.inl (some (.inl 0)), mb_sL h1 30 0 0 0 v.toInt64) := by
  refine mb_hentry (own := RL) (lv := [(0, .ref (G.2.2 (0, 0, 0))), (1, .int x1), (2, .int x2), (3, .ref (G.2.2 (30, 0, 0)))]) (by decide +kernel) rfl (Nat.le_of_ble_eq_true rfl) rfl hg (fun p e s m args below meth c ls B hlk hrt htab hw hl => ?_) (fun _ => trivial)
  refine lv_aload_n B.1 B.2.1 dL_boat_0 rfl (lv_at hl 3 rfl) ?_
  refine lv_iconst (v := 0) B.1 B.2.1 dL_boat_1 (by decide) ?_
  refine lv_aload_n B.1 B.2.1 dL_boat_2 rfl (lv_at hl 0 rfl) ?_
  refine lv_iload_n B.1 B.2.1 dL_boat_3 rfl (lv_at hl 1 rfl) ?_
  refine lv_iload_n B.1 B.2.1 dL_boat_4 rfl (lv_at hl 2 rfl) ?_
  refine mb_xV (as := [.inl x1, .inl x2]) (n := 2) (d2 := 3) (ci := 5) (N := 6) (rest := [.int 0, .ref (G.2.2 (30, 0, 0))]) B va_S.rf hw hl.1 ⟨⟨by decide, by decide⟩, ⟨trivial, ⟨trivial, trivial⟩⟩⟩ (Nat.le_of_ble_eq_true rfl) (C_X5_boat hst hg hf) (mb_gV wl_L_41 mi_X5_boat ms_X5_boat mn_X5 mc_X5_boat) (by decide +kernel) rfl rfl rfl ⟨by show 8 + 3 + 1 ≤ 8 + 4; decide, by show _ ≤ 128 + 64 * 4; decide, Nat.le_of_ble_eq_true rfl, Nat.le_of_ble_eq_true rfl⟩ rfl dL_boat_5 (fun v H1 locs1 hv _ hwd hS1 _ _ => ?_) (fun E ce q9 H1 locs1 hv hwd hS1 _ _ hce hcv hcl => ?_)
  · cases hv
    refine lv_i2l B.1 B.2.1 dL_boat_8 rfl ?_
    refine mb_lastout B hS1 hwd dL_boat_9 (fun H2 locs2 hwd2 hS2 => ?_) rfl
    refine lv_goto (tgt := 21) B.1 B.2.1 dL_boat_10 (by decide) ?_
    refine lv_iconst (v := 0) B.1 B.2.1 dL_boat_21 (by decide) ?_
    exact mb_hret B hS2 hwd2 hrt hlk dL_boat_22
  · cases hv
set_option maxRecDepth 100000 in
set_option maxHeartbeats 4000000 in
theorem H_boat_t1 {l : Launch} {G : mb_G} (hst : l.stackTraces = false) (hg : mb_gok G) {x1 : Int32} {x2 : Int32} {h h1 : mb_AH} (hf : F_X5_boat x1 x2 h = some (.inr "java/lang/IndexOutOfBoundsException", h1)) : mb_Mh l G yL_boat cL_boat 5 [(0, 10, 13, 36), (0, 10, 17, 13)] 4 1 6 [mb_F 0 0 0, .inl x1, .inl x2, mb_F 30 0 0] h (.inl (some (.inl 1)), h1) := by
  refine mb_hentry (own := RL) (lv := [(0, .ref (G.2.2 (0, 0, 0))), (1, .int x1), (2, .int x2), (3, .ref (G.2.2 (30, 0, 0)))]) (by decide +kernel) rfl (Nat.le_of_ble_eq_true rfl) rfl hg (fun p e s m args below meth c ls B hlk hrt htab hw hl => ?_) (fun _ => trivial)
  refine lv_aload_n B.1 B.2.1 dL_boat_0 rfl (lv_at hl 3 rfl) ?_
  refine lv_iconst (v := 0) B.1 B.2.1 dL_boat_1 (by decide) ?_
  refine lv_aload_n B.1 B.2.1 dL_boat_2 rfl (lv_at hl 0 rfl) ?_
  refine lv_iload_n B.1 B.2.1 dL_boat_3 rfl (lv_at hl 1 rfl) ?_
  refine lv_iload_n B.1 B.2.1 dL_boat_4 rfl (lv_at hl 2 rfl) ?_
  refine mb_xV (as := [.inl x1, .inl x2]) (n := 2) (d2 := 3) (ci := 5) (N := 6) (rest := [.int 0, .ref (G.2.2 (30, 0, 0))]) B va_S.rf hw hl.1 ⟨⟨by decide, by decide⟩, ⟨trivial, ⟨trivial, trivial⟩⟩⟩ (Nat.le_of_ble_eq_true rfl) (C_X5_boat hst hg hf) (mb_gV wl_L_41 mi_X5_boat ms_X5_boat mn_X5 mc_X5_boat) (by decide +kernel) rfl rfl rfl ⟨by show 8 + 3 + 1 ≤ 8 + 4; decide, by show _ ≤ 128 + 64 * 4; decide, Nat.le_of_ble_eq_true rfl, Nat.le_of_ble_eq_true rfl⟩ rfl dL_boat_5 (fun v H1 locs1 hv _ hwd hS1 _ _ => ?_) (fun E ce q9 H1 locs1 hv hwd hS1 _ _ hce hcv hcl => ?_)
  · cases hv
  · cases hv
    refine vx_catch (name := "java/lang/IndexOutOfBoundsException") B.2.2.2.1 [] ⟨0, 10, 13, 36⟩ [⟨0, 10, 17, 13⟩] (by rw [htab]; rfl) (fun z hz => nomatch hz) (by decide) (by decide) (B.2.2.2.2.1 _ wc_L_36) (va_Nw.use (by decide) (B.2.2.2.2.2.2.1.2.2.2 _ fc_IOE)) hce hcv hcl ?_
    refine lv_astore (lv' := [(4, .ref q9), (0, .ref (G.2.2 (0, 0, 0))), (1, .int x1), (2, .int x2), (3, .ref (G.2.2 (30, 0, 0)))]) B.1 B.2.1 dL_boat_13 hl (by decide) rfl (fun ls hl => ?_)
    refine lv_iconst (v := 1) B.1 B.2.1 dL_boat_15 (by decide) ?_
    exact mb_hret B hS1 hwd hrt hlk dL_boat_16
set_option maxRecDepth 100000 in
set_option maxHeartbeats 4000000 in
theorem H_boat_t2 {l : Launch} {G : mb_G} (hst : l.stackTraces = false) (hg : mb_gok G) {x1 : Int32} {x2 : Int32} {h h1 : mb_AH} (hf : F_X5_boat x1 x2 h = some (.inr "java/lang/IllegalArgumentException", h1)) : mb_Mh l G yL_boat cL_boat 5 [(0, 10, 13, 36), (0, 10, 17, 13)] 4 1 6 [mb_F 0 0 0, .inl x1, .inl x2, mb_F 30 0 0] h (.inl (some (.inl 2)), h1) := by
  refine mb_hentry (own := RL) (lv := [(0, .ref (G.2.2 (0, 0, 0))), (1, .int x1), (2, .int x2), (3, .ref (G.2.2 (30, 0, 0)))]) (by decide +kernel) rfl (Nat.le_of_ble_eq_true rfl) rfl hg (fun p e s m args below meth c ls B hlk hrt htab hw hl => ?_) (fun _ => trivial)
  refine lv_aload_n B.1 B.2.1 dL_boat_0 rfl (lv_at hl 3 rfl) ?_
  refine lv_iconst (v := 0) B.1 B.2.1 dL_boat_1 (by decide) ?_
  refine lv_aload_n B.1 B.2.1 dL_boat_2 rfl (lv_at hl 0 rfl) ?_
  refine lv_iload_n B.1 B.2.1 dL_boat_3 rfl (lv_at hl 1 rfl) ?_
  refine lv_iload_n B.1 B.2.1 dL_boat_4 rfl (lv_at hl 2 rfl) ?_
  refine mb_xV (as := [.inl x1, .inl x2]) (n := 2) (d2 := 3) (ci := 5) (N := 6) (rest := [.int 0, .ref (G.2.2 (30, 0, 0))]) B va_S.rf hw hl.1 ⟨⟨by decide, by decide⟩, ⟨trivial, ⟨trivial, trivial⟩⟩⟩ (Nat.le_of_ble_eq_true rfl) (C_X5_boat hst hg hf) (mb_gV wl_L_41 mi_X5_boat ms_X5_boat mn_X5 mc_X5_boat) (by decide +kernel) rfl rfl rfl ⟨by show 8 + 3 + 1 ≤ 8 + 4; decide, by show _ ≤ 128 + 64 * 4; decide, Nat.le_of_ble_eq_true rfl, Nat.le_of_ble_eq_true rfl⟩ rfl dL_boat_5 (fun v H1 locs1 hv _ hwd hS1 _ _ => ?_) (fun E ce q9 H1 locs1 hv hwd hS1 _ _ hce hcv hcl => ?_)
  · cases hv
  · cases hv
    refine vx_catch (name := "java/lang/IllegalArgumentException") B.2.2.2.1 [⟨0, 10, 13, 36⟩] ⟨0, 10, 17, 13⟩ [] (by rw [htab]; rfl) (fun z hz => by rw [List.mem_singleton] at hz; subst hz; exact Or.inr ⟨by decide, "java/lang/IndexOutOfBoundsException", B.2.2.2.2.1 _ wc_L_36, B.2.2.2.2.2.2.2.2.2.2 ("java/lang/IllegalArgumentException", "java/lang/IndexOutOfBoundsException") (by decide)⟩) (by decide) (by decide) (B.2.2.2.2.1 _ wc_L_13) (va_Nw.use (by decide) (B.2.2.2.2.2.2.1.2.2.2 _ fc_IAE)) hce hcv hcl ?_
    refine lv_astore (lv' := [(4, .ref q9), (0, .ref (G.2.2 (0, 0, 0))), (1, .int x1), (2, .int x2), (3, .ref (G.2.2 (30, 0, 0)))]) B.1 B.2.1 dL_boat_17 hl (by decide) rfl (fun ls hl => ?_)
    refine lv_iconst (v := 2) B.1 B.2.1 dL_boat_19 (by decide) ?_
    exact mb_hret B hS1 hwd hrt hlk dL_boat_20
set_option maxRecDepth 100000 in
set_option maxHeartbeats 4000000 in
theorem H_fits_r0 {l : Launch} {G : mb_G} (hst : l.stackTraces = false) (hg : mb_gok G) {x1 : Int32} {x2 : Int32} {h h1 : mb_AH} (hf : F_X5_fits x1 x2 h = some (.inl (some (.inl 0)), h1)) : mb_Mh l G yL_fits cL_fits 5 [(0, 17, 20, 36)] 3 0 0 [mb_F 0 0 0, .inl x1, .inl x2, mb_F 30 0 0] h (.inl (some (.inl 0)), mb_sL h1 30 0 0 0 0) := by
  refine mb_hentry (own := RL) (lv := [(0, .ref (G.2.2 (0, 0, 0))), (1, .int x1), (2, .int x2), (3, .ref (G.2.2 (30, 0, 0)))]) (by decide +kernel) rfl (Nat.le_of_ble_eq_true rfl) rfl hg (fun p e s m args below meth c ls B hlk hrt htab hw hl => ?_) (fun _ => trivial)
  refine lv_aload_n B.1 B.2.1 dL_fits_0 rfl (lv_at hl 3 rfl) ?_
  refine lv_iconst (v := 0) B.1 B.2.1 dL_fits_1 (by decide) ?_
  refine lv_aload_n B.1 B.2.1 dL_fits_2 rfl (lv_at hl 0 rfl) ?_
  refine lv_iload_n B.1 B.2.1 dL_fits_3 rfl (lv_at hl 1 rfl) ?_
  refine lv_iload_n B.1 B.2.1 dL_fits_4 rfl (lv_at hl 2 rfl) ?_
  refine mb_xV (as := [.inl x1, .inl x2]) (n := 2) (d2 := 2) (ci := 5) (N := 6) (rest := [.int 0, .ref (G.2.2 (30, 0, 0))]) B va_S.rf hw hl.1 ⟨⟨by decide, by decide⟩, ⟨trivial, ⟨trivial, trivial⟩⟩⟩ (Nat.le_of_ble_eq_true rfl) (C_X5_fits hst hg hf) (mb_gV wl_L_44 mi_X5_fits ms_X5_fits mn_X5 mc_X5_fits) (by decide +kernel) rfl rfl rfl ⟨by show 8 + 2 + 1 ≤ 8 + 3; decide, by show _ ≤ 128 + 64 * 3; decide, Nat.le_of_ble_eq_true rfl, Nat.le_of_ble_eq_true rfl⟩ rfl dL_fits_5 (fun v H1 locs1 hv _ hwd hS1 _ _ => ?_) (fun E ce q9 H1 locs1 hv hwd hS1 _ _ hce hcv hcl => ?_)
  · cases hv
    refine lv_if_eq (tgt := 15) B.1 B.2.1 dL_fits_8 (by decide) (fun _ => ?_) (fun z9 => absurd rfl z9)
    refine lv_lconst (v := 0) B.1 B.2.1 dL_fits_15 (by decide) ?_
    refine mb_lastout B hS1 hwd dL_fits_16 (fun H2 locs2 hwd2 hS2 => ?_) rfl
    refine lv_goto (tgt := 24) B.1 B.2.1 dL_fits_17 (by decide) ?_
    refine lv_iconst (v := 0) B.1 B.2.1 dL_fits_24 (by decide) ?_
    exact mb_hret B hS2 hwd2 hrt hlk dL_fits_25
  · cases hv
set_option maxRecDepth 100000 in
set_option maxHeartbeats 4000000 in
theorem H_fits_r1 {l : Launch} {G : mb_G} (hst : l.stackTraces = false) (hg : mb_gok G) {x1 : Int32} {x2 : Int32} {h h1 : mb_AH} (hf : F_X5_fits x1 x2 h = some (.inl (some (.inl 1)), h1)) : mb_Mh l G yL_fits cL_fits 5 [(0, 17, 20, 36)] 3 0 0 [mb_F 0 0 0, .inl x1, .inl x2, mb_F 30 0 0] h (.inl (some (.inl 0)), mb_sL h1 30 0 0 0 1) := by
  refine mb_hentry (own := RL) (lv := [(0, .ref (G.2.2 (0, 0, 0))), (1, .int x1), (2, .int x2), (3, .ref (G.2.2 (30, 0, 0)))]) (by decide +kernel) rfl (Nat.le_of_ble_eq_true rfl) rfl hg (fun p e s m args below meth c ls B hlk hrt htab hw hl => ?_) (fun _ => trivial)
  refine lv_aload_n B.1 B.2.1 dL_fits_0 rfl (lv_at hl 3 rfl) ?_
  refine lv_iconst (v := 0) B.1 B.2.1 dL_fits_1 (by decide) ?_
  refine lv_aload_n B.1 B.2.1 dL_fits_2 rfl (lv_at hl 0 rfl) ?_
  refine lv_iload_n B.1 B.2.1 dL_fits_3 rfl (lv_at hl 1 rfl) ?_
  refine lv_iload_n B.1 B.2.1 dL_fits_4 rfl (lv_at hl 2 rfl) ?_
  refine mb_xV (as := [.inl x1, .inl x2]) (n := 2) (d2 := 2) (ci := 5) (N := 6) (rest := [.int 0, .ref (G.2.2 (30, 0, 0))]) B va_S.rf hw hl.1 ⟨⟨by decide, by decide⟩, ⟨trivial, ⟨trivial, trivial⟩⟩⟩ (Nat.le_of_ble_eq_true rfl) (C_X5_fits hst hg hf) (mb_gV wl_L_44 mi_X5_fits ms_X5_fits mn_X5 mc_X5_fits) (by decide +kernel) rfl rfl rfl ⟨by show 8 + 2 + 1 ≤ 8 + 3; decide, by show _ ≤ 128 + 64 * 3; decide, Nat.le_of_ble_eq_true rfl, Nat.le_of_ble_eq_true rfl⟩ rfl dL_fits_5 (fun v H1 locs1 hv _ hwd hS1 _ _ => ?_) (fun E ce q9 H1 locs1 hv hwd hS1 _ _ hce hcv hcl => ?_)
  · cases hv
    refine lv_if_eq (tgt := 15) B.1 B.2.1 dL_fits_8 (by decide) (fun z9 => absurd z9 (by decide)) (fun _ => ?_)
    refine lv_lconst (v := 1) B.1 B.2.1 dL_fits_11 (by decide) ?_
    refine lv_goto (tgt := 16) B.1 B.2.1 dL_fits_12 (by decide) ?_
    refine mb_lastout B hS1 hwd dL_fits_16 (fun H2 locs2 hwd2 hS2 => ?_) rfl
    refine lv_goto (tgt := 24) B.1 B.2.1 dL_fits_17 (by decide) ?_
    refine lv_iconst (v := 0) B.1 B.2.1 dL_fits_24 (by decide) ?_
    exact mb_hret B hS2 hwd2 hrt hlk dL_fits_25
  · cases hv
set_option maxRecDepth 100000 in
set_option maxHeartbeats 4000000 in
theorem H_fits_t1 {l : Launch} {G : mb_G} (hst : l.stackTraces = false) (hg : mb_gok G) {x1 : Int32} {x2 : Int32} {h h1 : mb_AH} (hf : F_X5_fits x1 x2 h = some (.inr "java/lang/IndexOutOfBoundsException", h1)) : mb_Mh l G yL_fits cL_fits 5 [(0, 17, 20, 36)] 3 1 6 [mb_F 0 0 0, .inl x1, .inl x2, mb_F 30 0 0] h (.inl (some (.inl 1)), h1) := by
  refine mb_hentry (own := RL) (lv := [(0, .ref (G.2.2 (0, 0, 0))), (1, .int x1), (2, .int x2), (3, .ref (G.2.2 (30, 0, 0)))]) (by decide +kernel) rfl (Nat.le_of_ble_eq_true rfl) rfl hg (fun p e s m args below meth c ls B hlk hrt htab hw hl => ?_) (fun _ => trivial)
  refine lv_aload_n B.1 B.2.1 dL_fits_0 rfl (lv_at hl 3 rfl) ?_
  refine lv_iconst (v := 0) B.1 B.2.1 dL_fits_1 (by decide) ?_
  refine lv_aload_n B.1 B.2.1 dL_fits_2 rfl (lv_at hl 0 rfl) ?_
  refine lv_iload_n B.1 B.2.1 dL_fits_3 rfl (lv_at hl 1 rfl) ?_
  refine lv_iload_n B.1 B.2.1 dL_fits_4 rfl (lv_at hl 2 rfl) ?_
  refine mb_xV (as := [.inl x1, .inl x2]) (n := 2) (d2 := 2) (ci := 5) (N := 6) (rest := [.int 0, .ref (G.2.2 (30, 0, 0))]) B va_S.rf hw hl.1 ⟨⟨by decide, by decide⟩, ⟨trivial, ⟨trivial, trivial⟩⟩⟩ (Nat.le_of_ble_eq_true rfl) (C_X5_fits hst hg hf) (mb_gV wl_L_44 mi_X5_fits ms_X5_fits mn_X5 mc_X5_fits) (by decide +kernel) rfl rfl rfl ⟨by show 8 + 2 + 1 ≤ 8 + 3; decide, by show _ ≤ 128 + 64 * 3; decide, Nat.le_of_ble_eq_true rfl, Nat.le_of_ble_eq_true rfl⟩ rfl dL_fits_5 (fun v H1 locs1 hv _ hwd hS1 _ _ => ?_) (fun E ce q9 H1 locs1 hv hwd hS1 _ _ hce hcv hcl => ?_)
  · cases hv
  · cases hv
    refine vx_catch (name := "java/lang/IndexOutOfBoundsException") B.2.2.2.1 [] ⟨0, 17, 20, 36⟩ [] (by rw [htab]; rfl) (fun z hz => nomatch hz) (by decide) (by decide) (B.2.2.2.2.1 _ wc_L_36) (va_Nw.use (by decide) (B.2.2.2.2.2.2.1.2.2.2 _ fc_IOE)) hce hcv hcl ?_
    refine lv_astore (lv' := [(4, .ref q9), (0, .ref (G.2.2 (0, 0, 0))), (1, .int x1), (2, .int x2), (3, .ref (G.2.2 (30, 0, 0)))]) B.1 B.2.1 dL_fits_20 hl (by decide) rfl (fun ls hl => ?_)
    refine lv_iconst (v := 1) B.1 B.2.1 dL_fits_22 (by decide) ?_
    exact mb_hret B hS1 hwd hrt hlk dL_fits_23
set_option maxRecDepth 100000 in
set_option maxHeartbeats 4000000 in
theorem H_info_r {l : Launch} {G : mb_G} (hst : l.stackTraces = false) (hg : mb_gok G) {x1 : Int32} {h h1 : mb_AH} {v : Int32} (hf : F_X5_info x1 h = some (.inl (some (.inl v)), h1)) : mb_Mh l G yL_info cL_info 4 [(0, 9, 12, 13)] 5 0 0 [mb_F 0 0 0, .inl x1, mb_F 30 0 0] h (.inl (some (.inl 0)), mb_sL h1 30 0 0 0 v.toInt64) := by
  refine mb_hentry (own := RL) (lv := [(0, .ref (G.2.2 (0, 0, 0))), (1, .int x1), (2, .ref (G.2.2 (30, 0, 0)))]) (by decide +kernel) rfl (Nat.le_of_ble_eq_true rfl) rfl hg (fun p e s m args below meth c ls B hlk hrt htab hw hl => ?_) (fun _ => trivial)
  refine lv_aload_n B.1 B.2.1 dL_info_0 rfl (lv_at hl 2 rfl) ?_
  refine lv_iconst (v := 0) B.1 B.2.1 dL_info_1 (by decide) ?_
  refine lv_aload_n B.1 B.2.1 dL_info_2 rfl (lv_at hl 0 rfl) ?_
  refine lv_iload_n B.1 B.2.1 dL_info_3 rfl (lv_at hl 1 rfl) ?_
  refine mb_xV (as := [.inl x1]) (n := 1) (d2 := 4) (ci := 5) (N := 6) (rest := [.int 0, .ref (G.2.2 (30, 0, 0))]) B va_S.rf hw hl.1 ⟨⟨by decide, by decide⟩, ⟨trivial, trivial⟩⟩ (Nat.le_of_ble_eq_true rfl) (C_X5_info hst hg hf) (mb_gV wl_L_48 mi_X5_info ms_X5_info mn_X5 mc_X5_info) (by decide +kernel) rfl rfl rfl ⟨by show 8 + 4 + 1 ≤ 8 + 5; decide, by show _ ≤ 128 + 64 * 5; decide, Nat.le_of_ble_eq_true rfl, Nat.le_of_ble_eq_true rfl⟩ rfl dL_info_4 (fun v H1 locs1 hv _ hwd hS1 _ _ => ?_) (fun E ce q9 H1 locs1 hv hwd hS1 _ _ hce hcv hcl => ?_)
  · cases hv
    refine lv_i2l B.1 B.2.1 dL_info_7 rfl ?_
    refine mb_lastout B hS1 hwd dL_info_8 (fun H2 locs2 hwd2 hS2 => ?_) rfl
    refine lv_goto (tgt := 15) B.1 B.2.1 dL_info_9 (by decide) ?_
    refine lv_iconst (v := 0) B.1 B.2.1 dL_info_15 (by decide) ?_
    exact mb_hret B hS2 hwd2 hrt hlk dL_info_16
  · cases hv
set_option maxRecDepth 100000 in
set_option maxHeartbeats 4000000 in
theorem H_info_t1 {l : Launch} {G : mb_G} (hst : l.stackTraces = false) (hg : mb_gok G) {x1 : Int32} {h h1 : mb_AH} (hf : F_X5_info x1 h = some (.inr "java/lang/IllegalArgumentException", h1)) : mb_Mh l G yL_info cL_info 4 [(0, 9, 12, 13)] 5 1 6 [mb_F 0 0 0, .inl x1, mb_F 30 0 0] h (.inl (some (.inl 1)), h1) := by
  refine mb_hentry (own := RL) (lv := [(0, .ref (G.2.2 (0, 0, 0))), (1, .int x1), (2, .ref (G.2.2 (30, 0, 0)))]) (by decide +kernel) rfl (Nat.le_of_ble_eq_true rfl) rfl hg (fun p e s m args below meth c ls B hlk hrt htab hw hl => ?_) (fun _ => trivial)
  refine lv_aload_n B.1 B.2.1 dL_info_0 rfl (lv_at hl 2 rfl) ?_
  refine lv_iconst (v := 0) B.1 B.2.1 dL_info_1 (by decide) ?_
  refine lv_aload_n B.1 B.2.1 dL_info_2 rfl (lv_at hl 0 rfl) ?_
  refine lv_iload_n B.1 B.2.1 dL_info_3 rfl (lv_at hl 1 rfl) ?_
  refine mb_xV (as := [.inl x1]) (n := 1) (d2 := 4) (ci := 5) (N := 6) (rest := [.int 0, .ref (G.2.2 (30, 0, 0))]) B va_S.rf hw hl.1 ⟨⟨by decide, by decide⟩, ⟨trivial, trivial⟩⟩ (Nat.le_of_ble_eq_true rfl) (C_X5_info hst hg hf) (mb_gV wl_L_48 mi_X5_info ms_X5_info mn_X5 mc_X5_info) (by decide +kernel) rfl rfl rfl ⟨by show 8 + 4 + 1 ≤ 8 + 5; decide, by show _ ≤ 128 + 64 * 5; decide, Nat.le_of_ble_eq_true rfl, Nat.le_of_ble_eq_true rfl⟩ rfl dL_info_4 (fun v H1 locs1 hv _ hwd hS1 _ _ => ?_) (fun E ce q9 H1 locs1 hv hwd hS1 _ _ hce hcv hcl => ?_)
  · cases hv
  · cases hv
    refine vx_catch (name := "java/lang/IllegalArgumentException") B.2.2.2.1 [] ⟨0, 9, 12, 13⟩ [] (by rw [htab]; rfl) (fun z hz => nomatch hz) (by decide) (by decide) (B.2.2.2.2.1 _ wc_L_13) (va_Nw.use (by decide) (B.2.2.2.2.2.2.1.2.2.2 _ fc_IAE)) hce hcv hcl ?_
    refine lv_astore_n (lv' := [(3, .ref q9), (0, .ref (G.2.2 (0, 0, 0))), (1, .int x1), (2, .ref (G.2.2 (30, 0, 0)))]) B.1 B.2.1 dL_info_12 rfl hl (by decide) rfl (fun ls hl => ?_)
    refine lv_iconst (v := 1) B.1 B.2.1 dL_info_13 (by decide) ?_
    exact mb_hret B hS1 hwd hrt hlk dL_info_14
set_option maxRecDepth 100000 in
set_option maxHeartbeats 4000000 in
theorem H_place_r {l : Launch} {G : mb_G} (hst : l.stackTraces = false) (hg : mb_gok G) {x1 : Int32} {x2 : Int32} {h h1 : mb_AH} {v : Int32} (hf : F_X5_place x1 x2 h = some (.inl (some (.inl v)), h1)) : mb_Mh l G yL_place cL_place 5 [(0, 10, 13, 36), (0, 10, 17, 23)] 5 0 0 [mb_F 0 0 0, .inl x1, .inl x2, mb_F 30 0 0] h (.inl (some (.inl 0)), mb_sL h1 30 0 0 0 v.toInt64) := by
  refine mb_hentry (own := RL) (lv := [(0, .ref (G.2.2 (0, 0, 0))), (1, .int x1), (2, .int x2), (3, .ref (G.2.2 (30, 0, 0)))]) (by decide +kernel) rfl (Nat.le_of_ble_eq_true rfl) rfl hg (fun p e s m args below meth c ls B hlk hrt htab hw hl => ?_) (fun _ => trivial)
  refine lv_aload_n B.1 B.2.1 dL_place_0 rfl (lv_at hl 3 rfl) ?_
  refine lv_iconst (v := 0) B.1 B.2.1 dL_place_1 (by decide) ?_
  refine lv_aload_n B.1 B.2.1 dL_place_2 rfl (lv_at hl 0 rfl) ?_
  refine lv_iload_n B.1 B.2.1 dL_place_3 rfl (lv_at hl 1 rfl) ?_
  refine lv_iload_n B.1 B.2.1 dL_place_4 rfl (lv_at hl 2 rfl) ?_
  refine mb_xV (as := [.inl x1, .inl x2]) (n := 2) (d2 := 4) (ci := 5) (N := 6) (rest := [.int 0, .ref (G.2.2 (30, 0, 0))]) B va_S.rf hw hl.1 ⟨⟨by decide, by decide⟩, ⟨trivial, ⟨trivial, trivial⟩⟩⟩ (Nat.le_of_ble_eq_true rfl) (C_X5_place hst hg hf) (mb_gV wl_L_51 mi_X5_place ms_X5_place mn_X5 mc_X5_place) (by decide +kernel) rfl rfl rfl ⟨by show 8 + 4 + 1 ≤ 8 + 5; decide, by show _ ≤ 128 + 64 * 5; decide, Nat.le_of_ble_eq_true rfl, Nat.le_of_ble_eq_true rfl⟩ rfl dL_place_5 (fun v H1 locs1 hv _ hwd hS1 _ _ => ?_) (fun E ce q9 H1 locs1 hv hwd hS1 _ _ hce hcv hcl => ?_)
  · cases hv
    refine lv_i2l B.1 B.2.1 dL_place_8 rfl ?_
    refine mb_lastout B hS1 hwd dL_place_9 (fun H2 locs2 hwd2 hS2 => ?_) rfl
    refine lv_goto (tgt := 21) B.1 B.2.1 dL_place_10 (by decide) ?_
    refine lv_iconst (v := 0) B.1 B.2.1 dL_place_21 (by decide) ?_
    exact mb_hret B hS2 hwd2 hrt hlk dL_place_22
  · cases hv
set_option maxRecDepth 100000 in
set_option maxHeartbeats 4000000 in
theorem H_place_t1 {l : Launch} {G : mb_G} (hst : l.stackTraces = false) (hg : mb_gok G) {x1 : Int32} {x2 : Int32} {h h1 : mb_AH} (hf : F_X5_place x1 x2 h = some (.inr "java/lang/IndexOutOfBoundsException", h1)) : mb_Mh l G yL_place cL_place 5 [(0, 10, 13, 36), (0, 10, 17, 23)] 5 1 6 [mb_F 0 0 0, .inl x1, .inl x2, mb_F 30 0 0] h (.inl (some (.inl 1)), h1) := by
  refine mb_hentry (own := RL) (lv := [(0, .ref (G.2.2 (0, 0, 0))), (1, .int x1), (2, .int x2), (3, .ref (G.2.2 (30, 0, 0)))]) (by decide +kernel) rfl (Nat.le_of_ble_eq_true rfl) rfl hg (fun p e s m args below meth c ls B hlk hrt htab hw hl => ?_) (fun _ => trivial)
  refine lv_aload_n B.1 B.2.1 dL_place_0 rfl (lv_at hl 3 rfl) ?_
  refine lv_iconst (v := 0) B.1 B.2.1 dL_place_1 (by decide) ?_
  refine lv_aload_n B.1 B.2.1 dL_place_2 rfl (lv_at hl 0 rfl) ?_
  refine lv_iload_n B.1 B.2.1 dL_place_3 rfl (lv_at hl 1 rfl) ?_
  refine lv_iload_n B.1 B.2.1 dL_place_4 rfl (lv_at hl 2 rfl) ?_
  refine mb_xV (as := [.inl x1, .inl x2]) (n := 2) (d2 := 4) (ci := 5) (N := 6) (rest := [.int 0, .ref (G.2.2 (30, 0, 0))]) B va_S.rf hw hl.1 ⟨⟨by decide, by decide⟩, ⟨trivial, ⟨trivial, trivial⟩⟩⟩ (Nat.le_of_ble_eq_true rfl) (C_X5_place hst hg hf) (mb_gV wl_L_51 mi_X5_place ms_X5_place mn_X5 mc_X5_place) (by decide +kernel) rfl rfl rfl ⟨by show 8 + 4 + 1 ≤ 8 + 5; decide, by show _ ≤ 128 + 64 * 5; decide, Nat.le_of_ble_eq_true rfl, Nat.le_of_ble_eq_true rfl⟩ rfl dL_place_5 (fun v H1 locs1 hv _ hwd hS1 _ _ => ?_) (fun E ce q9 H1 locs1 hv hwd hS1 _ _ hce hcv hcl => ?_)
  · cases hv
  · cases hv
    refine vx_catch (name := "java/lang/IndexOutOfBoundsException") B.2.2.2.1 [] ⟨0, 10, 13, 36⟩ [⟨0, 10, 17, 23⟩] (by rw [htab]; rfl) (fun z hz => nomatch hz) (by decide) (by decide) (B.2.2.2.2.1 _ wc_L_36) (va_Nw.use (by decide) (B.2.2.2.2.2.2.1.2.2.2 _ fc_IOE)) hce hcv hcl ?_
    refine lv_astore (lv' := [(4, .ref q9), (0, .ref (G.2.2 (0, 0, 0))), (1, .int x1), (2, .int x2), (3, .ref (G.2.2 (30, 0, 0)))]) B.1 B.2.1 dL_place_13 hl (by decide) rfl (fun ls hl => ?_)
    refine lv_iconst (v := 1) B.1 B.2.1 dL_place_15 (by decide) ?_
    exact mb_hret B hS1 hwd hrt hlk dL_place_16
set_option maxRecDepth 100000 in
set_option maxHeartbeats 4000000 in
theorem H_place_t2 {l : Launch} {G : mb_G} (hst : l.stackTraces = false) (hg : mb_gok G) {x1 : Int32} {x2 : Int32} {h h1 : mb_AH} (hf : F_X5_place x1 x2 h = some (.inr "java/lang/IllegalStateException", h1)) : mb_Mh l G yL_place cL_place 5 [(0, 10, 13, 36), (0, 10, 17, 23)] 5 1 6 [mb_F 0 0 0, .inl x1, .inl x2, mb_F 30 0 0] h (.inl (some (.inl 2)), h1) := by
  refine mb_hentry (own := RL) (lv := [(0, .ref (G.2.2 (0, 0, 0))), (1, .int x1), (2, .int x2), (3, .ref (G.2.2 (30, 0, 0)))]) (by decide +kernel) rfl (Nat.le_of_ble_eq_true rfl) rfl hg (fun p e s m args below meth c ls B hlk hrt htab hw hl => ?_) (fun _ => trivial)
  refine lv_aload_n B.1 B.2.1 dL_place_0 rfl (lv_at hl 3 rfl) ?_
  refine lv_iconst (v := 0) B.1 B.2.1 dL_place_1 (by decide) ?_
  refine lv_aload_n B.1 B.2.1 dL_place_2 rfl (lv_at hl 0 rfl) ?_
  refine lv_iload_n B.1 B.2.1 dL_place_3 rfl (lv_at hl 1 rfl) ?_
  refine lv_iload_n B.1 B.2.1 dL_place_4 rfl (lv_at hl 2 rfl) ?_
  refine mb_xV (as := [.inl x1, .inl x2]) (n := 2) (d2 := 4) (ci := 5) (N := 6) (rest := [.int 0, .ref (G.2.2 (30, 0, 0))]) B va_S.rf hw hl.1 ⟨⟨by decide, by decide⟩, ⟨trivial, ⟨trivial, trivial⟩⟩⟩ (Nat.le_of_ble_eq_true rfl) (C_X5_place hst hg hf) (mb_gV wl_L_51 mi_X5_place ms_X5_place mn_X5 mc_X5_place) (by decide +kernel) rfl rfl rfl ⟨by show 8 + 4 + 1 ≤ 8 + 5; decide, by show _ ≤ 128 + 64 * 5; decide, Nat.le_of_ble_eq_true rfl, Nat.le_of_ble_eq_true rfl⟩ rfl dL_place_5 (fun v H1 locs1 hv _ hwd hS1 _ _ => ?_) (fun E ce q9 H1 locs1 hv hwd hS1 _ _ hce hcv hcl => ?_)
  · cases hv
  · cases hv
    refine vx_catch (name := "java/lang/IllegalStateException") B.2.2.2.1 [⟨0, 10, 13, 36⟩] ⟨0, 10, 17, 23⟩ [] (by rw [htab]; rfl) (fun z hz => by rw [List.mem_singleton] at hz; subst hz; exact Or.inr ⟨by decide, "java/lang/IndexOutOfBoundsException", B.2.2.2.2.1 _ wc_L_36, B.2.2.2.2.2.2.2.2.2.2 ("java/lang/IllegalStateException", "java/lang/IndexOutOfBoundsException") (by decide)⟩) (by decide) (by decide) (B.2.2.2.2.1 _ wc_L_23) (va_Nw.use (by decide) (B.2.2.2.2.2.2.1.2.2.2 _ fc_ISE)) hce hcv hcl ?_
    refine lv_astore (lv' := [(4, .ref q9), (0, .ref (G.2.2 (0, 0, 0))), (1, .int x1), (2, .int x2), (3, .ref (G.2.2 (30, 0, 0)))]) B.1 B.2.1 dL_place_17 hl (by decide) rfl (fun ls hl => ?_)
    refine lv_iconst (v := 2) B.1 B.2.1 dL_place_19 (by decide) ?_
    exact mb_hret B hS1 hwd hrt hlk dL_place_20
set_option maxRecDepth 100000 in
set_option maxHeartbeats 4000000 in
theorem H_leave_r {l : Launch} {G : mb_G} (hst : l.stackTraces = false) (hg : mb_gok G) {x1 : Int32} {h h1 : mb_AH} {v : Int32} (hf : F_X5_leave x1 h = some (.inl (some (.inl v)), h1)) : mb_Mh l G yL_leave cL_leave 4 [(0, 9, 12, 36), (0, 9, 15, 23)] 5 0 0 [mb_F 0 0 0, .inl x1, mb_F 30 0 0] h (.inl (some (.inl 0)), mb_sL h1 30 0 0 0 v.toInt64) := by
  refine mb_hentry (own := RL) (lv := [(0, .ref (G.2.2 (0, 0, 0))), (1, .int x1), (2, .ref (G.2.2 (30, 0, 0)))]) (by decide +kernel) rfl (Nat.le_of_ble_eq_true rfl) rfl hg (fun p e s m args below meth c ls B hlk hrt htab hw hl => ?_) (fun _ => trivial)
  refine lv_aload_n B.1 B.2.1 dL_leave_0 rfl (lv_at hl 2 rfl) ?_
  refine lv_iconst (v := 0) B.1 B.2.1 dL_leave_1 (by decide) ?_
  refine lv_aload_n B.1 B.2.1 dL_leave_2 rfl (lv_at hl 0 rfl) ?_
  refine lv_iload_n B.1 B.2.1 dL_leave_3 rfl (lv_at hl 1 rfl) ?_
  refine mb_xV (as := [.inl x1]) (n := 1) (d2 := 4) (ci := 5) (N := 6) (rest := [.int 0, .ref (G.2.2 (30, 0, 0))]) B va_S.rf hw hl.1 ⟨⟨by decide, by decide⟩, ⟨trivial, trivial⟩⟩ (Nat.le_of_ble_eq_true rfl) (C_X5_leave hst hg hf) (mb_gV wl_L_54 mi_X5_leave ms_X5_leave mn_X5 mc_X5_leave) (by decide +kernel) rfl rfl rfl ⟨by show 8 + 4 + 1 ≤ 8 + 5; decide, by show _ ≤ 128 + 64 * 5; decide, Nat.le_of_ble_eq_true rfl, Nat.le_of_ble_eq_true rfl⟩ rfl dL_leave_4 (fun v H1 locs1 hv _ hwd hS1 _ _ => ?_) (fun E ce q9 H1 locs1 hv hwd hS1 _ _ hce hcv hcl => ?_)
  · cases hv
    refine lv_i2l B.1 B.2.1 dL_leave_7 rfl ?_
    refine mb_lastout B hS1 hwd dL_leave_8 (fun H2 locs2 hwd2 hS2 => ?_) rfl
    refine lv_goto (tgt := 18) B.1 B.2.1 dL_leave_9 (by decide) ?_
    refine lv_iconst (v := 0) B.1 B.2.1 dL_leave_18 (by decide) ?_
    exact mb_hret B hS2 hwd2 hrt hlk dL_leave_19
  · cases hv
set_option maxRecDepth 100000 in
set_option maxHeartbeats 4000000 in
theorem H_leave_t1 {l : Launch} {G : mb_G} (hst : l.stackTraces = false) (hg : mb_gok G) {x1 : Int32} {h h1 : mb_AH} (hf : F_X5_leave x1 h = some (.inr "java/lang/IndexOutOfBoundsException", h1)) : mb_Mh l G yL_leave cL_leave 4 [(0, 9, 12, 36), (0, 9, 15, 23)] 5 1 6 [mb_F 0 0 0, .inl x1, mb_F 30 0 0] h (.inl (some (.inl 1)), h1) := by
  refine mb_hentry (own := RL) (lv := [(0, .ref (G.2.2 (0, 0, 0))), (1, .int x1), (2, .ref (G.2.2 (30, 0, 0)))]) (by decide +kernel) rfl (Nat.le_of_ble_eq_true rfl) rfl hg (fun p e s m args below meth c ls B hlk hrt htab hw hl => ?_) (fun _ => trivial)
  refine lv_aload_n B.1 B.2.1 dL_leave_0 rfl (lv_at hl 2 rfl) ?_
  refine lv_iconst (v := 0) B.1 B.2.1 dL_leave_1 (by decide) ?_
  refine lv_aload_n B.1 B.2.1 dL_leave_2 rfl (lv_at hl 0 rfl) ?_
  refine lv_iload_n B.1 B.2.1 dL_leave_3 rfl (lv_at hl 1 rfl) ?_
  refine mb_xV (as := [.inl x1]) (n := 1) (d2 := 4) (ci := 5) (N := 6) (rest := [.int 0, .ref (G.2.2 (30, 0, 0))]) B va_S.rf hw hl.1 ⟨⟨by decide, by decide⟩, ⟨trivial, trivial⟩⟩ (Nat.le_of_ble_eq_true rfl) (C_X5_leave hst hg hf) (mb_gV wl_L_54 mi_X5_leave ms_X5_leave mn_X5 mc_X5_leave) (by decide +kernel) rfl rfl rfl ⟨by show 8 + 4 + 1 ≤ 8 + 5; decide, by show _ ≤ 128 + 64 * 5; decide, Nat.le_of_ble_eq_true rfl, Nat.le_of_ble_eq_true rfl⟩ rfl dL_leave_4 (fun v H1 locs1 hv _ hwd hS1 _ _ => ?_) (fun E ce q9 H1 locs1 hv hwd hS1 _ _ hce hcv hcl => ?_)
  · cases hv
  · cases hv
    refine vx_catch (name := "java/lang/IndexOutOfBoundsException") B.2.2.2.1 [] ⟨0, 9, 12, 36⟩ [⟨0, 9, 15, 23⟩] (by rw [htab]; rfl) (fun z hz => nomatch hz) (by decide) (by decide) (B.2.2.2.2.1 _ wc_L_36) (va_Nw.use (by decide) (B.2.2.2.2.2.2.1.2.2.2 _ fc_IOE)) hce hcv hcl ?_
    refine lv_astore_n (lv' := [(3, .ref q9), (0, .ref (G.2.2 (0, 0, 0))), (1, .int x1), (2, .ref (G.2.2 (30, 0, 0)))]) B.1 B.2.1 dL_leave_12 rfl hl (by decide) rfl (fun ls hl => ?_)
    refine lv_iconst (v := 1) B.1 B.2.1 dL_leave_13 (by decide) ?_
    exact mb_hret B hS1 hwd hrt hlk dL_leave_14
set_option maxRecDepth 100000 in
set_option maxHeartbeats 4000000 in
theorem H_leave_t2 {l : Launch} {G : mb_G} (hst : l.stackTraces = false) (hg : mb_gok G) {x1 : Int32} {h h1 : mb_AH} (hf : F_X5_leave x1 h = some (.inr "java/lang/IllegalStateException", h1)) : mb_Mh l G yL_leave cL_leave 4 [(0, 9, 12, 36), (0, 9, 15, 23)] 5 1 6 [mb_F 0 0 0, .inl x1, mb_F 30 0 0] h (.inl (some (.inl 2)), h1) := by
  refine mb_hentry (own := RL) (lv := [(0, .ref (G.2.2 (0, 0, 0))), (1, .int x1), (2, .ref (G.2.2 (30, 0, 0)))]) (by decide +kernel) rfl (Nat.le_of_ble_eq_true rfl) rfl hg (fun p e s m args below meth c ls B hlk hrt htab hw hl => ?_) (fun _ => trivial)
  refine lv_aload_n B.1 B.2.1 dL_leave_0 rfl (lv_at hl 2 rfl) ?_
  refine lv_iconst (v := 0) B.1 B.2.1 dL_leave_1 (by decide) ?_
  refine lv_aload_n B.1 B.2.1 dL_leave_2 rfl (lv_at hl 0 rfl) ?_
  refine lv_iload_n B.1 B.2.1 dL_leave_3 rfl (lv_at hl 1 rfl) ?_
  refine mb_xV (as := [.inl x1]) (n := 1) (d2 := 4) (ci := 5) (N := 6) (rest := [.int 0, .ref (G.2.2 (30, 0, 0))]) B va_S.rf hw hl.1 ⟨⟨by decide, by decide⟩, ⟨trivial, trivial⟩⟩ (Nat.le_of_ble_eq_true rfl) (C_X5_leave hst hg hf) (mb_gV wl_L_54 mi_X5_leave ms_X5_leave mn_X5 mc_X5_leave) (by decide +kernel) rfl rfl rfl ⟨by show 8 + 4 + 1 ≤ 8 + 5; decide, by show _ ≤ 128 + 64 * 5; decide, Nat.le_of_ble_eq_true rfl, Nat.le_of_ble_eq_true rfl⟩ rfl dL_leave_4 (fun v H1 locs1 hv _ hwd hS1 _ _ => ?_) (fun E ce q9 H1 locs1 hv hwd hS1 _ _ hce hcv hcl => ?_)
  · cases hv
  · cases hv
    refine vx_catch (name := "java/lang/IllegalStateException") B.2.2.2.1 [⟨0, 9, 12, 36⟩] ⟨0, 9, 15, 23⟩ [] (by rw [htab]; rfl) (fun z hz => by rw [List.mem_singleton] at hz; subst hz; exact Or.inr ⟨by decide, "java/lang/IndexOutOfBoundsException", B.2.2.2.2.1 _ wc_L_36, B.2.2.2.2.2.2.2.2.2.2 ("java/lang/IllegalStateException", "java/lang/IndexOutOfBoundsException") (by decide)⟩) (by decide) (by decide) (B.2.2.2.2.1 _ wc_L_23) (va_Nw.use (by decide) (B.2.2.2.2.2.2.1.2.2.2 _ fc_ISE)) hce hcv hcl ?_
    refine lv_astore_n (lv' := [(3, .ref q9), (0, .ref (G.2.2 (0, 0, 0))), (1, .int x1), (2, .ref (G.2.2 (30, 0, 0)))]) B.1 B.2.1 dL_leave_15 rfl hl (by decide) rfl (fun ls hl => ?_)
    refine lv_iconst (v := 2) B.1 B.2.1 dL_leave_16 (by decide) ?_
    exact mb_hret B hS1 hwd hrt hlk dL_leave_17
set_option maxRecDepth 100000 in
set_option maxHeartbeats 4000000 in
theorem H_change_r {l : Launch} {G : mb_G} (hst : l.stackTraces = false) (hg : mb_gok G) {x1 : Int32} {x2 : Int32} {h h1 : mb_AH} {v : Int32} (hf : F_X5_change x1 x2 h = some (.inl (some (.inl v)), h1)) : mb_Mh l G yL_change cL_change 5 [(0, 10, 13, 36), (0, 10, 17, 13), (0, 10, 21, 23)] 5 0 0 [mb_F 0 0 0, .inl x1, .inl x2, mb_F 30 0 0] h (.inl (some (.inl 0)), mb_sL h1 30 0 0 0 v.toInt64) := by
  refine mb_hentry (own := RL) (lv := [(0, .ref (G.2.2 (0, 0, 0))), (1, .int x1), (2, .int x2), (3, .ref (G.2.2 (30, 0, 0)))]) (by decide +kernel) rfl (Nat.le_of_ble_eq_true rfl) rfl hg (fun p e s m args below meth c ls B hlk hrt htab hw hl => ?_) (fun _ => trivial)
  refine lv_aload_n B.1 B.2.1 dL_change_0 rfl (lv_at hl 3 rfl) ?_
  refine lv_iconst (v := 0) B.1 B.2.1 dL_change_1 (by decide) ?_
  refine lv_aload_n B.1 B.2.1 dL_change_2 rfl (lv_at hl 0 rfl) ?_
  refine lv_iload_n B.1 B.2.1 dL_change_3 rfl (lv_at hl 1 rfl) ?_
  refine lv_iload_n B.1 B.2.1 dL_change_4 rfl (lv_at hl 2 rfl) ?_
  refine mb_xV (as := [.inl x1, .inl x2]) (n := 2) (d2 := 4) (ci := 5) (N := 6) (rest := [.int 0, .ref (G.2.2 (30, 0, 0))]) B va_S.rf hw hl.1 ⟨⟨by decide, by decide⟩, ⟨trivial, ⟨trivial, trivial⟩⟩⟩ (Nat.le_of_ble_eq_true rfl) (C_X5_change hst hg hf) (mb_gV wl_L_57 mi_X5_change ms_X5_change mn_X5 mc_X5_change) (by decide +kernel) rfl rfl rfl ⟨by show 8 + 4 + 1 ≤ 8 + 5; decide, by show _ ≤ 128 + 64 * 5; decide, Nat.le_of_ble_eq_true rfl, Nat.le_of_ble_eq_true rfl⟩ rfl dL_change_5 (fun v H1 locs1 hv _ hwd hS1 _ _ => ?_) (fun E ce q9 H1 locs1 hv hwd hS1 _ _ hce hcv hcl => ?_)
  · cases hv
    refine lv_i2l B.1 B.2.1 dL_change_8 rfl ?_
    refine mb_lastout B hS1 hwd dL_change_9 (fun H2 locs2 hwd2 hS2 => ?_) rfl
    refine lv_goto (tgt := 25) B.1 B.2.1 dL_change_10 (by decide) ?_
    refine lv_iconst (v := 0) B.1 B.2.1 dL_change_25 (by decide) ?_
    exact mb_hret B hS2 hwd2 hrt hlk dL_change_26
  · cases hv
set_option maxRecDepth 100000 in
set_option maxHeartbeats 4000000 in
theorem H_change_t1 {l : Launch} {G : mb_G} (hst : l.stackTraces = false) (hg : mb_gok G) {x1 : Int32} {x2 : Int32} {h h1 : mb_AH} (hf : F_X5_change x1 x2 h = some (.inr "java/lang/IndexOutOfBoundsException", h1)) : mb_Mh l G yL_change cL_change 5 [(0, 10, 13, 36), (0, 10, 17, 13), (0, 10, 21, 23)] 5 1 6 [mb_F 0 0 0, .inl x1, .inl x2, mb_F 30 0 0] h (.inl (some (.inl 1)), h1) := by
  refine mb_hentry (own := RL) (lv := [(0, .ref (G.2.2 (0, 0, 0))), (1, .int x1), (2, .int x2), (3, .ref (G.2.2 (30, 0, 0)))]) (by decide +kernel) rfl (Nat.le_of_ble_eq_true rfl) rfl hg (fun p e s m args below meth c ls B hlk hrt htab hw hl => ?_) (fun _ => trivial)
  refine lv_aload_n B.1 B.2.1 dL_change_0 rfl (lv_at hl 3 rfl) ?_
  refine lv_iconst (v := 0) B.1 B.2.1 dL_change_1 (by decide) ?_
  refine lv_aload_n B.1 B.2.1 dL_change_2 rfl (lv_at hl 0 rfl) ?_
  refine lv_iload_n B.1 B.2.1 dL_change_3 rfl (lv_at hl 1 rfl) ?_
  refine lv_iload_n B.1 B.2.1 dL_change_4 rfl (lv_at hl 2 rfl) ?_
  refine mb_xV (as := [.inl x1, .inl x2]) (n := 2) (d2 := 4) (ci := 5) (N := 6) (rest := [.int 0, .ref (G.2.2 (30, 0, 0))]) B va_S.rf hw hl.1 ⟨⟨by decide, by decide⟩, ⟨trivial, ⟨trivial, trivial⟩⟩⟩ (Nat.le_of_ble_eq_true rfl) (C_X5_change hst hg hf) (mb_gV wl_L_57 mi_X5_change ms_X5_change mn_X5 mc_X5_change) (by decide +kernel) rfl rfl rfl ⟨by show 8 + 4 + 1 ≤ 8 + 5; decide, by show _ ≤ 128 + 64 * 5; decide, Nat.le_of_ble_eq_true rfl, Nat.le_of_ble_eq_true rfl⟩ rfl dL_change_5 (fun v H1 locs1 hv _ hwd hS1 _ _ => ?_) (fun E ce q9 H1 locs1 hv hwd hS1 _ _ hce hcv hcl => ?_)
  · cases hv
  · cases hv
    refine vx_catch (name := "java/lang/IndexOutOfBoundsException") B.2.2.2.1 [] ⟨0, 10, 13, 36⟩ [⟨0, 10, 17, 13⟩, ⟨0, 10, 21, 23⟩] (by rw [htab]; rfl) (fun z hz => nomatch hz) (by decide) (by decide) (B.2.2.2.2.1 _ wc_L_36) (va_Nw.use (by decide) (B.2.2.2.2.2.2.1.2.2.2 _ fc_IOE)) hce hcv hcl ?_
    refine lv_astore (lv' := [(4, .ref q9), (0, .ref (G.2.2 (0, 0, 0))), (1, .int x1), (2, .int x2), (3, .ref (G.2.2 (30, 0, 0)))]) B.1 B.2.1 dL_change_13 hl (by decide) rfl (fun ls hl => ?_)
    refine lv_iconst (v := 1) B.1 B.2.1 dL_change_15 (by decide) ?_
    exact mb_hret B hS1 hwd hrt hlk dL_change_16
set_option maxRecDepth 100000 in
set_option maxHeartbeats 4000000 in
theorem H_change_t2 {l : Launch} {G : mb_G} (hst : l.stackTraces = false) (hg : mb_gok G) {x1 : Int32} {x2 : Int32} {h h1 : mb_AH} (hf : F_X5_change x1 x2 h = some (.inr "java/lang/IllegalArgumentException", h1)) : mb_Mh l G yL_change cL_change 5 [(0, 10, 13, 36), (0, 10, 17, 13), (0, 10, 21, 23)] 5 1 6 [mb_F 0 0 0, .inl x1, .inl x2, mb_F 30 0 0] h (.inl (some (.inl 2)), h1) := by
  refine mb_hentry (own := RL) (lv := [(0, .ref (G.2.2 (0, 0, 0))), (1, .int x1), (2, .int x2), (3, .ref (G.2.2 (30, 0, 0)))]) (by decide +kernel) rfl (Nat.le_of_ble_eq_true rfl) rfl hg (fun p e s m args below meth c ls B hlk hrt htab hw hl => ?_) (fun _ => trivial)
  refine lv_aload_n B.1 B.2.1 dL_change_0 rfl (lv_at hl 3 rfl) ?_
  refine lv_iconst (v := 0) B.1 B.2.1 dL_change_1 (by decide) ?_
  refine lv_aload_n B.1 B.2.1 dL_change_2 rfl (lv_at hl 0 rfl) ?_
  refine lv_iload_n B.1 B.2.1 dL_change_3 rfl (lv_at hl 1 rfl) ?_
  refine lv_iload_n B.1 B.2.1 dL_change_4 rfl (lv_at hl 2 rfl) ?_
  refine mb_xV (as := [.inl x1, .inl x2]) (n := 2) (d2 := 4) (ci := 5) (N := 6) (rest := [.int 0, .ref (G.2.2 (30, 0, 0))]) B va_S.rf hw hl.1 ⟨⟨by decide, by decide⟩, ⟨trivial, ⟨trivial, trivial⟩⟩⟩ (Nat.le_of_ble_eq_true rfl) (C_X5_change hst hg hf) (mb_gV wl_L_57 mi_X5_change ms_X5_change mn_X5 mc_X5_change) (by decide +kernel) rfl rfl rfl ⟨by show 8 + 4 + 1 ≤ 8 + 5; decide, by show _ ≤ 128 + 64 * 5; decide, Nat.le_of_ble_eq_true rfl, Nat.le_of_ble_eq_true rfl⟩ rfl dL_change_5 (fun v H1 locs1 hv _ hwd hS1 _ _ => ?_) (fun E ce q9 H1 locs1 hv hwd hS1 _ _ hce hcv hcl => ?_)
  · cases hv
  · cases hv
    refine vx_catch (name := "java/lang/IllegalArgumentException") B.2.2.2.1 [⟨0, 10, 13, 36⟩] ⟨0, 10, 17, 13⟩ [⟨0, 10, 21, 23⟩] (by rw [htab]; rfl) (fun z hz => by rw [List.mem_singleton] at hz; subst hz; exact Or.inr ⟨by decide, "java/lang/IndexOutOfBoundsException", B.2.2.2.2.1 _ wc_L_36, B.2.2.2.2.2.2.2.2.2.2 ("java/lang/IllegalArgumentException", "java/lang/IndexOutOfBoundsException") (by decide)⟩) (by decide) (by decide) (B.2.2.2.2.1 _ wc_L_13) (va_Nw.use (by decide) (B.2.2.2.2.2.2.1.2.2.2 _ fc_IAE)) hce hcv hcl ?_
    refine lv_astore (lv' := [(4, .ref q9), (0, .ref (G.2.2 (0, 0, 0))), (1, .int x1), (2, .int x2), (3, .ref (G.2.2 (30, 0, 0)))]) B.1 B.2.1 dL_change_17 hl (by decide) rfl (fun ls hl => ?_)
    refine lv_iconst (v := 2) B.1 B.2.1 dL_change_19 (by decide) ?_
    exact mb_hret B hS1 hwd hrt hlk dL_change_20
set_option maxRecDepth 100000 in
set_option maxHeartbeats 4000000 in
theorem H_change_t3 {l : Launch} {G : mb_G} (hst : l.stackTraces = false) (hg : mb_gok G) {x1 : Int32} {x2 : Int32} {h h1 : mb_AH} (hf : F_X5_change x1 x2 h = some (.inr "java/lang/IllegalStateException", h1)) : mb_Mh l G yL_change cL_change 5 [(0, 10, 13, 36), (0, 10, 17, 13), (0, 10, 21, 23)] 5 1 6 [mb_F 0 0 0, .inl x1, .inl x2, mb_F 30 0 0] h (.inl (some (.inl 3)), h1) := by
  refine mb_hentry (own := RL) (lv := [(0, .ref (G.2.2 (0, 0, 0))), (1, .int x1), (2, .int x2), (3, .ref (G.2.2 (30, 0, 0)))]) (by decide +kernel) rfl (Nat.le_of_ble_eq_true rfl) rfl hg (fun p e s m args below meth c ls B hlk hrt htab hw hl => ?_) (fun _ => trivial)
  refine lv_aload_n B.1 B.2.1 dL_change_0 rfl (lv_at hl 3 rfl) ?_
  refine lv_iconst (v := 0) B.1 B.2.1 dL_change_1 (by decide) ?_
  refine lv_aload_n B.1 B.2.1 dL_change_2 rfl (lv_at hl 0 rfl) ?_
  refine lv_iload_n B.1 B.2.1 dL_change_3 rfl (lv_at hl 1 rfl) ?_
  refine lv_iload_n B.1 B.2.1 dL_change_4 rfl (lv_at hl 2 rfl) ?_
  refine mb_xV (as := [.inl x1, .inl x2]) (n := 2) (d2 := 4) (ci := 5) (N := 6) (rest := [.int 0, .ref (G.2.2 (30, 0, 0))]) B va_S.rf hw hl.1 ⟨⟨by decide, by decide⟩, ⟨trivial, ⟨trivial, trivial⟩⟩⟩ (Nat.le_of_ble_eq_true rfl) (C_X5_change hst hg hf) (mb_gV wl_L_57 mi_X5_change ms_X5_change mn_X5 mc_X5_change) (by decide +kernel) rfl rfl rfl ⟨by show 8 + 4 + 1 ≤ 8 + 5; decide, by show _ ≤ 128 + 64 * 5; decide, Nat.le_of_ble_eq_true rfl, Nat.le_of_ble_eq_true rfl⟩ rfl dL_change_5 (fun v H1 locs1 hv _ hwd hS1 _ _ => ?_) (fun E ce q9 H1 locs1 hv hwd hS1 _ _ hce hcv hcl => ?_)
  · cases hv
  · cases hv
    refine vx_catch (name := "java/lang/IllegalStateException") B.2.2.2.1 [⟨0, 10, 13, 36⟩, ⟨0, 10, 17, 13⟩] ⟨0, 10, 21, 23⟩ [] (by rw [htab]; rfl) (fun z hz => by
      simp only [List.mem_cons, List.not_mem_nil, or_false] at hz
      rcases hz with rfl | rfl
      · exact Or.inr ⟨by decide, "java/lang/IndexOutOfBoundsException", B.2.2.2.2.1 _ wc_L_36, B.2.2.2.2.2.2.2.2.2.2 ("java/lang/IllegalStateException", "java/lang/IndexOutOfBoundsException") (by decide)⟩
      · exact Or.inr ⟨by decide, "java/lang/IllegalArgumentException", B.2.2.2.2.1 _ wc_L_13, B.2.2.2.2.2.2.2.2.2.2 ("java/lang/IllegalStateException", "java/lang/IllegalArgumentException") (by decide)⟩) (by decide) (by decide) (B.2.2.2.2.1 _ wc_L_23) (va_Nw.use (by decide) (B.2.2.2.2.2.2.1.2.2.2 _ fc_ISE)) hce hcv hcl ?_
    refine lv_astore (lv' := [(4, .ref q9), (0, .ref (G.2.2 (0, 0, 0))), (1, .int x1), (2, .int x2), (3, .ref (G.2.2 (30, 0, 0)))]) B.1 B.2.1 dL_change_21 hl (by decide) rfl (fun ls hl => ?_)
    refine lv_iconst (v := 3) B.1 B.2.1 dL_change_23 (by decide) ?_
    exact mb_hret B hS1 hwd hrt hlk dL_change_24
set_option maxRecDepth 100000 in
set_option maxHeartbeats 4000000 in
theorem H_await_r {l : Launch} {G : mb_G} (hst : l.stackTraces = false) (hg : mb_gok G) {x1 : Int32} {h h1 : mb_AH} {v : Int32} (hf : F_X5_await x1 h = some (.inl (some (.inl v)), h1)) : mb_Mh l G yL_await cL_await 4 [(0, 9, 12, 36), (0, 9, 15, 23)] 5 0 0 [mb_F 0 0 0, .inl x1, mb_F 30 0 0] h (.inl (some (.inl 0)), mb_sL h1 30 0 0 0 v.toInt64) := by
  refine mb_hentry (own := RL) (lv := [(0, .ref (G.2.2 (0, 0, 0))), (1, .int x1), (2, .ref (G.2.2 (30, 0, 0)))]) (by decide +kernel) rfl (Nat.le_of_ble_eq_true rfl) rfl hg (fun p e s m args below meth c ls B hlk hrt htab hw hl => ?_) (fun _ => trivial)
  refine lv_aload_n B.1 B.2.1 dL_await_0 rfl (lv_at hl 2 rfl) ?_
  refine lv_iconst (v := 0) B.1 B.2.1 dL_await_1 (by decide) ?_
  refine lv_aload_n B.1 B.2.1 dL_await_2 rfl (lv_at hl 0 rfl) ?_
  refine lv_iload_n B.1 B.2.1 dL_await_3 rfl (lv_at hl 1 rfl) ?_
  refine mb_xV (as := [.inl x1]) (n := 1) (d2 := 4) (ci := 5) (N := 6) (rest := [.int 0, .ref (G.2.2 (30, 0, 0))]) B va_S.rf hw hl.1 ⟨⟨by decide, by decide⟩, ⟨trivial, trivial⟩⟩ (Nat.le_of_ble_eq_true rfl) (C_X5_await hst hg hf) (mb_gV wl_L_60 mi_X5_await ms_X5_await mn_X5 mc_X5_await) (by decide +kernel) rfl rfl rfl ⟨by show 8 + 4 + 1 ≤ 8 + 5; decide, by show _ ≤ 128 + 64 * 5; decide, Nat.le_of_ble_eq_true rfl, Nat.le_of_ble_eq_true rfl⟩ rfl dL_await_4 (fun v H1 locs1 hv _ hwd hS1 _ _ => ?_) (fun E ce q9 H1 locs1 hv hwd hS1 _ _ hce hcv hcl => ?_)
  · cases hv
    refine lv_i2l B.1 B.2.1 dL_await_7 rfl ?_
    refine mb_lastout B hS1 hwd dL_await_8 (fun H2 locs2 hwd2 hS2 => ?_) rfl
    refine lv_goto (tgt := 18) B.1 B.2.1 dL_await_9 (by decide) ?_
    refine lv_iconst (v := 0) B.1 B.2.1 dL_await_18 (by decide) ?_
    exact mb_hret B hS2 hwd2 hrt hlk dL_await_19
  · cases hv
set_option maxRecDepth 100000 in
set_option maxHeartbeats 4000000 in
theorem H_await_t1 {l : Launch} {G : mb_G} (hst : l.stackTraces = false) (hg : mb_gok G) {x1 : Int32} {h h1 : mb_AH} (hf : F_X5_await x1 h = some (.inr "java/lang/IndexOutOfBoundsException", h1)) : mb_Mh l G yL_await cL_await 4 [(0, 9, 12, 36), (0, 9, 15, 23)] 5 1 6 [mb_F 0 0 0, .inl x1, mb_F 30 0 0] h (.inl (some (.inl 1)), h1) := by
  refine mb_hentry (own := RL) (lv := [(0, .ref (G.2.2 (0, 0, 0))), (1, .int x1), (2, .ref (G.2.2 (30, 0, 0)))]) (by decide +kernel) rfl (Nat.le_of_ble_eq_true rfl) rfl hg (fun p e s m args below meth c ls B hlk hrt htab hw hl => ?_) (fun _ => trivial)
  refine lv_aload_n B.1 B.2.1 dL_await_0 rfl (lv_at hl 2 rfl) ?_
  refine lv_iconst (v := 0) B.1 B.2.1 dL_await_1 (by decide) ?_
  refine lv_aload_n B.1 B.2.1 dL_await_2 rfl (lv_at hl 0 rfl) ?_
  refine lv_iload_n B.1 B.2.1 dL_await_3 rfl (lv_at hl 1 rfl) ?_
  refine mb_xV (as := [.inl x1]) (n := 1) (d2 := 4) (ci := 5) (N := 6) (rest := [.int 0, .ref (G.2.2 (30, 0, 0))]) B va_S.rf hw hl.1 ⟨⟨by decide, by decide⟩, ⟨trivial, trivial⟩⟩ (Nat.le_of_ble_eq_true rfl) (C_X5_await hst hg hf) (mb_gV wl_L_60 mi_X5_await ms_X5_await mn_X5 mc_X5_await) (by decide +kernel) rfl rfl rfl ⟨by show 8 + 4 + 1 ≤ 8 + 5; decide, by show _ ≤ 128 + 64 * 5; decide, Nat.le_of_ble_eq_true rfl, Nat.le_of_ble_eq_true rfl⟩ rfl dL_await_4 (fun v H1 locs1 hv _ hwd hS1 _ _ => ?_) (fun E ce q9 H1 locs1 hv hwd hS1 _ _ hce hcv hcl => ?_)
  · cases hv
  · cases hv
    refine vx_catch (name := "java/lang/IndexOutOfBoundsException") B.2.2.2.1 [] ⟨0, 9, 12, 36⟩ [⟨0, 9, 15, 23⟩] (by rw [htab]; rfl) (fun z hz => nomatch hz) (by decide) (by decide) (B.2.2.2.2.1 _ wc_L_36) (va_Nw.use (by decide) (B.2.2.2.2.2.2.1.2.2.2 _ fc_IOE)) hce hcv hcl ?_
    refine lv_astore_n (lv' := [(3, .ref q9), (0, .ref (G.2.2 (0, 0, 0))), (1, .int x1), (2, .ref (G.2.2 (30, 0, 0)))]) B.1 B.2.1 dL_await_12 rfl hl (by decide) rfl (fun ls hl => ?_)
    refine lv_iconst (v := 1) B.1 B.2.1 dL_await_13 (by decide) ?_
    exact mb_hret B hS1 hwd hrt hlk dL_await_14
set_option maxRecDepth 100000 in
set_option maxHeartbeats 4000000 in
theorem H_await_t2 {l : Launch} {G : mb_G} (hst : l.stackTraces = false) (hg : mb_gok G) {x1 : Int32} {h h1 : mb_AH} (hf : F_X5_await x1 h = some (.inr "java/lang/IllegalStateException", h1)) : mb_Mh l G yL_await cL_await 4 [(0, 9, 12, 36), (0, 9, 15, 23)] 5 1 6 [mb_F 0 0 0, .inl x1, mb_F 30 0 0] h (.inl (some (.inl 2)), h1) := by
  refine mb_hentry (own := RL) (lv := [(0, .ref (G.2.2 (0, 0, 0))), (1, .int x1), (2, .ref (G.2.2 (30, 0, 0)))]) (by decide +kernel) rfl (Nat.le_of_ble_eq_true rfl) rfl hg (fun p e s m args below meth c ls B hlk hrt htab hw hl => ?_) (fun _ => trivial)
  refine lv_aload_n B.1 B.2.1 dL_await_0 rfl (lv_at hl 2 rfl) ?_
  refine lv_iconst (v := 0) B.1 B.2.1 dL_await_1 (by decide) ?_
  refine lv_aload_n B.1 B.2.1 dL_await_2 rfl (lv_at hl 0 rfl) ?_
  refine lv_iload_n B.1 B.2.1 dL_await_3 rfl (lv_at hl 1 rfl) ?_
  refine mb_xV (as := [.inl x1]) (n := 1) (d2 := 4) (ci := 5) (N := 6) (rest := [.int 0, .ref (G.2.2 (30, 0, 0))]) B va_S.rf hw hl.1 ⟨⟨by decide, by decide⟩, ⟨trivial, trivial⟩⟩ (Nat.le_of_ble_eq_true rfl) (C_X5_await hst hg hf) (mb_gV wl_L_60 mi_X5_await ms_X5_await mn_X5 mc_X5_await) (by decide +kernel) rfl rfl rfl ⟨by show 8 + 4 + 1 ≤ 8 + 5; decide, by show _ ≤ 128 + 64 * 5; decide, Nat.le_of_ble_eq_true rfl, Nat.le_of_ble_eq_true rfl⟩ rfl dL_await_4 (fun v H1 locs1 hv _ hwd hS1 _ _ => ?_) (fun E ce q9 H1 locs1 hv hwd hS1 _ _ hce hcv hcl => ?_)
  · cases hv
  · cases hv
    refine vx_catch (name := "java/lang/IllegalStateException") B.2.2.2.1 [⟨0, 9, 12, 36⟩] ⟨0, 9, 15, 23⟩ [] (by rw [htab]; rfl) (fun z hz => by rw [List.mem_singleton] at hz; subst hz; exact Or.inr ⟨by decide, "java/lang/IndexOutOfBoundsException", B.2.2.2.2.1 _ wc_L_36, B.2.2.2.2.2.2.2.2.2.2 ("java/lang/IllegalStateException", "java/lang/IndexOutOfBoundsException") (by decide)⟩) (by decide) (by decide) (B.2.2.2.2.1 _ wc_L_23) (va_Nw.use (by decide) (B.2.2.2.2.2.2.1.2.2.2 _ fc_ISE)) hce hcv hcl ?_
    refine lv_astore_n (lv' := [(3, .ref q9), (0, .ref (G.2.2 (0, 0, 0))), (1, .int x1), (2, .ref (G.2.2 (30, 0, 0)))]) B.1 B.2.1 dL_await_15 rfl hl (by decide) rfl (fun ls hl => ?_)
    refine lv_iconst (v := 2) B.1 B.2.1 dL_await_16 (by decide) ?_
    exact mb_hret B hS1 hwd hrt hlk dL_await_17
set_option maxRecDepth 100000 in
set_option maxHeartbeats 4000000 in
theorem H_offer_r {l : Launch} {G : mb_G} (hst : l.stackTraces = false) (hg : mb_gok G) {x1 : Int32} {h h1 : mb_AH} {v : Int32} (hf : F_X5_offer x1 h = some (.inl (some (.inl v)), h1)) : mb_Mh l G yL_offer cL_offer 4 [(0, 9, 12, 36), (0, 9, 15, 23)] 5 0 0 [mb_F 0 0 0, .inl x1, mb_F 30 0 0] h (.inl (some (.inl 0)), mb_sL h1 30 0 0 0 v.toInt64) := by
  refine mb_hentry (own := RL) (lv := [(0, .ref (G.2.2 (0, 0, 0))), (1, .int x1), (2, .ref (G.2.2 (30, 0, 0)))]) (by decide +kernel) rfl (Nat.le_of_ble_eq_true rfl) rfl hg (fun p e s m args below meth c ls B hlk hrt htab hw hl => ?_) (fun _ => trivial)
  refine lv_aload_n B.1 B.2.1 dL_offer_0 rfl (lv_at hl 2 rfl) ?_
  refine lv_iconst (v := 0) B.1 B.2.1 dL_offer_1 (by decide) ?_
  refine lv_aload_n B.1 B.2.1 dL_offer_2 rfl (lv_at hl 0 rfl) ?_
  refine lv_iload_n B.1 B.2.1 dL_offer_3 rfl (lv_at hl 1 rfl) ?_
  refine mb_xV (as := [.inl x1]) (n := 1) (d2 := 4) (ci := 5) (N := 6) (rest := [.int 0, .ref (G.2.2 (30, 0, 0))]) B va_S.rf hw hl.1 ⟨⟨by decide, by decide⟩, ⟨trivial, trivial⟩⟩ (Nat.le_of_ble_eq_true rfl) (C_X5_offer hst hg hf) (mb_gV wl_L_63 mi_X5_offer ms_X5_offer mn_X5 mc_X5_offer) (by decide +kernel) rfl rfl rfl ⟨by show 8 + 4 + 1 ≤ 8 + 5; decide, by show _ ≤ 128 + 64 * 5; decide, Nat.le_of_ble_eq_true rfl, Nat.le_of_ble_eq_true rfl⟩ rfl dL_offer_4 (fun v H1 locs1 hv _ hwd hS1 _ _ => ?_) (fun E ce q9 H1 locs1 hv hwd hS1 _ _ hce hcv hcl => ?_)
  · cases hv
    refine lv_i2l B.1 B.2.1 dL_offer_7 rfl ?_
    refine mb_lastout B hS1 hwd dL_offer_8 (fun H2 locs2 hwd2 hS2 => ?_) rfl
    refine lv_goto (tgt := 18) B.1 B.2.1 dL_offer_9 (by decide) ?_
    refine lv_iconst (v := 0) B.1 B.2.1 dL_offer_18 (by decide) ?_
    exact mb_hret B hS2 hwd2 hrt hlk dL_offer_19
  · cases hv
set_option maxRecDepth 100000 in
set_option maxHeartbeats 4000000 in
theorem H_offer_t1 {l : Launch} {G : mb_G} (hst : l.stackTraces = false) (hg : mb_gok G) {x1 : Int32} {h h1 : mb_AH} (hf : F_X5_offer x1 h = some (.inr "java/lang/IndexOutOfBoundsException", h1)) : mb_Mh l G yL_offer cL_offer 4 [(0, 9, 12, 36), (0, 9, 15, 23)] 5 1 6 [mb_F 0 0 0, .inl x1, mb_F 30 0 0] h (.inl (some (.inl 1)), h1) := by
  refine mb_hentry (own := RL) (lv := [(0, .ref (G.2.2 (0, 0, 0))), (1, .int x1), (2, .ref (G.2.2 (30, 0, 0)))]) (by decide +kernel) rfl (Nat.le_of_ble_eq_true rfl) rfl hg (fun p e s m args below meth c ls B hlk hrt htab hw hl => ?_) (fun _ => trivial)
  refine lv_aload_n B.1 B.2.1 dL_offer_0 rfl (lv_at hl 2 rfl) ?_
  refine lv_iconst (v := 0) B.1 B.2.1 dL_offer_1 (by decide) ?_
  refine lv_aload_n B.1 B.2.1 dL_offer_2 rfl (lv_at hl 0 rfl) ?_
  refine lv_iload_n B.1 B.2.1 dL_offer_3 rfl (lv_at hl 1 rfl) ?_
  refine mb_xV (as := [.inl x1]) (n := 1) (d2 := 4) (ci := 5) (N := 6) (rest := [.int 0, .ref (G.2.2 (30, 0, 0))]) B va_S.rf hw hl.1 ⟨⟨by decide, by decide⟩, ⟨trivial, trivial⟩⟩ (Nat.le_of_ble_eq_true rfl) (C_X5_offer hst hg hf) (mb_gV wl_L_63 mi_X5_offer ms_X5_offer mn_X5 mc_X5_offer) (by decide +kernel) rfl rfl rfl ⟨by show 8 + 4 + 1 ≤ 8 + 5; decide, by show _ ≤ 128 + 64 * 5; decide, Nat.le_of_ble_eq_true rfl, Nat.le_of_ble_eq_true rfl⟩ rfl dL_offer_4 (fun v H1 locs1 hv _ hwd hS1 _ _ => ?_) (fun E ce q9 H1 locs1 hv hwd hS1 _ _ hce hcv hcl => ?_)
  · cases hv
  · cases hv
    refine vx_catch (name := "java/lang/IndexOutOfBoundsException") B.2.2.2.1 [] ⟨0, 9, 12, 36⟩ [⟨0, 9, 15, 23⟩] (by rw [htab]; rfl) (fun z hz => nomatch hz) (by decide) (by decide) (B.2.2.2.2.1 _ wc_L_36) (va_Nw.use (by decide) (B.2.2.2.2.2.2.1.2.2.2 _ fc_IOE)) hce hcv hcl ?_
    refine lv_astore_n (lv' := [(3, .ref q9), (0, .ref (G.2.2 (0, 0, 0))), (1, .int x1), (2, .ref (G.2.2 (30, 0, 0)))]) B.1 B.2.1 dL_offer_12 rfl hl (by decide) rfl (fun ls hl => ?_)
    refine lv_iconst (v := 1) B.1 B.2.1 dL_offer_13 (by decide) ?_
    exact mb_hret B hS1 hwd hrt hlk dL_offer_14
set_option maxRecDepth 100000 in
set_option maxHeartbeats 4000000 in
theorem H_offer_t2 {l : Launch} {G : mb_G} (hst : l.stackTraces = false) (hg : mb_gok G) {x1 : Int32} {h h1 : mb_AH} (hf : F_X5_offer x1 h = some (.inr "java/lang/IllegalStateException", h1)) : mb_Mh l G yL_offer cL_offer 4 [(0, 9, 12, 36), (0, 9, 15, 23)] 5 1 6 [mb_F 0 0 0, .inl x1, mb_F 30 0 0] h (.inl (some (.inl 2)), h1) := by
  refine mb_hentry (own := RL) (lv := [(0, .ref (G.2.2 (0, 0, 0))), (1, .int x1), (2, .ref (G.2.2 (30, 0, 0)))]) (by decide +kernel) rfl (Nat.le_of_ble_eq_true rfl) rfl hg (fun p e s m args below meth c ls B hlk hrt htab hw hl => ?_) (fun _ => trivial)
  refine lv_aload_n B.1 B.2.1 dL_offer_0 rfl (lv_at hl 2 rfl) ?_
  refine lv_iconst (v := 0) B.1 B.2.1 dL_offer_1 (by decide) ?_
  refine lv_aload_n B.1 B.2.1 dL_offer_2 rfl (lv_at hl 0 rfl) ?_
  refine lv_iload_n B.1 B.2.1 dL_offer_3 rfl (lv_at hl 1 rfl) ?_
  refine mb_xV (as := [.inl x1]) (n := 1) (d2 := 4) (ci := 5) (N := 6) (rest := [.int 0, .ref (G.2.2 (30, 0, 0))]) B va_S.rf hw hl.1 ⟨⟨by decide, by decide⟩, ⟨trivial, trivial⟩⟩ (Nat.le_of_ble_eq_true rfl) (C_X5_offer hst hg hf) (mb_gV wl_L_63 mi_X5_offer ms_X5_offer mn_X5 mc_X5_offer) (by decide +kernel) rfl rfl rfl ⟨by show 8 + 4 + 1 ≤ 8 + 5; decide, by show _ ≤ 128 + 64 * 5; decide, Nat.le_of_ble_eq_true rfl, Nat.le_of_ble_eq_true rfl⟩ rfl dL_offer_4 (fun v H1 locs1 hv _ hwd hS1 _ _ => ?_) (fun E ce q9 H1 locs1 hv hwd hS1 _ _ hce hcv hcl => ?_)
  · cases hv
  · cases hv
    refine vx_catch (name := "java/lang/IllegalStateException") B.2.2.2.1 [⟨0, 9, 12, 36⟩] ⟨0, 9, 15, 23⟩ [] (by rw [htab]; rfl) (fun z hz => by rw [List.mem_singleton] at hz; subst hz; exact Or.inr ⟨by decide, "java/lang/IndexOutOfBoundsException", B.2.2.2.2.1 _ wc_L_36, B.2.2.2.2.2.2.2.2.2.2 ("java/lang/IllegalStateException", "java/lang/IndexOutOfBoundsException") (by decide)⟩) (by decide) (by decide) (B.2.2.2.2.1 _ wc_L_23) (va_Nw.use (by decide) (B.2.2.2.2.2.2.1.2.2.2 _ fc_ISE)) hce hcv hcl ?_
    refine lv_astore_n (lv' := [(3, .ref q9), (0, .ref (G.2.2 (0, 0, 0))), (1, .int x1), (2, .ref (G.2.2 (30, 0, 0)))]) B.1 B.2.1 dL_offer_15 rfl hl (by decide) rfl (fun ls hl => ?_)
    refine lv_iconst (v := 2) B.1 B.2.1 dL_offer_16 (by decide) ?_
    exact mb_hret B hS1 hwd hrt hlk dL_offer_17
set_option maxRecDepth 100000 in
set_option maxHeartbeats 4000000 in
theorem H_bestBerth_r {l : Launch} {G : mb_G} (hst : l.stackTraces = false) (hg : mb_gok G) {x1 : Int32} {h h1 : mb_AH} {v : Int32} (hf : F_X5_bestBerth x1 h = some (.inl (some (.inl v)), h1)) : mb_Mh l G yL_bestBerth cL_bestBerth 4 [(0, 9, 12, 36)] 4 0 0 [mb_F 0 0 0, .inl x1, mb_F 30 0 0] h (.inl (some (.inl 0)), mb_sL h1 30 0 0 0 v.toInt64) := by
  refine mb_hentry (own := RL) (lv := [(0, .ref (G.2.2 (0, 0, 0))), (1, .int x1), (2, .ref (G.2.2 (30, 0, 0)))]) (by decide +kernel) rfl (Nat.le_of_ble_eq_true rfl) rfl hg (fun p e s m args below meth c ls B hlk hrt htab hw hl => ?_) (fun _ => trivial)
  refine lv_aload_n B.1 B.2.1 dL_bestBerth_0 rfl (lv_at hl 2 rfl) ?_
  refine lv_iconst (v := 0) B.1 B.2.1 dL_bestBerth_1 (by decide) ?_
  refine lv_aload_n B.1 B.2.1 dL_bestBerth_2 rfl (lv_at hl 0 rfl) ?_
  refine lv_iload_n B.1 B.2.1 dL_bestBerth_3 rfl (lv_at hl 1 rfl) ?_
  refine mb_xV (as := [.inl x1]) (n := 1) (d2 := 3) (ci := 5) (N := 6) (rest := [.int 0, .ref (G.2.2 (30, 0, 0))]) B va_S.rf hw hl.1 ⟨⟨by decide, by decide⟩, ⟨trivial, trivial⟩⟩ (Nat.le_of_ble_eq_true rfl) (C_X5_bestBerth hst hg hf) (mb_gV wl_L_66 mi_X5_bestBerth ms_X5_bestBerth mn_X5 mc_X5_bestBerth) (by decide +kernel) rfl rfl rfl ⟨by show 8 + 3 + 1 ≤ 8 + 4; decide, by show _ ≤ 128 + 64 * 4; decide, Nat.le_of_ble_eq_true rfl, Nat.le_of_ble_eq_true rfl⟩ rfl dL_bestBerth_4 (fun v H1 locs1 hv _ hwd hS1 _ _ => ?_) (fun E ce q9 H1 locs1 hv hwd hS1 _ _ hce hcv hcl => ?_)
  · cases hv
    refine lv_i2l B.1 B.2.1 dL_bestBerth_7 rfl ?_
    refine mb_lastout B hS1 hwd dL_bestBerth_8 (fun H2 locs2 hwd2 hS2 => ?_) rfl
    refine lv_goto (tgt := 15) B.1 B.2.1 dL_bestBerth_9 (by decide) ?_
    refine lv_iconst (v := 0) B.1 B.2.1 dL_bestBerth_15 (by decide) ?_
    exact mb_hret B hS2 hwd2 hrt hlk dL_bestBerth_16
  · cases hv
set_option maxRecDepth 100000 in
set_option maxHeartbeats 4000000 in
theorem H_bestBerth_t1 {l : Launch} {G : mb_G} (hst : l.stackTraces = false) (hg : mb_gok G) {x1 : Int32} {h h1 : mb_AH} (hf : F_X5_bestBerth x1 h = some (.inr "java/lang/IndexOutOfBoundsException", h1)) : mb_Mh l G yL_bestBerth cL_bestBerth 4 [(0, 9, 12, 36)] 4 1 6 [mb_F 0 0 0, .inl x1, mb_F 30 0 0] h (.inl (some (.inl 1)), h1) := by
  refine mb_hentry (own := RL) (lv := [(0, .ref (G.2.2 (0, 0, 0))), (1, .int x1), (2, .ref (G.2.2 (30, 0, 0)))]) (by decide +kernel) rfl (Nat.le_of_ble_eq_true rfl) rfl hg (fun p e s m args below meth c ls B hlk hrt htab hw hl => ?_) (fun _ => trivial)
  refine lv_aload_n B.1 B.2.1 dL_bestBerth_0 rfl (lv_at hl 2 rfl) ?_
  refine lv_iconst (v := 0) B.1 B.2.1 dL_bestBerth_1 (by decide) ?_
  refine lv_aload_n B.1 B.2.1 dL_bestBerth_2 rfl (lv_at hl 0 rfl) ?_
  refine lv_iload_n B.1 B.2.1 dL_bestBerth_3 rfl (lv_at hl 1 rfl) ?_
  refine mb_xV (as := [.inl x1]) (n := 1) (d2 := 3) (ci := 5) (N := 6) (rest := [.int 0, .ref (G.2.2 (30, 0, 0))]) B va_S.rf hw hl.1 ⟨⟨by decide, by decide⟩, ⟨trivial, trivial⟩⟩ (Nat.le_of_ble_eq_true rfl) (C_X5_bestBerth hst hg hf) (mb_gV wl_L_66 mi_X5_bestBerth ms_X5_bestBerth mn_X5 mc_X5_bestBerth) (by decide +kernel) rfl rfl rfl ⟨by show 8 + 3 + 1 ≤ 8 + 4; decide, by show _ ≤ 128 + 64 * 4; decide, Nat.le_of_ble_eq_true rfl, Nat.le_of_ble_eq_true rfl⟩ rfl dL_bestBerth_4 (fun v H1 locs1 hv _ hwd hS1 _ _ => ?_) (fun E ce q9 H1 locs1 hv hwd hS1 _ _ hce hcv hcl => ?_)
  · cases hv
  · cases hv
    refine vx_catch (name := "java/lang/IndexOutOfBoundsException") B.2.2.2.1 [] ⟨0, 9, 12, 36⟩ [] (by rw [htab]; rfl) (fun z hz => nomatch hz) (by decide) (by decide) (B.2.2.2.2.1 _ wc_L_36) (va_Nw.use (by decide) (B.2.2.2.2.2.2.1.2.2.2 _ fc_IOE)) hce hcv hcl ?_
    refine lv_astore_n (lv' := [(3, .ref q9), (0, .ref (G.2.2 (0, 0, 0))), (1, .int x1), (2, .ref (G.2.2 (30, 0, 0)))]) B.1 B.2.1 dL_bestBerth_12 rfl hl (by decide) rfl (fun ls hl => ?_)
    refine lv_iconst (v := 1) B.1 B.2.1 dL_bestBerth_13 (by decide) ?_
    exact mb_hret B hS1 hwd hrt hlk dL_bestBerth_14
set_option maxRecDepth 100000 in
set_option maxHeartbeats 4000000 in
theorem H_pass_r {l : Launch} {G : mb_G} (hst : l.stackTraces = false) (hg : mb_gok G) {x1 : Int32} {h h1 : mb_AH} {v : Int32} (hf : F_X5_pass x1 h = some (.inl (some (.inl v)), h1)) : mb_Mh l G yL_pass cL_pass 4 [(0, 9, 12, 13), (0, 9, 15, 23)] 26 0 0 [mb_F 0 0 0, .inl x1, mb_F 30 0 0] h (.inl (some (.inl 0)), mb_sL h1 30 0 0 0 v.toInt64) := by
  refine mb_hentry (own := RL) (lv := [(0, .ref (G.2.2 (0, 0, 0))), (1, .int x1), (2, .ref (G.2.2 (30, 0, 0)))]) (by decide +kernel) rfl (Nat.le_of_ble_eq_true rfl) rfl hg (fun p e s m args below meth c ls B hlk hrt htab hw hl => ?_) (fun _ => trivial)
  refine lv_aload_n B.1 B.2.1 dL_pass_0 rfl (lv_at hl 2 rfl) ?_
  refine lv_iconst (v := 0) B.1 B.2.1 dL_pass_1 (by decide) ?_
  refine lv_aload_n B.1 B.2.1 dL_pass_2 rfl (lv_at hl 0 rfl) ?_
  refine lv_iload_n B.1 B.2.1 dL_pass_3 rfl (lv_at hl 1 rfl) ?_
  refine mb_xV (as := [.inl x1]) (n := 1) (d2 := 25) (ci := 5) (N := 6) (rest := [.int 0, .ref (G.2.2 (30, 0, 0))]) B va_S.rf hw hl.1 ⟨⟨by decide, by decide⟩, ⟨trivial, trivial⟩⟩ (Nat.le_of_ble_eq_true rfl) (C_X5_pass hst hg hf) (mb_gV wl_L_69 mi_X5_pass ms_X5_pass mn_X5 mc_X5_pass) (by decide +kernel) rfl rfl rfl ⟨by show 8 + 25 + 1 ≤ 8 + 26; decide, by show _ ≤ 128 + 64 * 26; decide, Nat.le_of_ble_eq_true rfl, Nat.le_of_ble_eq_true rfl⟩ rfl dL_pass_4 (fun v H1 locs1 hv _ hwd hS1 _ _ => ?_) (fun E ce q9 H1 locs1 hv hwd hS1 _ _ hce hcv hcl => ?_)
  · cases hv
    refine lv_i2l B.1 B.2.1 dL_pass_7 rfl ?_
    refine mb_lastout B hS1 hwd dL_pass_8 (fun H2 locs2 hwd2 hS2 => ?_) rfl
    refine lv_goto (tgt := 18) B.1 B.2.1 dL_pass_9 (by decide) ?_
    refine lv_iconst (v := 0) B.1 B.2.1 dL_pass_18 (by decide) ?_
    exact mb_hret B hS2 hwd2 hrt hlk dL_pass_19
  · cases hv
set_option maxRecDepth 100000 in
set_option maxHeartbeats 4000000 in
theorem H_pass_t1 {l : Launch} {G : mb_G} (hst : l.stackTraces = false) (hg : mb_gok G) {x1 : Int32} {h h1 : mb_AH} (hf : F_X5_pass x1 h = some (.inr "java/lang/IllegalArgumentException", h1)) : mb_Mh l G yL_pass cL_pass 4 [(0, 9, 12, 13), (0, 9, 15, 23)] 26 1 6 [mb_F 0 0 0, .inl x1, mb_F 30 0 0] h (.inl (some (.inl 1)), h1) := by
  refine mb_hentry (own := RL) (lv := [(0, .ref (G.2.2 (0, 0, 0))), (1, .int x1), (2, .ref (G.2.2 (30, 0, 0)))]) (by decide +kernel) rfl (Nat.le_of_ble_eq_true rfl) rfl hg (fun p e s m args below meth c ls B hlk hrt htab hw hl => ?_) (fun _ => trivial)
  refine lv_aload_n B.1 B.2.1 dL_pass_0 rfl (lv_at hl 2 rfl) ?_
  refine lv_iconst (v := 0) B.1 B.2.1 dL_pass_1 (by decide) ?_
  refine lv_aload_n B.1 B.2.1 dL_pass_2 rfl (lv_at hl 0 rfl) ?_
  refine lv_iload_n B.1 B.2.1 dL_pass_3 rfl (lv_at hl 1 rfl) ?_
  refine mb_xV (as := [.inl x1]) (n := 1) (d2 := 25) (ci := 5) (N := 6) (rest := [.int 0, .ref (G.2.2 (30, 0, 0))]) B va_S.rf hw hl.1 ⟨⟨by decide, by decide⟩, ⟨trivial, trivial⟩⟩ (Nat.le_of_ble_eq_true rfl) (C_X5_pass hst hg hf) (mb_gV wl_L_69 mi_X5_pass ms_X5_pass mn_X5 mc_X5_pass) (by decide +kernel) rfl rfl rfl ⟨by show 8 + 25 + 1 ≤ 8 + 26; decide, by show _ ≤ 128 + 64 * 26; decide, Nat.le_of_ble_eq_true rfl, Nat.le_of_ble_eq_true rfl⟩ rfl dL_pass_4 (fun v H1 locs1 hv _ hwd hS1 _ _ => ?_) (fun E ce q9 H1 locs1 hv hwd hS1 _ _ hce hcv hcl => ?_)
  · cases hv
  · cases hv
    refine vx_catch (name := "java/lang/IllegalArgumentException") B.2.2.2.1 [] ⟨0, 9, 12, 13⟩ [⟨0, 9, 15, 23⟩] (by rw [htab]; rfl) (fun z hz => nomatch hz) (by decide) (by decide) (B.2.2.2.2.1 _ wc_L_13) (va_Nw.use (by decide) (B.2.2.2.2.2.2.1.2.2.2 _ fc_IAE)) hce hcv hcl ?_
    refine lv_astore_n (lv' := [(3, .ref q9), (0, .ref (G.2.2 (0, 0, 0))), (1, .int x1), (2, .ref (G.2.2 (30, 0, 0)))]) B.1 B.2.1 dL_pass_12 rfl hl (by decide) rfl (fun ls hl => ?_)
    refine lv_iconst (v := 1) B.1 B.2.1 dL_pass_13 (by decide) ?_
    exact mb_hret B hS1 hwd hrt hlk dL_pass_14
set_option maxRecDepth 100000 in
set_option maxHeartbeats 4000000 in
theorem H_pass_t2 {l : Launch} {G : mb_G} (hst : l.stackTraces = false) (hg : mb_gok G) {x1 : Int32} {h h1 : mb_AH} (hf : F_X5_pass x1 h = some (.inr "java/lang/IllegalStateException", h1)) : mb_Mh l G yL_pass cL_pass 4 [(0, 9, 12, 13), (0, 9, 15, 23)] 26 1 6 [mb_F 0 0 0, .inl x1, mb_F 30 0 0] h (.inl (some (.inl 2)), h1) := by
  refine mb_hentry (own := RL) (lv := [(0, .ref (G.2.2 (0, 0, 0))), (1, .int x1), (2, .ref (G.2.2 (30, 0, 0)))]) (by decide +kernel) rfl (Nat.le_of_ble_eq_true rfl) rfl hg (fun p e s m args below meth c ls B hlk hrt htab hw hl => ?_) (fun _ => trivial)
  refine lv_aload_n B.1 B.2.1 dL_pass_0 rfl (lv_at hl 2 rfl) ?_
  refine lv_iconst (v := 0) B.1 B.2.1 dL_pass_1 (by decide) ?_
  refine lv_aload_n B.1 B.2.1 dL_pass_2 rfl (lv_at hl 0 rfl) ?_
  refine lv_iload_n B.1 B.2.1 dL_pass_3 rfl (lv_at hl 1 rfl) ?_
  refine mb_xV (as := [.inl x1]) (n := 1) (d2 := 25) (ci := 5) (N := 6) (rest := [.int 0, .ref (G.2.2 (30, 0, 0))]) B va_S.rf hw hl.1 ⟨⟨by decide, by decide⟩, ⟨trivial, trivial⟩⟩ (Nat.le_of_ble_eq_true rfl) (C_X5_pass hst hg hf) (mb_gV wl_L_69 mi_X5_pass ms_X5_pass mn_X5 mc_X5_pass) (by decide +kernel) rfl rfl rfl ⟨by show 8 + 25 + 1 ≤ 8 + 26; decide, by show _ ≤ 128 + 64 * 26; decide, Nat.le_of_ble_eq_true rfl, Nat.le_of_ble_eq_true rfl⟩ rfl dL_pass_4 (fun v H1 locs1 hv _ hwd hS1 _ _ => ?_) (fun E ce q9 H1 locs1 hv hwd hS1 _ _ hce hcv hcl => ?_)
  · cases hv
  · cases hv
    refine vx_catch (name := "java/lang/IllegalStateException") B.2.2.2.1 [⟨0, 9, 12, 13⟩] ⟨0, 9, 15, 23⟩ [] (by rw [htab]; rfl) (fun z hz => by rw [List.mem_singleton] at hz; subst hz; exact Or.inr ⟨by decide, "java/lang/IllegalArgumentException", B.2.2.2.2.1 _ wc_L_13, B.2.2.2.2.2.2.2.2.2.2 ("java/lang/IllegalStateException", "java/lang/IllegalArgumentException") (by decide)⟩) (by decide) (by decide) (B.2.2.2.2.1 _ wc_L_23) (va_Nw.use (by decide) (B.2.2.2.2.2.2.1.2.2.2 _ fc_ISE)) hce hcv hcl ?_
    refine lv_astore_n (lv' := [(3, .ref q9), (0, .ref (G.2.2 (0, 0, 0))), (1, .int x1), (2, .ref (G.2.2 (30, 0, 0)))]) B.1 B.2.1 dL_pass_15 rfl hl (by decide) rfl (fun ls hl => ?_)
    refine lv_iconst (v := 2) B.1 B.2.1 dL_pass_16 (by decide) ?_
    exact mb_hret B hS1 hwd hrt hlk dL_pass_17
set_option maxRecDepth 100000 in
set_option maxHeartbeats 4000000 in
theorem H_pay_r {l : Launch} {G : mb_G} (hst : l.stackTraces = false) (hg : mb_gok G) {x1 : Int32} {x2 : Int32} {h h1 : mb_AH} {v : Int32} (hf : F_X5_pay x1 x2 h = some (.inl (some (.inl v)), h1)) : mb_Mh l G yL_pay cL_pay 5 [(0, 10, 13, 36), (0, 10, 17, 13)] 5 0 0 [mb_F 0 0 0, .inl x1, .inl x2, mb_F 30 0 0] h (.inl (some (.inl 0)), mb_sL h1 30 0 0 0 v.toInt64) := by
  refine mb_hentry (own := RL) (lv := [(0, .ref (G.2.2 (0, 0, 0))), (1, .int x1), (2, .int x2), (3, .ref (G.2.2 (30, 0, 0)))]) (by decide +kernel) rfl (Nat.le_of_ble_eq_true rfl) rfl hg (fun p e s m args below meth c ls B hlk hrt htab hw hl => ?_) (fun _ => trivial)
  refine lv_aload_n B.1 B.2.1 dL_pay_0 rfl (lv_at hl 3 rfl) ?_
  refine lv_iconst (v := 0) B.1 B.2.1 dL_pay_1 (by decide) ?_
  refine lv_aload_n B.1 B.2.1 dL_pay_2 rfl (lv_at hl 0 rfl) ?_
  refine lv_iload_n B.1 B.2.1 dL_pay_3 rfl (lv_at hl 1 rfl) ?_
  refine lv_iload_n B.1 B.2.1 dL_pay_4 rfl (lv_at hl 2 rfl) ?_
  refine mb_xV (as := [.inl x1, .inl x2]) (n := 2) (d2 := 4) (ci := 5) (N := 6) (rest := [.int 0, .ref (G.2.2 (30, 0, 0))]) B va_S.rf hw hl.1 ⟨⟨by decide, by decide⟩, ⟨trivial, ⟨trivial, trivial⟩⟩⟩ (Nat.le_of_ble_eq_true rfl) (C_X5_pay hst hg hf) (mb_gV wl_L_72 mi_X5_pay ms_X5_pay mn_X5 mc_X5_pay) (by decide +kernel) rfl rfl rfl ⟨by show 8 + 4 + 1 ≤ 8 + 5; decide, by show _ ≤ 128 + 64 * 5; decide, Nat.le_of_ble_eq_true rfl, Nat.le_of_ble_eq_true rfl⟩ rfl dL_pay_5 (fun v H1 locs1 hv _ hwd hS1 _ _ => ?_) (fun E ce q9 H1 locs1 hv hwd hS1 _ _ hce hcv hcl => ?_)
  · cases hv
    refine lv_i2l B.1 B.2.1 dL_pay_8 rfl ?_
    refine mb_lastout B hS1 hwd dL_pay_9 (fun H2 locs2 hwd2 hS2 => ?_) rfl
    refine lv_goto (tgt := 21) B.1 B.2.1 dL_pay_10 (by decide) ?_
    refine lv_iconst (v := 0) B.1 B.2.1 dL_pay_21 (by decide) ?_
    exact mb_hret B hS2 hwd2 hrt hlk dL_pay_22
  · cases hv
set_option maxRecDepth 100000 in
set_option maxHeartbeats 4000000 in
theorem H_pay_t1 {l : Launch} {G : mb_G} (hst : l.stackTraces = false) (hg : mb_gok G) {x1 : Int32} {x2 : Int32} {h h1 : mb_AH} (hf : F_X5_pay x1 x2 h = some (.inr "java/lang/IndexOutOfBoundsException", h1)) : mb_Mh l G yL_pay cL_pay 5 [(0, 10, 13, 36), (0, 10, 17, 13)] 5 1 6 [mb_F 0 0 0, .inl x1, .inl x2, mb_F 30 0 0] h (.inl (some (.inl 1)), h1) := by
  refine mb_hentry (own := RL) (lv := [(0, .ref (G.2.2 (0, 0, 0))), (1, .int x1), (2, .int x2), (3, .ref (G.2.2 (30, 0, 0)))]) (by decide +kernel) rfl (Nat.le_of_ble_eq_true rfl) rfl hg (fun p e s m args below meth c ls B hlk hrt htab hw hl => ?_) (fun _ => trivial)
  refine lv_aload_n B.1 B.2.1 dL_pay_0 rfl (lv_at hl 3 rfl) ?_
  refine lv_iconst (v := 0) B.1 B.2.1 dL_pay_1 (by decide) ?_
  refine lv_aload_n B.1 B.2.1 dL_pay_2 rfl (lv_at hl 0 rfl) ?_
  refine lv_iload_n B.1 B.2.1 dL_pay_3 rfl (lv_at hl 1 rfl) ?_
  refine lv_iload_n B.1 B.2.1 dL_pay_4 rfl (lv_at hl 2 rfl) ?_
  refine mb_xV (as := [.inl x1, .inl x2]) (n := 2) (d2 := 4) (ci := 5) (N := 6) (rest := [.int 0, .ref (G.2.2 (30, 0, 0))]) B va_S.rf hw hl.1 ⟨⟨by decide, by decide⟩, ⟨trivial, ⟨trivial, trivial⟩⟩⟩ (Nat.le_of_ble_eq_true rfl) (C_X5_pay hst hg hf) (mb_gV wl_L_72 mi_X5_pay ms_X5_pay mn_X5 mc_X5_pay) (by decide +kernel) rfl rfl rfl ⟨by show 8 + 4 + 1 ≤ 8 + 5; decide, by show _ ≤ 128 + 64 * 5; decide, Nat.le_of_ble_eq_true rfl, Nat.le_of_ble_eq_true rfl⟩ rfl dL_pay_5 (fun v H1 locs1 hv _ hwd hS1 _ _ => ?_) (fun E ce q9 H1 locs1 hv hwd hS1 _ _ hce hcv hcl => ?_)
  · cases hv
  · cases hv
    refine vx_catch (name := "java/lang/IndexOutOfBoundsException") B.2.2.2.1 [] ⟨0, 10, 13, 36⟩ [⟨0, 10, 17, 13⟩] (by rw [htab]; rfl) (fun z hz => nomatch hz) (by decide) (by decide) (B.2.2.2.2.1 _ wc_L_36) (va_Nw.use (by decide) (B.2.2.2.2.2.2.1.2.2.2 _ fc_IOE)) hce hcv hcl ?_
    refine lv_astore (lv' := [(4, .ref q9), (0, .ref (G.2.2 (0, 0, 0))), (1, .int x1), (2, .int x2), (3, .ref (G.2.2 (30, 0, 0)))]) B.1 B.2.1 dL_pay_13 hl (by decide) rfl (fun ls hl => ?_)
    refine lv_iconst (v := 1) B.1 B.2.1 dL_pay_15 (by decide) ?_
    exact mb_hret B hS1 hwd hrt hlk dL_pay_16
set_option maxRecDepth 100000 in
set_option maxHeartbeats 4000000 in
theorem H_pay_t2 {l : Launch} {G : mb_G} (hst : l.stackTraces = false) (hg : mb_gok G) {x1 : Int32} {x2 : Int32} {h h1 : mb_AH} (hf : F_X5_pay x1 x2 h = some (.inr "java/lang/IllegalArgumentException", h1)) : mb_Mh l G yL_pay cL_pay 5 [(0, 10, 13, 36), (0, 10, 17, 13)] 5 1 6 [mb_F 0 0 0, .inl x1, .inl x2, mb_F 30 0 0] h (.inl (some (.inl 2)), h1) := by
  refine mb_hentry (own := RL) (lv := [(0, .ref (G.2.2 (0, 0, 0))), (1, .int x1), (2, .int x2), (3, .ref (G.2.2 (30, 0, 0)))]) (by decide +kernel) rfl (Nat.le_of_ble_eq_true rfl) rfl hg (fun p e s m args below meth c ls B hlk hrt htab hw hl => ?_) (fun _ => trivial)
  refine lv_aload_n B.1 B.2.1 dL_pay_0 rfl (lv_at hl 3 rfl) ?_
  refine lv_iconst (v := 0) B.1 B.2.1 dL_pay_1 (by decide) ?_
  refine lv_aload_n B.1 B.2.1 dL_pay_2 rfl (lv_at hl 0 rfl) ?_
  refine lv_iload_n B.1 B.2.1 dL_pay_3 rfl (lv_at hl 1 rfl) ?_
  refine lv_iload_n B.1 B.2.1 dL_pay_4 rfl (lv_at hl 2 rfl) ?_
  refine mb_xV (as := [.inl x1, .inl x2]) (n := 2) (d2 := 4) (ci := 5) (N := 6) (rest := [.int 0, .ref (G.2.2 (30, 0, 0))]) B va_S.rf hw hl.1 ⟨⟨by decide, by decide⟩, ⟨trivial, ⟨trivial, trivial⟩⟩⟩ (Nat.le_of_ble_eq_true rfl) (C_X5_pay hst hg hf) (mb_gV wl_L_72 mi_X5_pay ms_X5_pay mn_X5 mc_X5_pay) (by decide +kernel) rfl rfl rfl ⟨by show 8 + 4 + 1 ≤ 8 + 5; decide, by show _ ≤ 128 + 64 * 5; decide, Nat.le_of_ble_eq_true rfl, Nat.le_of_ble_eq_true rfl⟩ rfl dL_pay_5 (fun v H1 locs1 hv _ hwd hS1 _ _ => ?_) (fun E ce q9 H1 locs1 hv hwd hS1 _ _ hce hcv hcl => ?_)
  · cases hv
  · cases hv
    refine vx_catch (name := "java/lang/IllegalArgumentException") B.2.2.2.1 [⟨0, 10, 13, 36⟩] ⟨0, 10, 17, 13⟩ [] (by rw [htab]; rfl) (fun z hz => by rw [List.mem_singleton] at hz; subst hz; exact Or.inr ⟨by decide, "java/lang/IndexOutOfBoundsException", B.2.2.2.2.1 _ wc_L_36, B.2.2.2.2.2.2.2.2.2.2 ("java/lang/IllegalArgumentException", "java/lang/IndexOutOfBoundsException") (by decide)⟩) (by decide) (by decide) (B.2.2.2.2.1 _ wc_L_13) (va_Nw.use (by decide) (B.2.2.2.2.2.2.1.2.2.2 _ fc_IAE)) hce hcv hcl ?_
    refine lv_astore (lv' := [(4, .ref q9), (0, .ref (G.2.2 (0, 0, 0))), (1, .int x1), (2, .int x2), (3, .ref (G.2.2 (30, 0, 0)))]) B.1 B.2.1 dL_pay_17 hl (by decide) rfl (fun ls hl => ?_)
    refine lv_iconst (v := 2) B.1 B.2.1 dL_pay_19 (by decide) ?_
    exact mb_hret B hS1 hwd hrt hlk dL_pay_20
set_option maxRecDepth 100000 in
set_option maxHeartbeats 4000000 in
theorem H_charge_r {l : Launch} {G : mb_G} (hst : l.stackTraces = false) (hg : mb_gok G) {x1 : Int32} {x2 : Int32} {h h1 : mb_AH} {v : Int32} (hf : F_X5_charge x1 x2 h = some (.inl (some (.inl v)), h1)) : mb_Mh l G yL_charge cL_charge 5 [(0, 10, 13, 36), (0, 10, 17, 13), (0, 10, 21, 23)] 5 0 0 [mb_F 0 0 0, .inl x1, .inl x2, mb_F 30 0 0] h (.inl (some (.inl 0)), mb_sL h1 30 0 0 0 v.toInt64) := by
  refine mb_hentry (own := RL) (lv := [(0, .ref (G.2.2 (0, 0, 0))), (1, .int x1), (2, .int x2), (3, .ref (G.2.2 (30, 0, 0)))]) (by decide +kernel) rfl (Nat.le_of_ble_eq_true rfl) rfl hg (fun p e s m args below meth c ls B hlk hrt htab hw hl => ?_) (fun _ => trivial)
  refine lv_aload_n B.1 B.2.1 dL_charge_0 rfl (lv_at hl 3 rfl) ?_
  refine lv_iconst (v := 0) B.1 B.2.1 dL_charge_1 (by decide) ?_
  refine lv_aload_n B.1 B.2.1 dL_charge_2 rfl (lv_at hl 0 rfl) ?_
  refine lv_iload_n B.1 B.2.1 dL_charge_3 rfl (lv_at hl 1 rfl) ?_
  refine lv_iload_n B.1 B.2.1 dL_charge_4 rfl (lv_at hl 2 rfl) ?_
  refine mb_xV (as := [.inl x1, .inl x2]) (n := 2) (d2 := 4) (ci := 5) (N := 6) (rest := [.int 0, .ref (G.2.2 (30, 0, 0))]) B va_S.rf hw hl.1 ⟨⟨by decide, by decide⟩, ⟨trivial, ⟨trivial, trivial⟩⟩⟩ (Nat.le_of_ble_eq_true rfl) (C_X5_charge hst hg hf) (mb_gV wl_L_75 mi_X5_charge ms_X5_charge mn_X5 mc_X5_charge) (by decide +kernel) rfl rfl rfl ⟨by show 8 + 4 + 1 ≤ 8 + 5; decide, by show _ ≤ 128 + 64 * 5; decide, Nat.le_of_ble_eq_true rfl, Nat.le_of_ble_eq_true rfl⟩ rfl dL_charge_5 (fun v H1 locs1 hv _ hwd hS1 _ _ => ?_) (fun E ce q9 H1 locs1 hv hwd hS1 _ _ hce hcv hcl => ?_)
  · cases hv
    refine lv_i2l B.1 B.2.1 dL_charge_8 rfl ?_
    refine mb_lastout B hS1 hwd dL_charge_9 (fun H2 locs2 hwd2 hS2 => ?_) rfl
    refine lv_goto (tgt := 25) B.1 B.2.1 dL_charge_10 (by decide) ?_
    refine lv_iconst (v := 0) B.1 B.2.1 dL_charge_25 (by decide) ?_
    exact mb_hret B hS2 hwd2 hrt hlk dL_charge_26
  · cases hv
set_option maxRecDepth 100000 in
set_option maxHeartbeats 4000000 in
theorem H_charge_t1 {l : Launch} {G : mb_G} (hst : l.stackTraces = false) (hg : mb_gok G) {x1 : Int32} {x2 : Int32} {h h1 : mb_AH} (hf : F_X5_charge x1 x2 h = some (.inr "java/lang/IndexOutOfBoundsException", h1)) : mb_Mh l G yL_charge cL_charge 5 [(0, 10, 13, 36), (0, 10, 17, 13), (0, 10, 21, 23)] 5 1 6 [mb_F 0 0 0, .inl x1, .inl x2, mb_F 30 0 0] h (.inl (some (.inl 1)), h1) := by
  refine mb_hentry (own := RL) (lv := [(0, .ref (G.2.2 (0, 0, 0))), (1, .int x1), (2, .int x2), (3, .ref (G.2.2 (30, 0, 0)))]) (by decide +kernel) rfl (Nat.le_of_ble_eq_true rfl) rfl hg (fun p e s m args below meth c ls B hlk hrt htab hw hl => ?_) (fun _ => trivial)
  refine lv_aload_n B.1 B.2.1 dL_charge_0 rfl (lv_at hl 3 rfl) ?_
  refine lv_iconst (v := 0) B.1 B.2.1 dL_charge_1 (by decide) ?_
  refine lv_aload_n B.1 B.2.1 dL_charge_2 rfl (lv_at hl 0 rfl) ?_
  refine lv_iload_n B.1 B.2.1 dL_charge_3 rfl (lv_at hl 1 rfl) ?_
  refine lv_iload_n B.1 B.2.1 dL_charge_4 rfl (lv_at hl 2 rfl) ?_
  refine mb_xV (as := [.inl x1, .inl x2]) (n := 2) (d2 := 4) (ci := 5) (N := 6) (rest := [.int 0, .ref (G.2.2 (30, 0, 0))]) B va_S.rf hw hl.1 ⟨⟨by decide, by decide⟩, ⟨trivial, ⟨trivial, trivial⟩⟩⟩ (Nat.le_of_ble_eq_true rfl) (C_X5_charge hst hg hf) (mb_gV wl_L_75 mi_X5_charge ms_X5_charge mn_X5 mc_X5_charge) (by decide +kernel) rfl rfl rfl ⟨by show 8 + 4 + 1 ≤ 8 + 5; decide, by show _ ≤ 128 + 64 * 5; decide, Nat.le_of_ble_eq_true rfl, Nat.le_of_ble_eq_true rfl⟩ rfl dL_charge_5 (fun v H1 locs1 hv _ hwd hS1 _ _ => ?_) (fun E ce q9 H1 locs1 hv hwd hS1 _ _ hce hcv hcl => ?_)
  · cases hv
  · cases hv
    refine vx_catch (name := "java/lang/IndexOutOfBoundsException") B.2.2.2.1 [] ⟨0, 10, 13, 36⟩ [⟨0, 10, 17, 13⟩, ⟨0, 10, 21, 23⟩] (by rw [htab]; rfl) (fun z hz => nomatch hz) (by decide) (by decide) (B.2.2.2.2.1 _ wc_L_36) (va_Nw.use (by decide) (B.2.2.2.2.2.2.1.2.2.2 _ fc_IOE)) hce hcv hcl ?_
    refine lv_astore (lv' := [(4, .ref q9), (0, .ref (G.2.2 (0, 0, 0))), (1, .int x1), (2, .int x2), (3, .ref (G.2.2 (30, 0, 0)))]) B.1 B.2.1 dL_charge_13 hl (by decide) rfl (fun ls hl => ?_)
    refine lv_iconst (v := 1) B.1 B.2.1 dL_charge_15 (by decide) ?_
    exact mb_hret B hS1 hwd hrt hlk dL_charge_16
set_option maxRecDepth 100000 in
set_option maxHeartbeats 4000000 in
theorem H_charge_t2 {l : Launch} {G : mb_G} (hst : l.stackTraces = false) (hg : mb_gok G) {x1 : Int32} {x2 : Int32} {h h1 : mb_AH} (hf : F_X5_charge x1 x2 h = some (.inr "java/lang/IllegalArgumentException", h1)) : mb_Mh l G yL_charge cL_charge 5 [(0, 10, 13, 36), (0, 10, 17, 13), (0, 10, 21, 23)] 5 1 6 [mb_F 0 0 0, .inl x1, .inl x2, mb_F 30 0 0] h (.inl (some (.inl 2)), h1) := by
  refine mb_hentry (own := RL) (lv := [(0, .ref (G.2.2 (0, 0, 0))), (1, .int x1), (2, .int x2), (3, .ref (G.2.2 (30, 0, 0)))]) (by decide +kernel) rfl (Nat.le_of_ble_eq_true rfl) rfl hg (fun p e s m args below meth c ls B hlk hrt htab hw hl => ?_) (fun _ => trivial)
  refine lv_aload_n B.1 B.2.1 dL_charge_0 rfl (lv_at hl 3 rfl) ?_
  refine lv_iconst (v := 0) B.1 B.2.1 dL_charge_1 (by decide) ?_
  refine lv_aload_n B.1 B.2.1 dL_charge_2 rfl (lv_at hl 0 rfl) ?_
  refine lv_iload_n B.1 B.2.1 dL_charge_3 rfl (lv_at hl 1 rfl) ?_
  refine lv_iload_n B.1 B.2.1 dL_charge_4 rfl (lv_at hl 2 rfl) ?_
  refine mb_xV (as := [.inl x1, .inl x2]) (n := 2) (d2 := 4) (ci := 5) (N := 6) (rest := [.int 0, .ref (G.2.2 (30, 0, 0))]) B va_S.rf hw hl.1 ⟨⟨by decide, by decide⟩, ⟨trivial, ⟨trivial, trivial⟩⟩⟩ (Nat.le_of_ble_eq_true rfl) (C_X5_charge hst hg hf) (mb_gV wl_L_75 mi_X5_charge ms_X5_charge mn_X5 mc_X5_charge) (by decide +kernel) rfl rfl rfl ⟨by show 8 + 4 + 1 ≤ 8 + 5; decide, by show _ ≤ 128 + 64 * 5; decide, Nat.le_of_ble_eq_true rfl, Nat.le_of_ble_eq_true rfl⟩ rfl dL_charge_5 (fun v H1 locs1 hv _ hwd hS1 _ _ => ?_) (fun E ce q9 H1 locs1 hv hwd hS1 _ _ hce hcv hcl => ?_)
  · cases hv
  · cases hv
    refine vx_catch (name := "java/lang/IllegalArgumentException") B.2.2.2.1 [⟨0, 10, 13, 36⟩] ⟨0, 10, 17, 13⟩ [⟨0, 10, 21, 23⟩] (by rw [htab]; rfl) (fun z hz => by rw [List.mem_singleton] at hz; subst hz; exact Or.inr ⟨by decide, "java/lang/IndexOutOfBoundsException", B.2.2.2.2.1 _ wc_L_36, B.2.2.2.2.2.2.2.2.2.2 ("java/lang/IllegalArgumentException", "java/lang/IndexOutOfBoundsException") (by decide)⟩) (by decide) (by decide) (B.2.2.2.2.1 _ wc_L_13) (va_Nw.use (by decide) (B.2.2.2.2.2.2.1.2.2.2 _ fc_IAE)) hce hcv hcl ?_
    refine lv_astore (lv' := [(4, .ref q9), (0, .ref (G.2.2 (0, 0, 0))), (1, .int x1), (2, .int x2), (3, .ref (G.2.2 (30, 0, 0)))]) B.1 B.2.1 dL_charge_17 hl (by decide) rfl (fun ls hl => ?_)
    refine lv_iconst (v := 2) B.1 B.2.1 dL_charge_19 (by decide) ?_
    exact mb_hret B hS1 hwd hrt hlk dL_charge_20
set_option maxRecDepth 100000 in
set_option maxHeartbeats 4000000 in
theorem H_charge_t3 {l : Launch} {G : mb_G} (hst : l.stackTraces = false) (hg : mb_gok G) {x1 : Int32} {x2 : Int32} {h h1 : mb_AH} (hf : F_X5_charge x1 x2 h = some (.inr "java/lang/IllegalStateException", h1)) : mb_Mh l G yL_charge cL_charge 5 [(0, 10, 13, 36), (0, 10, 17, 13), (0, 10, 21, 23)] 5 1 6 [mb_F 0 0 0, .inl x1, .inl x2, mb_F 30 0 0] h (.inl (some (.inl 3)), h1) := by
  refine mb_hentry (own := RL) (lv := [(0, .ref (G.2.2 (0, 0, 0))), (1, .int x1), (2, .int x2), (3, .ref (G.2.2 (30, 0, 0)))]) (by decide +kernel) rfl (Nat.le_of_ble_eq_true rfl) rfl hg (fun p e s m args below meth c ls B hlk hrt htab hw hl => ?_) (fun _ => trivial)
  refine lv_aload_n B.1 B.2.1 dL_charge_0 rfl (lv_at hl 3 rfl) ?_
  refine lv_iconst (v := 0) B.1 B.2.1 dL_charge_1 (by decide) ?_
  refine lv_aload_n B.1 B.2.1 dL_charge_2 rfl (lv_at hl 0 rfl) ?_
  refine lv_iload_n B.1 B.2.1 dL_charge_3 rfl (lv_at hl 1 rfl) ?_
  refine lv_iload_n B.1 B.2.1 dL_charge_4 rfl (lv_at hl 2 rfl) ?_
  refine mb_xV (as := [.inl x1, .inl x2]) (n := 2) (d2 := 4) (ci := 5) (N := 6) (rest := [.int 0, .ref (G.2.2 (30, 0, 0))]) B va_S.rf hw hl.1 ⟨⟨by decide, by decide⟩, ⟨trivial, ⟨trivial, trivial⟩⟩⟩ (Nat.le_of_ble_eq_true rfl) (C_X5_charge hst hg hf) (mb_gV wl_L_75 mi_X5_charge ms_X5_charge mn_X5 mc_X5_charge) (by decide +kernel) rfl rfl rfl ⟨by show 8 + 4 + 1 ≤ 8 + 5; decide, by show _ ≤ 128 + 64 * 5; decide, Nat.le_of_ble_eq_true rfl, Nat.le_of_ble_eq_true rfl⟩ rfl dL_charge_5 (fun v H1 locs1 hv _ hwd hS1 _ _ => ?_) (fun E ce q9 H1 locs1 hv hwd hS1 _ _ hce hcv hcl => ?_)
  · cases hv
  · cases hv
    refine vx_catch (name := "java/lang/IllegalStateException") B.2.2.2.1 [⟨0, 10, 13, 36⟩, ⟨0, 10, 17, 13⟩] ⟨0, 10, 21, 23⟩ [] (by rw [htab]; rfl) (fun z hz => by
      simp only [List.mem_cons, List.not_mem_nil, or_false] at hz
      rcases hz with rfl | rfl
      · exact Or.inr ⟨by decide, "java/lang/IndexOutOfBoundsException", B.2.2.2.2.1 _ wc_L_36, B.2.2.2.2.2.2.2.2.2.2 ("java/lang/IllegalStateException", "java/lang/IndexOutOfBoundsException") (by decide)⟩
      · exact Or.inr ⟨by decide, "java/lang/IllegalArgumentException", B.2.2.2.2.1 _ wc_L_13, B.2.2.2.2.2.2.2.2.2.2 ("java/lang/IllegalStateException", "java/lang/IllegalArgumentException") (by decide)⟩) (by decide) (by decide) (B.2.2.2.2.1 _ wc_L_23) (va_Nw.use (by decide) (B.2.2.2.2.2.2.1.2.2.2 _ fc_ISE)) hce hcv hcl ?_
    refine lv_astore (lv' := [(4, .ref q9), (0, .ref (G.2.2 (0, 0, 0))), (1, .int x1), (2, .int x2), (3, .ref (G.2.2 (30, 0, 0)))]) B.1 B.2.1 dL_charge_21 hl (by decide) rfl (fun ls hl => ?_)
    refine lv_iconst (v := 3) B.1 B.2.1 dL_charge_23 (by decide) ?_
    exact mb_hret B hS1 hwd hrt hlk dL_charge_24
set_option maxRecDepth 100000 in
set_option maxHeartbeats 4000000 in
theorem H_owesAfter_r {l : Launch} {G : mb_G} (hst : l.stackTraces = false) (hg : mb_gok G) {x1 : Int32} {x2 : Int32} {h h1 : mb_AH} {v : Int32} (hf : F_X5_owesAfter x1 x2 h = some (.inl (some (.inl v)), h1)) : mb_Mh l G yL_owesAfter cL_owesAfter 5 [(0, 10, 13, 36), (0, 10, 17, 13)] 26 0 0 [mb_F 0 0 0, .inl x1, .inl x2, mb_F 30 0 0] h (.inl (some (.inl 0)), mb_sL h1 30 0 0 0 v.toInt64) := by
  refine mb_hentry (own := RL) (lv := [(0, .ref (G.2.2 (0, 0, 0))), (1, .int x1), (2, .int x2), (3, .ref (G.2.2 (30, 0, 0)))]) (by decide +kernel) rfl (Nat.le_of_ble_eq_true rfl) rfl hg (fun p e s m args below meth c ls B hlk hrt htab hw hl => ?_) (fun _ => trivial)
  refine lv_aload_n B.1 B.2.1 dL_owesAfter_0 rfl (lv_at hl 3 rfl) ?_
  refine lv_iconst (v := 0) B.1 B.2.1 dL_owesAfter_1 (by decide) ?_
  refine lv_aload_n B.1 B.2.1 dL_owesAfter_2 rfl (lv_at hl 0 rfl) ?_
  refine lv_iload_n B.1 B.2.1 dL_owesAfter_3 rfl (lv_at hl 1 rfl) ?_
  refine lv_iload_n B.1 B.2.1 dL_owesAfter_4 rfl (lv_at hl 2 rfl) ?_
  refine mb_xV (as := [.inl x1, .inl x2]) (n := 2) (d2 := 25) (ci := 5) (N := 6) (rest := [.int 0, .ref (G.2.2 (30, 0, 0))]) B va_S.rf hw hl.1 ⟨⟨by decide, by decide⟩, ⟨trivial, ⟨trivial, trivial⟩⟩⟩ (Nat.le_of_ble_eq_true rfl) (C_X5_owesAfter hst hg hf) (mb_gV wl_L_78 mi_X5_owesAfter ms_X5_owesAfter mn_X5 mc_X5_owesAfter) (by decide +kernel) rfl rfl rfl ⟨by show 8 + 25 + 1 ≤ 8 + 26; decide, by show _ ≤ 128 + 64 * 26; decide, Nat.le_of_ble_eq_true rfl, Nat.le_of_ble_eq_true rfl⟩ rfl dL_owesAfter_5 (fun v H1 locs1 hv _ hwd hS1 _ _ => ?_) (fun E ce q9 H1 locs1 hv hwd hS1 _ _ hce hcv hcl => ?_)
  · cases hv
    refine lv_i2l B.1 B.2.1 dL_owesAfter_8 rfl ?_
    refine mb_lastout B hS1 hwd dL_owesAfter_9 (fun H2 locs2 hwd2 hS2 => ?_) rfl
    refine lv_goto (tgt := 21) B.1 B.2.1 dL_owesAfter_10 (by decide) ?_
    refine lv_iconst (v := 0) B.1 B.2.1 dL_owesAfter_21 (by decide) ?_
    exact mb_hret B hS2 hwd2 hrt hlk dL_owesAfter_22
  · cases hv
set_option maxRecDepth 100000 in
set_option maxHeartbeats 4000000 in
theorem H_owesAfter_t1 {l : Launch} {G : mb_G} (hst : l.stackTraces = false) (hg : mb_gok G) {x1 : Int32} {x2 : Int32} {h h1 : mb_AH} (hf : F_X5_owesAfter x1 x2 h = some (.inr "java/lang/IndexOutOfBoundsException", h1)) : mb_Mh l G yL_owesAfter cL_owesAfter 5 [(0, 10, 13, 36), (0, 10, 17, 13)] 26 1 6 [mb_F 0 0 0, .inl x1, .inl x2, mb_F 30 0 0] h (.inl (some (.inl 1)), h1) := by
  refine mb_hentry (own := RL) (lv := [(0, .ref (G.2.2 (0, 0, 0))), (1, .int x1), (2, .int x2), (3, .ref (G.2.2 (30, 0, 0)))]) (by decide +kernel) rfl (Nat.le_of_ble_eq_true rfl) rfl hg (fun p e s m args below meth c ls B hlk hrt htab hw hl => ?_) (fun _ => trivial)
  refine lv_aload_n B.1 B.2.1 dL_owesAfter_0 rfl (lv_at hl 3 rfl) ?_
  refine lv_iconst (v := 0) B.1 B.2.1 dL_owesAfter_1 (by decide) ?_
  refine lv_aload_n B.1 B.2.1 dL_owesAfter_2 rfl (lv_at hl 0 rfl) ?_
  refine lv_iload_n B.1 B.2.1 dL_owesAfter_3 rfl (lv_at hl 1 rfl) ?_
  refine lv_iload_n B.1 B.2.1 dL_owesAfter_4 rfl (lv_at hl 2 rfl) ?_
  refine mb_xV (as := [.inl x1, .inl x2]) (n := 2) (d2 := 25) (ci := 5) (N := 6) (rest := [.int 0, .ref (G.2.2 (30, 0, 0))]) B va_S.rf hw hl.1 ⟨⟨by decide, by decide⟩, ⟨trivial, ⟨trivial, trivial⟩⟩⟩ (Nat.le_of_ble_eq_true rfl) (C_X5_owesAfter hst hg hf) (mb_gV wl_L_78 mi_X5_owesAfter ms_X5_owesAfter mn_X5 mc_X5_owesAfter) (by decide +kernel) rfl rfl rfl ⟨by show 8 + 25 + 1 ≤ 8 + 26; decide, by show _ ≤ 128 + 64 * 26; decide, Nat.le_of_ble_eq_true rfl, Nat.le_of_ble_eq_true rfl⟩ rfl dL_owesAfter_5 (fun v H1 locs1 hv _ hwd hS1 _ _ => ?_) (fun E ce q9 H1 locs1 hv hwd hS1 _ _ hce hcv hcl => ?_)
  · cases hv
  · cases hv
    refine vx_catch (name := "java/lang/IndexOutOfBoundsException") B.2.2.2.1 [] ⟨0, 10, 13, 36⟩ [⟨0, 10, 17, 13⟩] (by rw [htab]; rfl) (fun z hz => nomatch hz) (by decide) (by decide) (B.2.2.2.2.1 _ wc_L_36) (va_Nw.use (by decide) (B.2.2.2.2.2.2.1.2.2.2 _ fc_IOE)) hce hcv hcl ?_
    refine lv_astore (lv' := [(4, .ref q9), (0, .ref (G.2.2 (0, 0, 0))), (1, .int x1), (2, .int x2), (3, .ref (G.2.2 (30, 0, 0)))]) B.1 B.2.1 dL_owesAfter_13 hl (by decide) rfl (fun ls hl => ?_)
    refine lv_iconst (v := 1) B.1 B.2.1 dL_owesAfter_15 (by decide) ?_
    exact mb_hret B hS1 hwd hrt hlk dL_owesAfter_16
set_option maxRecDepth 100000 in
set_option maxHeartbeats 4000000 in
theorem H_owesAfter_t2 {l : Launch} {G : mb_G} (hst : l.stackTraces = false) (hg : mb_gok G) {x1 : Int32} {x2 : Int32} {h h1 : mb_AH} (hf : F_X5_owesAfter x1 x2 h = some (.inr "java/lang/IllegalArgumentException", h1)) : mb_Mh l G yL_owesAfter cL_owesAfter 5 [(0, 10, 13, 36), (0, 10, 17, 13)] 26 1 6 [mb_F 0 0 0, .inl x1, .inl x2, mb_F 30 0 0] h (.inl (some (.inl 2)), h1) := by
  refine mb_hentry (own := RL) (lv := [(0, .ref (G.2.2 (0, 0, 0))), (1, .int x1), (2, .int x2), (3, .ref (G.2.2 (30, 0, 0)))]) (by decide +kernel) rfl (Nat.le_of_ble_eq_true rfl) rfl hg (fun p e s m args below meth c ls B hlk hrt htab hw hl => ?_) (fun _ => trivial)
  refine lv_aload_n B.1 B.2.1 dL_owesAfter_0 rfl (lv_at hl 3 rfl) ?_
  refine lv_iconst (v := 0) B.1 B.2.1 dL_owesAfter_1 (by decide) ?_
  refine lv_aload_n B.1 B.2.1 dL_owesAfter_2 rfl (lv_at hl 0 rfl) ?_
  refine lv_iload_n B.1 B.2.1 dL_owesAfter_3 rfl (lv_at hl 1 rfl) ?_
  refine lv_iload_n B.1 B.2.1 dL_owesAfter_4 rfl (lv_at hl 2 rfl) ?_
  refine mb_xV (as := [.inl x1, .inl x2]) (n := 2) (d2 := 25) (ci := 5) (N := 6) (rest := [.int 0, .ref (G.2.2 (30, 0, 0))]) B va_S.rf hw hl.1 ⟨⟨by decide, by decide⟩, ⟨trivial, ⟨trivial, trivial⟩⟩⟩ (Nat.le_of_ble_eq_true rfl) (C_X5_owesAfter hst hg hf) (mb_gV wl_L_78 mi_X5_owesAfter ms_X5_owesAfter mn_X5 mc_X5_owesAfter) (by decide +kernel) rfl rfl rfl ⟨by show 8 + 25 + 1 ≤ 8 + 26; decide, by show _ ≤ 128 + 64 * 26; decide, Nat.le_of_ble_eq_true rfl, Nat.le_of_ble_eq_true rfl⟩ rfl dL_owesAfter_5 (fun v H1 locs1 hv _ hwd hS1 _ _ => ?_) (fun E ce q9 H1 locs1 hv hwd hS1 _ _ hce hcv hcl => ?_)
  · cases hv
  · cases hv
    refine vx_catch (name := "java/lang/IllegalArgumentException") B.2.2.2.1 [⟨0, 10, 13, 36⟩] ⟨0, 10, 17, 13⟩ [] (by rw [htab]; rfl) (fun z hz => by rw [List.mem_singleton] at hz; subst hz; exact Or.inr ⟨by decide, "java/lang/IndexOutOfBoundsException", B.2.2.2.2.1 _ wc_L_36, B.2.2.2.2.2.2.2.2.2.2 ("java/lang/IllegalArgumentException", "java/lang/IndexOutOfBoundsException") (by decide)⟩) (by decide) (by decide) (B.2.2.2.2.1 _ wc_L_13) (va_Nw.use (by decide) (B.2.2.2.2.2.2.1.2.2.2 _ fc_IAE)) hce hcv hcl ?_
    refine lv_astore (lv' := [(4, .ref q9), (0, .ref (G.2.2 (0, 0, 0))), (1, .int x1), (2, .int x2), (3, .ref (G.2.2 (30, 0, 0)))]) B.1 B.2.1 dL_owesAfter_17 hl (by decide) rfl (fun ls hl => ?_)
    refine lv_iconst (v := 2) B.1 B.2.1 dL_owesAfter_19 (by decide) ?_
    exact mb_hret B hS1 hwd hrt hlk dL_owesAfter_20
set_option maxRecDepth 100000 in
set_option maxHeartbeats 4000000 in
theorem H_groundsIn_r {l : Launch} {G : mb_G} (hst : l.stackTraces = false) (hg : mb_gok G) {x1 : Int32} {h h1 : mb_AH} {v : Int32} (hf : F_X5_groundsIn x1 h = some (.inl (some (.inl v)), h1)) : mb_Mh l G yL_groundsIn cL_groundsIn 4 [(0, 9, 12, 36)] 4 0 0 [mb_F 0 0 0, .inl x1, mb_F 30 0 0] h (.inl (some (.inl 0)), mb_sL h1 30 0 0 0 v.toInt64) := by
  refine mb_hentry (own := RL) (lv := [(0, .ref (G.2.2 (0, 0, 0))), (1, .int x1), (2, .ref (G.2.2 (30, 0, 0)))]) (by decide +kernel) rfl (Nat.le_of_ble_eq_true rfl) rfl hg (fun p e s m args below meth c ls B hlk hrt htab hw hl => ?_) (fun _ => trivial)
  refine lv_aload_n B.1 B.2.1 dL_groundsIn_0 rfl (lv_at hl 2 rfl) ?_
  refine lv_iconst (v := 0) B.1 B.2.1 dL_groundsIn_1 (by decide) ?_
  refine lv_aload_n B.1 B.2.1 dL_groundsIn_2 rfl (lv_at hl 0 rfl) ?_
  refine lv_iload_n B.1 B.2.1 dL_groundsIn_3 rfl (lv_at hl 1 rfl) ?_
  refine mb_xV (as := [.inl x1]) (n := 1) (d2 := 3) (ci := 5) (N := 6) (rest := [.int 0, .ref (G.2.2 (30, 0, 0))]) B va_S.rf hw hl.1 ⟨⟨by decide, by decide⟩, ⟨trivial, trivial⟩⟩ (Nat.le_of_ble_eq_true rfl) (C_X5_groundsIn hst hg hf) (mb_gV wl_L_81 mi_X5_groundsIn ms_X5_groundsIn mn_X5 mc_X5_groundsIn) (by decide +kernel) rfl rfl rfl ⟨by show 8 + 3 + 1 ≤ 8 + 4; decide, by show _ ≤ 128 + 64 * 4; decide, Nat.le_of_ble_eq_true rfl, Nat.le_of_ble_eq_true rfl⟩ rfl dL_groundsIn_4 (fun v H1 locs1 hv _ hwd hS1 _ _ => ?_) (fun E ce q9 H1 locs1 hv hwd hS1 _ _ hce hcv hcl => ?_)
  · cases hv
    refine lv_i2l B.1 B.2.1 dL_groundsIn_7 rfl ?_
    refine mb_lastout B hS1 hwd dL_groundsIn_8 (fun H2 locs2 hwd2 hS2 => ?_) rfl
    refine lv_goto (tgt := 15) B.1 B.2.1 dL_groundsIn_9 (by decide) ?_
    refine lv_iconst (v := 0) B.1 B.2.1 dL_groundsIn_15 (by decide) ?_
    exact mb_hret B hS2 hwd2 hrt hlk dL_groundsIn_16
  · cases hv
set_option maxRecDepth 100000 in
set_option maxHeartbeats 4000000 in
theorem H_groundsIn_t1 {l : Launch} {G : mb_G} (hst : l.stackTraces = false) (hg : mb_gok G) {x1 : Int32} {h h1 : mb_AH} (hf : F_X5_groundsIn x1 h = some (.inr "java/lang/IndexOutOfBoundsException", h1)) : mb_Mh l G yL_groundsIn cL_groundsIn 4 [(0, 9, 12, 36)] 4 1 6 [mb_F 0 0 0, .inl x1, mb_F 30 0 0] h (.inl (some (.inl 1)), h1) := by
  refine mb_hentry (own := RL) (lv := [(0, .ref (G.2.2 (0, 0, 0))), (1, .int x1), (2, .ref (G.2.2 (30, 0, 0)))]) (by decide +kernel) rfl (Nat.le_of_ble_eq_true rfl) rfl hg (fun p e s m args below meth c ls B hlk hrt htab hw hl => ?_) (fun _ => trivial)
  refine lv_aload_n B.1 B.2.1 dL_groundsIn_0 rfl (lv_at hl 2 rfl) ?_
  refine lv_iconst (v := 0) B.1 B.2.1 dL_groundsIn_1 (by decide) ?_
  refine lv_aload_n B.1 B.2.1 dL_groundsIn_2 rfl (lv_at hl 0 rfl) ?_
  refine lv_iload_n B.1 B.2.1 dL_groundsIn_3 rfl (lv_at hl 1 rfl) ?_
  refine mb_xV (as := [.inl x1]) (n := 1) (d2 := 3) (ci := 5) (N := 6) (rest := [.int 0, .ref (G.2.2 (30, 0, 0))]) B va_S.rf hw hl.1 ⟨⟨by decide, by decide⟩, ⟨trivial, trivial⟩⟩ (Nat.le_of_ble_eq_true rfl) (C_X5_groundsIn hst hg hf) (mb_gV wl_L_81 mi_X5_groundsIn ms_X5_groundsIn mn_X5 mc_X5_groundsIn) (by decide +kernel) rfl rfl rfl ⟨by show 8 + 3 + 1 ≤ 8 + 4; decide, by show _ ≤ 128 + 64 * 4; decide, Nat.le_of_ble_eq_true rfl, Nat.le_of_ble_eq_true rfl⟩ rfl dL_groundsIn_4 (fun v H1 locs1 hv _ hwd hS1 _ _ => ?_) (fun E ce q9 H1 locs1 hv hwd hS1 _ _ hce hcv hcl => ?_)
  · cases hv
  · cases hv
    refine vx_catch (name := "java/lang/IndexOutOfBoundsException") B.2.2.2.1 [] ⟨0, 9, 12, 36⟩ [] (by rw [htab]; rfl) (fun z hz => nomatch hz) (by decide) (by decide) (B.2.2.2.2.1 _ wc_L_36) (va_Nw.use (by decide) (B.2.2.2.2.2.2.1.2.2.2 _ fc_IOE)) hce hcv hcl ?_
    refine lv_astore_n (lv' := [(3, .ref q9), (0, .ref (G.2.2 (0, 0, 0))), (1, .int x1), (2, .ref (G.2.2 (30, 0, 0)))]) B.1 B.2.1 dL_groundsIn_12 rfl hl (by decide) rfl (fun ls hl => ?_)
    refine lv_iconst (v := 1) B.1 B.2.1 dL_groundsIn_13 (by decide) ?_
    exact mb_hret B hS1 hwd hrt hlk dL_groundsIn_14
set_option maxRecDepth 100000 in
set_option maxHeartbeats 4000000 in
theorem H_winterBerth_r {l : Launch} {G : mb_G} (hst : l.stackTraces = false) (hg : mb_gok G) {x1 : Int32} {h h1 : mb_AH} {v : Int32} (hf : F_X5_winterBerth x1 h = some (.inl (some (.inl v)), h1)) : mb_Mh l G yL_winterBerth cL_winterBerth 4 [(0, 9, 12, 36), (0, 9, 15, 23)] 26 0 0 [mb_F 0 0 0, .inl x1, mb_F 30 0 0] h (.inl (some (.inl 0)), mb_sL h1 30 0 0 0 v.toInt64) := by
  refine mb_hentry (own := RL) (lv := [(0, .ref (G.2.2 (0, 0, 0))), (1, .int x1), (2, .ref (G.2.2 (30, 0, 0)))]) (by decide +kernel) rfl (Nat.le_of_ble_eq_true rfl) rfl hg (fun p e s m args below meth c ls B hlk hrt htab hw hl => ?_) (fun _ => trivial)
  refine lv_aload_n B.1 B.2.1 dL_winterBerth_0 rfl (lv_at hl 2 rfl) ?_
  refine lv_iconst (v := 0) B.1 B.2.1 dL_winterBerth_1 (by decide) ?_
  refine lv_aload_n B.1 B.2.1 dL_winterBerth_2 rfl (lv_at hl 0 rfl) ?_
  refine lv_iload_n B.1 B.2.1 dL_winterBerth_3 rfl (lv_at hl 1 rfl) ?_
  refine mb_xV (as := [.inl x1]) (n := 1) (d2 := 25) (ci := 5) (N := 6) (rest := [.int 0, .ref (G.2.2 (30, 0, 0))]) B va_S.rf hw hl.1 ⟨⟨by decide, by decide⟩, ⟨trivial, trivial⟩⟩ (Nat.le_of_ble_eq_true rfl) (C_X5_winterBerth hst hg hf) (mb_gV wl_L_84 mi_X5_winterBerth ms_X5_winterBerth mn_X5 mc_X5_winterBerth) (by decide +kernel) rfl rfl rfl ⟨by show 8 + 25 + 1 ≤ 8 + 26; decide, by show _ ≤ 128 + 64 * 26; decide, Nat.le_of_ble_eq_true rfl, Nat.le_of_ble_eq_true rfl⟩ rfl dL_winterBerth_4 (fun v H1 locs1 hv _ hwd hS1 _ _ => ?_) (fun E ce q9 H1 locs1 hv hwd hS1 _ _ hce hcv hcl => ?_)
  · cases hv
    refine lv_i2l B.1 B.2.1 dL_winterBerth_7 rfl ?_
    refine mb_lastout B hS1 hwd dL_winterBerth_8 (fun H2 locs2 hwd2 hS2 => ?_) rfl
    refine lv_goto (tgt := 18) B.1 B.2.1 dL_winterBerth_9 (by decide) ?_
    refine lv_iconst (v := 0) B.1 B.2.1 dL_winterBerth_18 (by decide) ?_
    exact mb_hret B hS2 hwd2 hrt hlk dL_winterBerth_19
  · cases hv
set_option maxRecDepth 100000 in
set_option maxHeartbeats 4000000 in
theorem H_winterBerth_t1 {l : Launch} {G : mb_G} (hst : l.stackTraces = false) (hg : mb_gok G) {x1 : Int32} {h h1 : mb_AH} (hf : F_X5_winterBerth x1 h = some (.inr "java/lang/IndexOutOfBoundsException", h1)) : mb_Mh l G yL_winterBerth cL_winterBerth 4 [(0, 9, 12, 36), (0, 9, 15, 23)] 26 1 6 [mb_F 0 0 0, .inl x1, mb_F 30 0 0] h (.inl (some (.inl 1)), h1) := by
  refine mb_hentry (own := RL) (lv := [(0, .ref (G.2.2 (0, 0, 0))), (1, .int x1), (2, .ref (G.2.2 (30, 0, 0)))]) (by decide +kernel) rfl (Nat.le_of_ble_eq_true rfl) rfl hg (fun p e s m args below meth c ls B hlk hrt htab hw hl => ?_) (fun _ => trivial)
  refine lv_aload_n B.1 B.2.1 dL_winterBerth_0 rfl (lv_at hl 2 rfl) ?_
  refine lv_iconst (v := 0) B.1 B.2.1 dL_winterBerth_1 (by decide) ?_
  refine lv_aload_n B.1 B.2.1 dL_winterBerth_2 rfl (lv_at hl 0 rfl) ?_
  refine lv_iload_n B.1 B.2.1 dL_winterBerth_3 rfl (lv_at hl 1 rfl) ?_
  refine mb_xV (as := [.inl x1]) (n := 1) (d2 := 25) (ci := 5) (N := 6) (rest := [.int 0, .ref (G.2.2 (30, 0, 0))]) B va_S.rf hw hl.1 ⟨⟨by decide, by decide⟩, ⟨trivial, trivial⟩⟩ (Nat.le_of_ble_eq_true rfl) (C_X5_winterBerth hst hg hf) (mb_gV wl_L_84 mi_X5_winterBerth ms_X5_winterBerth mn_X5 mc_X5_winterBerth) (by decide +kernel) rfl rfl rfl ⟨by show 8 + 25 + 1 ≤ 8 + 26; decide, by show _ ≤ 128 + 64 * 26; decide, Nat.le_of_ble_eq_true rfl, Nat.le_of_ble_eq_true rfl⟩ rfl dL_winterBerth_4 (fun v H1 locs1 hv _ hwd hS1 _ _ => ?_) (fun E ce q9 H1 locs1 hv hwd hS1 _ _ hce hcv hcl => ?_)
  · cases hv
  · cases hv
    refine vx_catch (name := "java/lang/IndexOutOfBoundsException") B.2.2.2.1 [] ⟨0, 9, 12, 36⟩ [⟨0, 9, 15, 23⟩] (by rw [htab]; rfl) (fun z hz => nomatch hz) (by decide) (by decide) (B.2.2.2.2.1 _ wc_L_36) (va_Nw.use (by decide) (B.2.2.2.2.2.2.1.2.2.2 _ fc_IOE)) hce hcv hcl ?_
    refine lv_astore_n (lv' := [(3, .ref q9), (0, .ref (G.2.2 (0, 0, 0))), (1, .int x1), (2, .ref (G.2.2 (30, 0, 0)))]) B.1 B.2.1 dL_winterBerth_12 rfl hl (by decide) rfl (fun ls hl => ?_)
    refine lv_iconst (v := 1) B.1 B.2.1 dL_winterBerth_13 (by decide) ?_
    exact mb_hret B hS1 hwd hrt hlk dL_winterBerth_14
set_option maxRecDepth 100000 in
set_option maxHeartbeats 4000000 in
theorem H_winterBerth_t2 {l : Launch} {G : mb_G} (hst : l.stackTraces = false) (hg : mb_gok G) {x1 : Int32} {h h1 : mb_AH} (hf : F_X5_winterBerth x1 h = some (.inr "java/lang/IllegalStateException", h1)) : mb_Mh l G yL_winterBerth cL_winterBerth 4 [(0, 9, 12, 36), (0, 9, 15, 23)] 26 1 6 [mb_F 0 0 0, .inl x1, mb_F 30 0 0] h (.inl (some (.inl 2)), h1) := by
  refine mb_hentry (own := RL) (lv := [(0, .ref (G.2.2 (0, 0, 0))), (1, .int x1), (2, .ref (G.2.2 (30, 0, 0)))]) (by decide +kernel) rfl (Nat.le_of_ble_eq_true rfl) rfl hg (fun p e s m args below meth c ls B hlk hrt htab hw hl => ?_) (fun _ => trivial)
  refine lv_aload_n B.1 B.2.1 dL_winterBerth_0 rfl (lv_at hl 2 rfl) ?_
  refine lv_iconst (v := 0) B.1 B.2.1 dL_winterBerth_1 (by decide) ?_
  refine lv_aload_n B.1 B.2.1 dL_winterBerth_2 rfl (lv_at hl 0 rfl) ?_
  refine lv_iload_n B.1 B.2.1 dL_winterBerth_3 rfl (lv_at hl 1 rfl) ?_
  refine mb_xV (as := [.inl x1]) (n := 1) (d2 := 25) (ci := 5) (N := 6) (rest := [.int 0, .ref (G.2.2 (30, 0, 0))]) B va_S.rf hw hl.1 ⟨⟨by decide, by decide⟩, ⟨trivial, trivial⟩⟩ (Nat.le_of_ble_eq_true rfl) (C_X5_winterBerth hst hg hf) (mb_gV wl_L_84 mi_X5_winterBerth ms_X5_winterBerth mn_X5 mc_X5_winterBerth) (by decide +kernel) rfl rfl rfl ⟨by show 8 + 25 + 1 ≤ 8 + 26; decide, by show _ ≤ 128 + 64 * 26; decide, Nat.le_of_ble_eq_true rfl, Nat.le_of_ble_eq_true rfl⟩ rfl dL_winterBerth_4 (fun v H1 locs1 hv _ hwd hS1 _ _ => ?_) (fun E ce q9 H1 locs1 hv hwd hS1 _ _ hce hcv hcl => ?_)
  · cases hv
  · cases hv
    refine vx_catch (name := "java/lang/IllegalStateException") B.2.2.2.1 [⟨0, 9, 12, 36⟩] ⟨0, 9, 15, 23⟩ [] (by rw [htab]; rfl) (fun z hz => by rw [List.mem_singleton] at hz; subst hz; exact Or.inr ⟨by decide, "java/lang/IndexOutOfBoundsException", B.2.2.2.2.1 _ wc_L_36, B.2.2.2.2.2.2.2.2.2.2 ("java/lang/IllegalStateException", "java/lang/IndexOutOfBoundsException") (by decide)⟩) (by decide) (by decide) (B.2.2.2.2.1 _ wc_L_23) (va_Nw.use (by decide) (B.2.2.2.2.2.2.1.2.2.2 _ fc_ISE)) hce hcv hcl ?_
    refine lv_astore_n (lv' := [(3, .ref q9), (0, .ref (G.2.2 (0, 0, 0))), (1, .int x1), (2, .ref (G.2.2 (30, 0, 0)))]) B.1 B.2.1 dL_winterBerth_15 rfl hl (by decide) rfl (fun ls hl => ?_)
    refine lv_iconst (v := 2) B.1 B.2.1 dL_winterBerth_16 (by decide) ?_
    exact mb_hret B hS1 hwd hrt hlk dL_winterBerth_17
set_option maxRecDepth 100000 in
set_option maxHeartbeats 4000000 in
theorem H_wouldGoAshore_r {l : Launch} {G : mb_G} (hst : l.stackTraces = false) (hg : mb_gok G)  {h h1 : mb_AH} {v : Int32} (hf : F_X5_wouldGoAshore  h = some (.inl (some (.inl v)), h1)) : mb_Mh l G yL_wouldGoAshore cL_wouldGoAshore 3 [(0, 8, 11, 23)] 26 0 0 [mb_F 0 0 0, mb_F 30 0 0] h (.inl (some (.inl 0)), mb_sL h1 30 0 0 0 v.toInt64) := by
  refine mb_hentry (own := RL) (lv := [(0, .ref (G.2.2 (0, 0, 0))), (1, .ref (G.2.2 (30, 0, 0)))]) (by decide +kernel) rfl (Nat.le_of_ble_eq_true rfl) rfl hg (fun p e s m args below meth c ls B hlk hrt htab hw hl => ?_) (fun _ => trivial)
  refine lv_aload_n B.1 B.2.1 dL_wouldGoAshore_0 rfl (lv_at hl 1 rfl) ?_
  refine lv_iconst (v := 0) B.1 B.2.1 dL_wouldGoAshore_1 (by decide) ?_
  refine lv_aload_n B.1 B.2.1 dL_wouldGoAshore_2 rfl (lv_at hl 0 rfl) ?_
  refine mb_xV (as := []) (n := 0) (d2 := 25) (ci := 5) (N := 6) (rest := [.int 0, .ref (G.2.2 (30, 0, 0))]) B va_S.rf hw hl.1 ⟨⟨by decide, by decide⟩, trivial⟩ (Nat.le_of_ble_eq_true rfl) (C_X5_wouldGoAshore hst hg hf) (mb_gV wl_L_87 mi_X5_wouldGoAshore ms_X5_wouldGoAshore mn_X5 mc_X5_wouldGoAshore) (by decide +kernel) rfl rfl rfl ⟨by show 8 + 25 + 1 ≤ 8 + 26; decide, by show _ ≤ 128 + 64 * 26; decide, Nat.le_of_ble_eq_true rfl, Nat.le_of_ble_eq_true rfl⟩ rfl dL_wouldGoAshore_3 (fun v H1 locs1 hv _ hwd hS1 _ _ => ?_) (fun E ce q9 H1 locs1 hv hwd hS1 _ _ hce hcv hcl => ?_)
  · cases hv
    refine lv_i2l B.1 B.2.1 dL_wouldGoAshore_6 rfl ?_
    refine mb_lastout B hS1 hwd dL_wouldGoAshore_7 (fun H2 locs2 hwd2 hS2 => ?_) rfl
    refine lv_goto (tgt := 14) B.1 B.2.1 dL_wouldGoAshore_8 (by decide) ?_
    refine lv_iconst (v := 0) B.1 B.2.1 dL_wouldGoAshore_14 (by decide) ?_
    exact mb_hret B hS2 hwd2 hrt hlk dL_wouldGoAshore_15
  · cases hv
set_option maxRecDepth 100000 in
set_option maxHeartbeats 4000000 in
theorem H_wouldGoAshore_t1 {l : Launch} {G : mb_G} (hst : l.stackTraces = false) (hg : mb_gok G)  {h h1 : mb_AH} (hf : F_X5_wouldGoAshore  h = some (.inr "java/lang/IllegalStateException", h1)) : mb_Mh l G yL_wouldGoAshore cL_wouldGoAshore 3 [(0, 8, 11, 23)] 26 1 6 [mb_F 0 0 0, mb_F 30 0 0] h (.inl (some (.inl 1)), h1) := by
  refine mb_hentry (own := RL) (lv := [(0, .ref (G.2.2 (0, 0, 0))), (1, .ref (G.2.2 (30, 0, 0)))]) (by decide +kernel) rfl (Nat.le_of_ble_eq_true rfl) rfl hg (fun p e s m args below meth c ls B hlk hrt htab hw hl => ?_) (fun _ => trivial)
  refine lv_aload_n B.1 B.2.1 dL_wouldGoAshore_0 rfl (lv_at hl 1 rfl) ?_
  refine lv_iconst (v := 0) B.1 B.2.1 dL_wouldGoAshore_1 (by decide) ?_
  refine lv_aload_n B.1 B.2.1 dL_wouldGoAshore_2 rfl (lv_at hl 0 rfl) ?_
  refine mb_xV (as := []) (n := 0) (d2 := 25) (ci := 5) (N := 6) (rest := [.int 0, .ref (G.2.2 (30, 0, 0))]) B va_S.rf hw hl.1 ⟨⟨by decide, by decide⟩, trivial⟩ (Nat.le_of_ble_eq_true rfl) (C_X5_wouldGoAshore hst hg hf) (mb_gV wl_L_87 mi_X5_wouldGoAshore ms_X5_wouldGoAshore mn_X5 mc_X5_wouldGoAshore) (by decide +kernel) rfl rfl rfl ⟨by show 8 + 25 + 1 ≤ 8 + 26; decide, by show _ ≤ 128 + 64 * 26; decide, Nat.le_of_ble_eq_true rfl, Nat.le_of_ble_eq_true rfl⟩ rfl dL_wouldGoAshore_3 (fun v H1 locs1 hv _ hwd hS1 _ _ => ?_) (fun E ce q9 H1 locs1 hv hwd hS1 _ _ hce hcv hcl => ?_)
  · cases hv
  · cases hv
    refine vx_catch (name := "java/lang/IllegalStateException") B.2.2.2.1 [] ⟨0, 8, 11, 23⟩ [] (by rw [htab]; rfl) (fun z hz => nomatch hz) (by decide) (by decide) (B.2.2.2.2.1 _ wc_L_23) (va_Nw.use (by decide) (B.2.2.2.2.2.2.1.2.2.2 _ fc_ISE)) hce hcv hcl ?_
    refine lv_astore_n (lv' := [(2, .ref q9), (0, .ref (G.2.2 (0, 0, 0))), (1, .ref (G.2.2 (30, 0, 0)))]) B.1 B.2.1 dL_wouldGoAshore_11 rfl hl (by decide) rfl (fun ls hl => ?_)
    refine lv_iconst (v := 1) B.1 B.2.1 dL_wouldGoAshore_12 (by decide) ?_
    exact mb_hret B hS1 hwd hrt hlk dL_wouldGoAshore_13
set_option maxRecDepth 100000 in
set_option maxHeartbeats 4000000 in
theorem H_missingDepth_r {l : Launch} {G : mb_G} (hst : l.stackTraces = false) (hg : mb_gok G) {x1 : Int32} {x2 : Int32} {h h1 : mb_AH} {v : Int32} (hf : F_X5_missingDepth x1 x2 h = some (.inl (some (.inl v)), h1)) : mb_Mh l G yL_missingDepth cL_missingDepth 5 [(0, 10, 13, 36)] 2 0 0 [mb_F 0 0 0, .inl x1, .inl x2, mb_F 30 0 0] h (.inl (some (.inl 0)), mb_sL h1 30 0 0 0 v.toInt64) := by
  refine mb_hentry (own := RL) (lv := [(0, .ref (G.2.2 (0, 0, 0))), (1, .int x1), (2, .int x2), (3, .ref (G.2.2 (30, 0, 0)))]) (by decide +kernel) rfl (Nat.le_of_ble_eq_true rfl) rfl hg (fun p e s m args below meth c ls B hlk hrt htab hw hl => ?_) (fun _ => trivial)
  refine lv_aload_n B.1 B.2.1 dL_missingDepth_0 rfl (lv_at hl 3 rfl) ?_
  refine lv_iconst (v := 0) B.1 B.2.1 dL_missingDepth_1 (by decide) ?_
  refine lv_aload_n B.1 B.2.1 dL_missingDepth_2 rfl (lv_at hl 0 rfl) ?_
  refine lv_iload_n B.1 B.2.1 dL_missingDepth_3 rfl (lv_at hl 1 rfl) ?_
  refine lv_iload_n B.1 B.2.1 dL_missingDepth_4 rfl (lv_at hl 2 rfl) ?_
  refine mb_xV (as := [.inl x1, .inl x2]) (n := 2) (d2 := 1) (ci := 5) (N := 6) (rest := [.int 0, .ref (G.2.2 (30, 0, 0))]) B va_S.rf hw hl.1 ⟨⟨by decide, by decide⟩, ⟨trivial, ⟨trivial, trivial⟩⟩⟩ (Nat.le_of_ble_eq_true rfl) (C_X5_missingDepth hst hg hf) (mb_gV wl_L_90 mi_X5_missingDepth ms_X5_missingDepth mn_X5 mc_X5_missingDepth) (by decide +kernel) rfl rfl rfl ⟨by show 8 + 1 + 1 ≤ 8 + 2; decide, by show _ ≤ 128 + 64 * 2; decide, Nat.le_of_ble_eq_true rfl, Nat.le_of_ble_eq_true rfl⟩ rfl dL_missingDepth_5 (fun v H1 locs1 hv _ hwd hS1 _ _ => ?_) (fun E ce q9 H1 locs1 hv hwd hS1 _ _ hce hcv hcl => ?_)
  · cases hv
    refine lv_i2l B.1 B.2.1 dL_missingDepth_8 rfl ?_
    refine mb_lastout B hS1 hwd dL_missingDepth_9 (fun H2 locs2 hwd2 hS2 => ?_) rfl
    refine lv_goto (tgt := 17) B.1 B.2.1 dL_missingDepth_10 (by decide) ?_
    refine lv_iconst (v := 0) B.1 B.2.1 dL_missingDepth_17 (by decide) ?_
    exact mb_hret B hS2 hwd2 hrt hlk dL_missingDepth_18
  · cases hv
set_option maxRecDepth 100000 in
set_option maxHeartbeats 4000000 in
theorem H_missingDepth_t1 {l : Launch} {G : mb_G} (hst : l.stackTraces = false) (hg : mb_gok G) {x1 : Int32} {x2 : Int32} {h h1 : mb_AH} (hf : F_X5_missingDepth x1 x2 h = some (.inr "java/lang/IndexOutOfBoundsException", h1)) : mb_Mh l G yL_missingDepth cL_missingDepth 5 [(0, 10, 13, 36)] 2 1 6 [mb_F 0 0 0, .inl x1, .inl x2, mb_F 30 0 0] h (.inl (some (.inl 1)), h1) := by
  refine mb_hentry (own := RL) (lv := [(0, .ref (G.2.2 (0, 0, 0))), (1, .int x1), (2, .int x2), (3, .ref (G.2.2 (30, 0, 0)))]) (by decide +kernel) rfl (Nat.le_of_ble_eq_true rfl) rfl hg (fun p e s m args below meth c ls B hlk hrt htab hw hl => ?_) (fun _ => trivial)
  refine lv_aload_n B.1 B.2.1 dL_missingDepth_0 rfl (lv_at hl 3 rfl) ?_
  refine lv_iconst (v := 0) B.1 B.2.1 dL_missingDepth_1 (by decide) ?_
  refine lv_aload_n B.1 B.2.1 dL_missingDepth_2 rfl (lv_at hl 0 rfl) ?_
  refine lv_iload_n B.1 B.2.1 dL_missingDepth_3 rfl (lv_at hl 1 rfl) ?_
  refine lv_iload_n B.1 B.2.1 dL_missingDepth_4 rfl (lv_at hl 2 rfl) ?_
  refine mb_xV (as := [.inl x1, .inl x2]) (n := 2) (d2 := 1) (ci := 5) (N := 6) (rest := [.int 0, .ref (G.2.2 (30, 0, 0))]) B va_S.rf hw hl.1 ⟨⟨by decide, by decide⟩, ⟨trivial, ⟨trivial, trivial⟩⟩⟩ (Nat.le_of_ble_eq_true rfl) (C_X5_missingDepth hst hg hf) (mb_gV wl_L_90 mi_X5_missingDepth ms_X5_missingDepth mn_X5 mc_X5_missingDepth) (by decide +kernel) rfl rfl rfl ⟨by show 8 + 1 + 1 ≤ 8 + 2; decide, by show _ ≤ 128 + 64 * 2; decide, Nat.le_of_ble_eq_true rfl, Nat.le_of_ble_eq_true rfl⟩ rfl dL_missingDepth_5 (fun v H1 locs1 hv _ hwd hS1 _ _ => ?_) (fun E ce q9 H1 locs1 hv hwd hS1 _ _ hce hcv hcl => ?_)
  · cases hv
  · cases hv
    refine vx_catch (name := "java/lang/IndexOutOfBoundsException") B.2.2.2.1 [] ⟨0, 10, 13, 36⟩ [] (by rw [htab]; rfl) (fun z hz => nomatch hz) (by decide) (by decide) (B.2.2.2.2.1 _ wc_L_36) (va_Nw.use (by decide) (B.2.2.2.2.2.2.1.2.2.2 _ fc_IOE)) hce hcv hcl ?_
    refine lv_astore (lv' := [(4, .ref q9), (0, .ref (G.2.2 (0, 0, 0))), (1, .int x1), (2, .int x2), (3, .ref (G.2.2 (30, 0, 0)))]) B.1 B.2.1 dL_missingDepth_13 hl (by decide) rfl (fun ls hl => ?_)
    refine lv_iconst (v := 1) B.1 B.2.1 dL_missingDepth_15 (by decide) ?_
    exact mb_hret B hS1 hwd hrt hlk dL_missingDepth_16
set_option maxRecDepth 100000 in
set_option maxHeartbeats 4000000 in
theorem H_type_r {l : Launch} {G : mb_G} (hst : l.stackTraces = false) (hg : mb_gok G) {x1 : Int32} {h h1 : mb_AH} {v : Int32} (hf : F_X5_type x1 h = some (.inl (some (.inl v)), h1)) : mb_Mh l G yL_type cL_type 4 [(0, 9, 12, 13), (0, 9, 15, 23)] 2 0 0 [mb_F 0 0 0, .inl x1, mb_F 30 0 0] h (.inl (some (.inl 0)), mb_sL h1 30 0 0 0 v.toInt64) := by
  refine mb_hentry (own := RL) (lv := [(0, .ref (G.2.2 (0, 0, 0))), (1, .int x1), (2, .ref (G.2.2 (30, 0, 0)))]) (by decide +kernel) rfl (Nat.le_of_ble_eq_true rfl) rfl hg (fun p e s m args below meth c ls B hlk hrt htab hw hl => ?_) (fun _ => trivial)
  refine lv_aload_n B.1 B.2.1 dL_type_0 rfl (lv_at hl 2 rfl) ?_
  refine lv_iconst (v := 0) B.1 B.2.1 dL_type_1 (by decide) ?_
  refine lv_aload_n B.1 B.2.1 dL_type_2 rfl (lv_at hl 0 rfl) ?_
  refine lv_iload_n B.1 B.2.1 dL_type_3 rfl (lv_at hl 1 rfl) ?_
  refine mb_xV (as := [.inl x1]) (n := 1) (d2 := 1) (ci := 5) (N := 6) (rest := [.int 0, .ref (G.2.2 (30, 0, 0))]) B va_S.rf hw hl.1 ⟨⟨by decide, by decide⟩, ⟨trivial, trivial⟩⟩ (Nat.le_of_ble_eq_true rfl) (C_X5_type hst hg hf) (mb_gV wl_L_93 mi_X5_type ms_X5_type mn_X5 mc_X5_type) (by decide +kernel) rfl rfl rfl ⟨by show 8 + 1 + 1 ≤ 8 + 2; decide, by show _ ≤ 128 + 64 * 2; decide, Nat.le_of_ble_eq_true rfl, Nat.le_of_ble_eq_true rfl⟩ rfl dL_type_4 (fun v H1 locs1 hv _ hwd hS1 _ _ => ?_) (fun E ce q9 H1 locs1 hv hwd hS1 _ _ hce hcv hcl => ?_)
  · cases hv
    refine lv_i2l B.1 B.2.1 dL_type_7 rfl ?_
    refine mb_lastout B hS1 hwd dL_type_8 (fun H2 locs2 hwd2 hS2 => ?_) rfl
    refine lv_goto (tgt := 18) B.1 B.2.1 dL_type_9 (by decide) ?_
    refine lv_iconst (v := 0) B.1 B.2.1 dL_type_18 (by decide) ?_
    exact mb_hret B hS2 hwd2 hrt hlk dL_type_19
  · cases hv
set_option maxRecDepth 100000 in
set_option maxHeartbeats 4000000 in
theorem H_type_t1 {l : Launch} {G : mb_G} (hst : l.stackTraces = false) (hg : mb_gok G) {x1 : Int32} {h h1 : mb_AH} (hf : F_X5_type x1 h = some (.inr "java/lang/IllegalArgumentException", h1)) : mb_Mh l G yL_type cL_type 4 [(0, 9, 12, 13), (0, 9, 15, 23)] 2 1 6 [mb_F 0 0 0, .inl x1, mb_F 30 0 0] h (.inl (some (.inl 1)), h1) := by
  refine mb_hentry (own := RL) (lv := [(0, .ref (G.2.2 (0, 0, 0))), (1, .int x1), (2, .ref (G.2.2 (30, 0, 0)))]) (by decide +kernel) rfl (Nat.le_of_ble_eq_true rfl) rfl hg (fun p e s m args below meth c ls B hlk hrt htab hw hl => ?_) (fun _ => trivial)
  refine lv_aload_n B.1 B.2.1 dL_type_0 rfl (lv_at hl 2 rfl) ?_
  refine lv_iconst (v := 0) B.1 B.2.1 dL_type_1 (by decide) ?_
  refine lv_aload_n B.1 B.2.1 dL_type_2 rfl (lv_at hl 0 rfl) ?_
  refine lv_iload_n B.1 B.2.1 dL_type_3 rfl (lv_at hl 1 rfl) ?_
  refine mb_xV (as := [.inl x1]) (n := 1) (d2 := 1) (ci := 5) (N := 6) (rest := [.int 0, .ref (G.2.2 (30, 0, 0))]) B va_S.rf hw hl.1 ⟨⟨by decide, by decide⟩, ⟨trivial, trivial⟩⟩ (Nat.le_of_ble_eq_true rfl) (C_X5_type hst hg hf) (mb_gV wl_L_93 mi_X5_type ms_X5_type mn_X5 mc_X5_type) (by decide +kernel) rfl rfl rfl ⟨by show 8 + 1 + 1 ≤ 8 + 2; decide, by show _ ≤ 128 + 64 * 2; decide, Nat.le_of_ble_eq_true rfl, Nat.le_of_ble_eq_true rfl⟩ rfl dL_type_4 (fun v H1 locs1 hv _ hwd hS1 _ _ => ?_) (fun E ce q9 H1 locs1 hv hwd hS1 _ _ hce hcv hcl => ?_)
  · cases hv
  · cases hv
    refine vx_catch (name := "java/lang/IllegalArgumentException") B.2.2.2.1 [] ⟨0, 9, 12, 13⟩ [⟨0, 9, 15, 23⟩] (by rw [htab]; rfl) (fun z hz => nomatch hz) (by decide) (by decide) (B.2.2.2.2.1 _ wc_L_13) (va_Nw.use (by decide) (B.2.2.2.2.2.2.1.2.2.2 _ fc_IAE)) hce hcv hcl ?_
    refine lv_astore_n (lv' := [(3, .ref q9), (0, .ref (G.2.2 (0, 0, 0))), (1, .int x1), (2, .ref (G.2.2 (30, 0, 0)))]) B.1 B.2.1 dL_type_12 rfl hl (by decide) rfl (fun ls hl => ?_)
    refine lv_iconst (v := 1) B.1 B.2.1 dL_type_13 (by decide) ?_
    exact mb_hret B hS1 hwd hrt hlk dL_type_14
set_option maxRecDepth 100000 in
set_option maxHeartbeats 4000000 in
theorem H_type_t2 {l : Launch} {G : mb_G} (hst : l.stackTraces = false) (hg : mb_gok G) {x1 : Int32} {h h1 : mb_AH} (hf : F_X5_type x1 h = some (.inr "java/lang/IllegalStateException", h1)) : mb_Mh l G yL_type cL_type 4 [(0, 9, 12, 13), (0, 9, 15, 23)] 2 1 6 [mb_F 0 0 0, .inl x1, mb_F 30 0 0] h (.inl (some (.inl 2)), h1) := by
  refine mb_hentry (own := RL) (lv := [(0, .ref (G.2.2 (0, 0, 0))), (1, .int x1), (2, .ref (G.2.2 (30, 0, 0)))]) (by decide +kernel) rfl (Nat.le_of_ble_eq_true rfl) rfl hg (fun p e s m args below meth c ls B hlk hrt htab hw hl => ?_) (fun _ => trivial)
  refine lv_aload_n B.1 B.2.1 dL_type_0 rfl (lv_at hl 2 rfl) ?_
  refine lv_iconst (v := 0) B.1 B.2.1 dL_type_1 (by decide) ?_
  refine lv_aload_n B.1 B.2.1 dL_type_2 rfl (lv_at hl 0 rfl) ?_
  refine lv_iload_n B.1 B.2.1 dL_type_3 rfl (lv_at hl 1 rfl) ?_
  refine mb_xV (as := [.inl x1]) (n := 1) (d2 := 1) (ci := 5) (N := 6) (rest := [.int 0, .ref (G.2.2 (30, 0, 0))]) B va_S.rf hw hl.1 ⟨⟨by decide, by decide⟩, ⟨trivial, trivial⟩⟩ (Nat.le_of_ble_eq_true rfl) (C_X5_type hst hg hf) (mb_gV wl_L_93 mi_X5_type ms_X5_type mn_X5 mc_X5_type) (by decide +kernel) rfl rfl rfl ⟨by show 8 + 1 + 1 ≤ 8 + 2; decide, by show _ ≤ 128 + 64 * 2; decide, Nat.le_of_ble_eq_true rfl, Nat.le_of_ble_eq_true rfl⟩ rfl dL_type_4 (fun v H1 locs1 hv _ hwd hS1 _ _ => ?_) (fun E ce q9 H1 locs1 hv hwd hS1 _ _ hce hcv hcl => ?_)
  · cases hv
  · cases hv
    refine vx_catch (name := "java/lang/IllegalStateException") B.2.2.2.1 [⟨0, 9, 12, 13⟩] ⟨0, 9, 15, 23⟩ [] (by rw [htab]; rfl) (fun z hz => by rw [List.mem_singleton] at hz; subst hz; exact Or.inr ⟨by decide, "java/lang/IllegalArgumentException", B.2.2.2.2.1 _ wc_L_13, B.2.2.2.2.2.2.2.2.2.2 ("java/lang/IllegalStateException", "java/lang/IllegalArgumentException") (by decide)⟩) (by decide) (by decide) (B.2.2.2.2.1 _ wc_L_23) (va_Nw.use (by decide) (B.2.2.2.2.2.2.1.2.2.2 _ fc_ISE)) hce hcv hcl ?_
    refine lv_astore_n (lv' := [(3, .ref q9), (0, .ref (G.2.2 (0, 0, 0))), (1, .int x1), (2, .ref (G.2.2 (30, 0, 0)))]) B.1 B.2.1 dL_type_15 rfl hl (by decide) rfl (fun ls hl => ?_)
    refine lv_iconst (v := 2) B.1 B.2.1 dL_type_16 (by decide) ?_
    exact mb_hret B hS1 hwd hrt hlk dL_type_17
set_option maxRecDepth 100000 in
set_option maxHeartbeats 4000000 in
theorem H_undo_r {l : Launch} {G : mb_G} (hst : l.stackTraces = false) (hg : mb_gok G)  {h h1 : mb_AH} {v : Int32} (hf : F_X5_undo  h = some (.inl (some (.inl v)), h1)) : mb_Mh l G yL_undo cL_undo 3 [(0, 8, 11, 23)] 4 0 0 [mb_F 0 0 0, mb_F 30 0 0] h (.inl (some (.inl 0)), mb_sL h1 30 0 0 0 v.toInt64) := by
  refine mb_hentry (own := RL) (lv := [(0, .ref (G.2.2 (0, 0, 0))), (1, .ref (G.2.2 (30, 0, 0)))]) (by decide +kernel) rfl (Nat.le_of_ble_eq_true rfl) rfl hg (fun p e s m args below meth c ls B hlk hrt htab hw hl => ?_) (fun _ => trivial)
  refine lv_aload_n B.1 B.2.1 dL_undo_0 rfl (lv_at hl 1 rfl) ?_
  refine lv_iconst (v := 0) B.1 B.2.1 dL_undo_1 (by decide) ?_
  refine lv_aload_n B.1 B.2.1 dL_undo_2 rfl (lv_at hl 0 rfl) ?_
  refine mb_xV (as := []) (n := 0) (d2 := 3) (ci := 5) (N := 6) (rest := [.int 0, .ref (G.2.2 (30, 0, 0))]) B va_S.rf hw hl.1 ⟨⟨by decide, by decide⟩, trivial⟩ (Nat.le_of_ble_eq_true rfl) (C_X5_undo hst hg hf) (mb_gV wl_L_96 mi_X5_undo ms_X5_undo mn_X5 mc_X5_undo) (by decide +kernel) rfl rfl rfl ⟨by show 8 + 3 + 1 ≤ 8 + 4; decide, by show _ ≤ 128 + 64 * 4; decide, Nat.le_of_ble_eq_true rfl, Nat.le_of_ble_eq_true rfl⟩ rfl dL_undo_3 (fun v H1 locs1 hv _ hwd hS1 _ _ => ?_) (fun E ce q9 H1 locs1 hv hwd hS1 _ _ hce hcv hcl => ?_)
  · cases hv
    refine lv_i2l B.1 B.2.1 dL_undo_6 rfl ?_
    refine mb_lastout B hS1 hwd dL_undo_7 (fun H2 locs2 hwd2 hS2 => ?_) rfl
    refine lv_goto (tgt := 14) B.1 B.2.1 dL_undo_8 (by decide) ?_
    refine lv_iconst (v := 0) B.1 B.2.1 dL_undo_14 (by decide) ?_
    exact mb_hret B hS2 hwd2 hrt hlk dL_undo_15
  · cases hv
set_option maxRecDepth 100000 in
set_option maxHeartbeats 4000000 in
theorem H_undo_t1 {l : Launch} {G : mb_G} (hst : l.stackTraces = false) (hg : mb_gok G)  {h h1 : mb_AH} (hf : F_X5_undo  h = some (.inr "java/lang/IllegalStateException", h1)) : mb_Mh l G yL_undo cL_undo 3 [(0, 8, 11, 23)] 4 1 6 [mb_F 0 0 0, mb_F 30 0 0] h (.inl (some (.inl 1)), h1) := by
  refine mb_hentry (own := RL) (lv := [(0, .ref (G.2.2 (0, 0, 0))), (1, .ref (G.2.2 (30, 0, 0)))]) (by decide +kernel) rfl (Nat.le_of_ble_eq_true rfl) rfl hg (fun p e s m args below meth c ls B hlk hrt htab hw hl => ?_) (fun _ => trivial)
  refine lv_aload_n B.1 B.2.1 dL_undo_0 rfl (lv_at hl 1 rfl) ?_
  refine lv_iconst (v := 0) B.1 B.2.1 dL_undo_1 (by decide) ?_
  refine lv_aload_n B.1 B.2.1 dL_undo_2 rfl (lv_at hl 0 rfl) ?_
  refine mb_xV (as := []) (n := 0) (d2 := 3) (ci := 5) (N := 6) (rest := [.int 0, .ref (G.2.2 (30, 0, 0))]) B va_S.rf hw hl.1 ⟨⟨by decide, by decide⟩, trivial⟩ (Nat.le_of_ble_eq_true rfl) (C_X5_undo hst hg hf) (mb_gV wl_L_96 mi_X5_undo ms_X5_undo mn_X5 mc_X5_undo) (by decide +kernel) rfl rfl rfl ⟨by show 8 + 3 + 1 ≤ 8 + 4; decide, by show _ ≤ 128 + 64 * 4; decide, Nat.le_of_ble_eq_true rfl, Nat.le_of_ble_eq_true rfl⟩ rfl dL_undo_3 (fun v H1 locs1 hv _ hwd hS1 _ _ => ?_) (fun E ce q9 H1 locs1 hv hwd hS1 _ _ hce hcv hcl => ?_)
  · cases hv
  · cases hv
    refine vx_catch (name := "java/lang/IllegalStateException") B.2.2.2.1 [] ⟨0, 8, 11, 23⟩ [] (by rw [htab]; rfl) (fun z hz => nomatch hz) (by decide) (by decide) (B.2.2.2.2.1 _ wc_L_23) (va_Nw.use (by decide) (B.2.2.2.2.2.2.1.2.2.2 _ fc_ISE)) hce hcv hcl ?_
    refine lv_astore_n (lv' := [(2, .ref q9), (0, .ref (G.2.2 (0, 0, 0))), (1, .ref (G.2.2 (30, 0, 0)))]) B.1 B.2.1 dL_undo_11 rfl hl (by decide) rfl (fun ls hl => ?_)
    refine lv_iconst (v := 1) B.1 B.2.1 dL_undo_12 (by decide) ?_
    exact mb_hret B hS1 hwd hrt hlk dL_undo_13
