/-! ===== constructors: generics ===== -/
/-- words that stand by the classes alone: private constructors of the nest, arrays of objects -/
def ct_FW (U : State) : Prop := va_Nw (.methodLinkNest RX2 40 yX0_init "MarinaBerths") U ∧ va_Nw (.methodLinkNest RX2 41 yX1_init "MarinaBerths") U ∧ va_Nw (.methodLinkNest RX5 25 yX4_init "MarinaBerths") U ∧ va_Nw (.methodLinkNest RX5 32 yX3_init "MarinaBerths") U ∧ va_AO RX0 U ∧ va_AO RX1 U ∧ va_AO RX2 U
theorem ct_FW_warm {s U : State} (hW : s.WarmedH U.vm) (h : ct_FW s) : ct_FW U := ⟨va_Nw.warmM hW h.1, va_Nw.warmM hW h.2.1, va_Nw.warmM hW h.2.2.1, va_Nw.warmM hW h.2.2.2.1, va_AO.moved hW.alike h.2.2.2.2.1, va_AO.moved hW.alike h.2.2.2.2.2.1, va_AO.moved hW.alike h.2.2.2.2.2.2⟩
theorem ct_rng {α : Type} (wr : List α) (c : α) : (List.range wr.length).map (fun i => (wr ++ [c])[i]?) = wr.map some := by
  apply List.ext_getElem?
  intro i
  rw [List.getElem?_map, List.getElem?_map]
  by_cases h : i < wr.length
  · rw [List.getElem?_range h]
    show some ((wr ++ [c])[i]?) = _
    rw [List.getElem?_append_left h, List.getElem?_eq_getElem h]
    rfl
  · rw [List.getElem?_eq_none (by simpa using h), List.getElem?_eq_none (by omega)]
    rfl
theorem ct_nd : ∀ (l : List Nat), l.Nodup → va_nd l = true
  | [], _ => rfl
  | a :: l, h => by
    have h2 := List.nodup_cons.mp h
    simp only [va_nd, Bool.and_eq_true, decide_eq_true_eq]
    exact ⟨h2.1, ct_nd l h2.2⟩
theorem ct_join {A0 : Nat → Prop} {D : va_G} {cl : List vw_C} {wr w1 : va_W} {c : Nat × va_E} {H H1 : Heap} (hP : va_P D cl (wr ++ [c]) H) (hD : va_D A0 (wr ++ [c])) (hk : ∀ q : Nat, q < H.size → ¬ va_A [c] H.size q → H1[q]? = H[q]?) (hF : ∀ q, va_A [c] H.size q → A0 q) (hP1 : va_P D cl w1 H1) (hD1 : va_D (va_A [c] H.size) w1) : va_P D cl (wr ++ w1) H1 ∧ va_D A0 (wr ++ w1) :=
  va_join (ws := wr ++ [c]) (wc := [c]) hP hD [wr.length] (List.range wr.length) (by simp) (ct_rng wr c) (ct_nd _ List.nodup_range) (fun i hi hi2 => by
    have h1 := List.mem_range.mp hi
    have h2 := List.mem_singleton.mp hi2
    omega) hk hF hP1 hD1
theorem ct_ra {U : State} {a b : ClassId} {ty : FieldType} (h1 : va_RA U a ty) (h2 : va_RA U b ty) : a = b := by
  cases ty with
  | object C =>
    obtain ⟨_, _, _, _, _, h1⟩ := h1
    obtain ⟨_, _, _, _, _, h2⟩ := h2
    exact Option.some.inj (h1.symm.trans h2)
  | _ => exact Option.some.inj (Eq.trans (Eq.symm h1) h2)
abbrev ct_Pc (D : va_G) (tys : List (ClassId × FieldType)) (h0 sz : Nat) (c0 : va_E) : Array Value → State → Prop := va_Pc [.ref h0] (fun U => U.heap.size = sz ∧ va_P D vwCl [(h0, c0)] U.heap ∧ va_K D vwCl tys U ∧ ct_FW U ∧ va_D (fun _ => True) [(h0, c0)])
abbrev ct_Q {S : Type} (D : va_G) (h0 sz : Nat) (c0 : va_E) (Wf : S → va_W) : Array Value → State → Outcome → State → Prop := va_Qv (fun _ : S => True) (fun u t => va_P D vwCl (Wf u) t.heap ∧ va_D (va_A [(h0, c0)] sz) (Wf u)) (va_A [(h0, c0)] sz)
/-- a constructor's contract: this, with its defaults; then the cells of Wf -/
def ct_Mt {S : Type} (l : Launch) (D : va_G) (tys : List (ClassId × FieldType)) (y : MethodName) (cc : ByteArray) (maxL : Nat) (rm : Room) (mc ms : Nat) (c0 : va_E) (Wf : Nat → S → va_W) : Prop := ∀ h0 sz : Nat, Met l y (Cond.code y cc maxL none :: mb_GW) rm (ct_Pc D tys h0 sz c0) (ct_Q D h0 sz c0 (Wf h0)) mc ms (va_A [(h0, c0)] sz)
def ct_Cx (p : Program) (s : State) (m : MethodId) (args : Array Value) (c : Code) (cc : ByteArray) (nL : Nat) (own : String) (D : va_G) (tys : List (ClassId × FieldType)) : Prop :=
  p.tables.exec = Jvm.exec ∧ c.code = cc ∧ c.maxLocals = nL ∧ s.vm.findClass own = some m.cls ∧ (∀ w ∈ mb_GW, w.before args s = true) ∧ va_K D vwCl tys s ∧ ct_FW s
section CT
variable {p : Program} {l : Launch} {e : Env} {R : Room} {s : State} {m : MethodId} {args : Array Value} {below : List Frame} {meth : Method} {c : Code} {H : Heap} {locs : List Loc} {cells slots : Nat} {Q : State → Prop} {ls : Array Slot} {rest : List Value}
variable {own : String} {cc : ByteArray} {nL pc : Nat} {A : Nat → Prop} {D : va_G} {tys : List (ClassId × FieldType)} {ws : va_W} {H0 : Heap}
theorem ct_blind (h0 sz : Nat) (c0 : va_E) : FrameBlind (ct_Pc D tys h0 sz c0) := by
  intro a U g mk q
  obtain ⟨q0, q1, qP, qK, qF, qD⟩ := q
  exact ⟨q0, q1, qP, va_K.moved (u := U) (U := U.calling g mk a) (Vm.Alike.refl U.vm) qK, ct_FW_warm (s := U) (U := U.calling g mk a) (State.WarmedH.refl U) qF, qD⟩
abbrev ct_Cw (R : Room) (s : State) (args : Array Value) (own : String) (index : Nat) (y : MethodName) (bytes : ByteArray) (maxL : Nat) (rm : Room) (mc ms : Nat) : Prop :=
  (CallB R s args own index y bytes maxL none (Cond.code y bytes maxL none :: mb_GW) rm mc ms 0 ∨ ∃ host : String, va_CN R s args own index y host bytes maxL none (Cond.code y bytes maxL none :: mb_GW) rm mc ms 0) ∧ y.name = "<init>" ∧ (Cond.instanceMethod y).before args s = true
theorem ct_cwI {R : Room} {index mc ms maxL : Nat} {y : MethodName} {bytes : ByteArray} {rm : Room} (B : ct_Cx p s m args c cc nL own D tys) (h1 : Cond.methodLink own index y ∈ mb_GW) (h2 : Cond.instanceMethod y ∈ mb_GW) (h3 : Cond.code y bytes maxL none ∈ mb_GW) (h4 : Cond.initialized y.cls ∈ mb_GW) (hrc : rm.cells = mc) (hrs : rm.slots = ms)
    (hy : y.name = "<init>") (hd : y.cls ≠ "java/lang/invoke/MethodHandle" ∧ y.cls ≠ "java/lang/invoke/VarHandle" ∧ (parseMethodDescriptor y.desc).map (fun d => d.parameters.length) = some 0) (hR : rm.frames + 1 ≤ R.frames ∧ 8 + (maxL + 11) + rm.locals ≤ R.locals) : ct_Cw R s args own index y bytes maxL rm mc ms := by
  have hG : GoodIn mb_GW (Cond.code y bytes maxL none :: mb_GW) := mb_good (fun w hw => by
    rcases List.mem_cons.mp hw with rfl | h
    · exact h3
    · exact h)
  have hts := B.2.2.2.2.1
  have q := cwI (R := R) (own := own) (index := index) 0 hts hG rfl hrc hrs (hts _ h4) (hts _ h1) (hts _ h2) hy hd hR
  exact ⟨Or.inl q.1, q.2⟩
theorem ct_cwN {R : Room} {index mc ms maxL : Nat} {y : MethodName} {bytes : ByteArray} {rm : Room} {host : String} (B : ct_Cx p s m args c cc nL own D tys) (h1 : va_Nw (Cond.methodLinkNest own index y host) s) (h2 : Cond.instanceMethod y ∈ mb_GW) (h3 : Cond.code y bytes maxL none ∈ mb_GW) (h4 : Cond.initialized y.cls ∈ mb_GW) (hrc : rm.cells = mc) (hrs : rm.slots = ms)
    (hy : y.name = "<init>") (hd : y.cls ≠ "java/lang/invoke/MethodHandle" ∧ y.cls ≠ "java/lang/invoke/VarHandle" ∧ (parseMethodDescriptor y.desc).map (fun d => d.parameters.length) = some 0) (hR : rm.frames + 1 ≤ R.frames ∧ 8 + (maxL + 11) + rm.locals ≤ R.locals) : ct_Cw R s args own index y bytes maxL rm mc ms := by
  have hG : GoodIn mb_GW (Cond.code y bytes maxL none :: mb_GW) := mb_good (fun w hw => by
    rcases List.mem_cons.mp hw with rfl | h
    · exact h3
    · exact h)
  have hts := B.2.2.2.2.1
  have q := va_cnB (R := R) (own := own) (index := index) (host := host) 0 hts hG rfl hrc hrs h1 (hts _ h4) hd hR
  exact ⟨Or.inr ⟨host, q⟩, hy, hts _ h2⟩
/-- new, dup, <init>: the world has the new object's cells behind -/
theorem ct_make {S : Type} {Wf : Nat → S → va_W} {y : MethodName} {cc2 : ByteArray} {maxL2 mc ms ci N idx idx2 p1 p2 pn : Nat} {rm : Room} {C : String} {T : u_T} {fs : List Value}
    (B : ct_Cx p s m args c cc nL own D tys) (hM : ct_Mt l D tys y cc2 maxL2 rm mc ms (.inr (ci, fs)) Wf) (hcw : ct_Cw R s args own idx2 y cc2 maxL2 rm mc ms)
    (hinC : ∀ w ∈ u_ws C T N, w ∈ mb_GW) (ty : Nat → FieldType) (hty : ∀ k, k < N → parseFieldDescriptor (T k).2.2.1 = some (ty k)) (hcl : Cond.classLink own idx C ∈ mb_GW) (hinst : Cond.instantiable C N ∈ mb_GW) (hini : Cond.initialized C ∈ mb_GW)
    (hc : vwCl[ci]? = some (C, T, N)) (hfs : ∀ j, j < N → defaultValue (ty j) = vp_V fs j)
    (hP : va_P D vwCl ws H) (hD : va_D A ws) (hS : va_S A H0 H locs) (hA : ∀ q, H0.size ≤ q → A q) (hsize : ls.size = nL) (hw : (rest.map fun v => v.category).sum ≤ 7)
    (hcells : cells + 1 + mc ≤ R.cells) (hslots : slots + N + ms ≤ R.slots) (d0 : decode cc pc = .ok (.new idx, 3)) (e1 : pc + 3 = p1) (d1 : decode cc p1 = .ok (.dup, 1)) (e2 : p1 + 1 = p2) (d2 : decode cc p2 = .ok (.invokespecial idx2, 3)) (e3 : p2 + 3 = pn)
    (kk : ∀ (q : Nat) (u : S) (H1 : Heap) (locs1 : List Loc), va_P D vwCl (ws ++ Wf q u) H1 → va_D A (ws ++ Wf q u) → va_S A H0 H1 locs1 →
      W p l e R s m args below meth c H1 locs1 (cells + 1 + mc) (slots + N + ms) Q (F0 m pn ls (.ref q :: rest))) : W p l e R s m args below meth c H locs cells slots Q (F0 m pc ls rest) := by
  subst e1; subst e2; subst e3
  have hts := B.2.2.2.2.1
  refine va_new (ci := ci) (fs := fs) (C := C) (T := T) (N := N) B.1 B.2.1 hts hinC ty hty B.2.2.2.1 (hts _ hcl) (hts _ hinst) (hts _ hini) B.2.2.2.2.2.1 hP hD hS hA hc hfs (by omega) (by omega) d0 (fun q H1 hP1 hD1 hS1 => ?_)
  refine lv_dup B.1 B.2.1 d1 rfl ?_
  have hPc : va_P D vwCl [(q, .inr (ci, fs))] H1 := hP1.sub [ws.length] (by simp)
  have hDc : va_D A [(q, .inr (ci, fs))] := hD1.sub [ws.length] rfl (by simp)
  have hFc := va_free (wc := [(q, .inr (ci, fs))]) hD1 hS1 hA [ws.length] (by simp)
  have hpre : PreS s H1 (ct_Pc D tys q H1.size (.inr (ci, fs))) (.ref q :: []) := ⟨ct_blind q H1.size _, fun U hU hW => ⟨rfl, by rw [hU], by rw [hU]; exact hPc, va_K.moved hW.alike B.2.2.2.2.2.1, ct_FW_warm hW B.2.2.2.2.2.2, hDc.weaken (fun _ _ _ _ => trivial)⟩⟩
  have hroom : 2 * (F0 m (pc + 3 + 1) ls (.ref q :: .ref q :: rest)).monitorRoom + ((Value.ref q :: rest).map fun v => v.category).sum ≤ 8 := lv_room (by
    rw [List.map_cons, List.sum_cons]
    show 1 + _ ≤ 8
    omega)
  have hr : va_Run p l e R s m args below meth c H1 locs (cells + 1) (slots + N) mc ms (F0 m (pc + 3 + 1) ls (.ref q :: .ref q :: rest)) (.ref q :: rest) (ct_Q D q H1.size (.inr (ci, fs)) (Wf q) #[.ref q]) (va_A [(q, .inr (ci, fs))] H1.size) := by
    rcases hcw with ⟨hcw | ⟨host, hcw⟩, hy, hin⟩
    · exact va_runI (As := []) (rest := .ref q :: rest) ⟨B.1, B.2.1, B.2.2.1, B.2.2.2.1, hts⟩ (hM q H1.size) ⟨hcw, hy, hin⟩ hpre rfl rfl hsize rfl hroom d2 ⟨hcells, hslots⟩
    · exact va_runIN (As := []) (rest := .ref q :: rest) ⟨B.1, B.2.1, B.2.2.1, B.2.2.2.1, hts⟩ (hM q H1.size) ⟨hcw, hy, hin⟩ hpre rfl rfl hsize rfl hroom d2 ⟨hcells, hslots⟩
  refine va_callv hr hS1 (fun q _ h => hFc q h) hFc (fun u t H2 locs2 ht hvm _ hB hz1 hk1 hS2 => ?_)
  obtain ⟨hP2, hD2⟩ := hB
  rw [ht] at hP2
  obtain ⟨hP3, hD3⟩ := ct_join hP1 hD1 hk1 hFc hP2 hD2
  exact kk q u H2 locs2 hP3 hD3 hS2
theorem ct_newa {atype : ArrayType} {ty : FieldType} {cA : ClassId} (B : ct_Cx p s m args c cc nL own D tys) (harr : Cond.arrayClass ty ∈ mb_GW) (hty : newarray.typeOf atype = ty) (k : Nat) (ht : tys[k]? = some (cA, ty)) (hP : va_P D vwCl ws H) (hD : va_D A ws) (hS : va_S A H0 H locs) (hA : ∀ q, H0.size ≤ q → A q)
    {n : Int32} {N' pn : Nat} {a0 : vp_A} (ha : ∀ cA : ClassId, vp_cell cA a0 = arrV cA N' (fun _ => defaultValue ty)) (hn : ¬ n < 0) (hN : n.toNatClampNeg = N') (hbytes : N' * componentBytes ty ≤ 536870912) (hcells : cells + 1 ≤ R.cells) (hslots : slots + N' ≤ R.slots) (hdg : decode cc pc = .ok (.newarray atype, 2)) (e1 : pc + 2 = pn)
    (kk : ∀ (q : Nat) (H1 : Heap), va_P D vwCl (ws ++ [(q, .inl (cA, a0))]) H1 → va_D A (ws ++ [(q, .inl (cA, a0))]) → va_S A H0 H1 locs →
      W p l e R s m args below meth c H1 locs (cells + 1) (slots + N') Q (F0 m pn ls (.ref q :: rest))) : W p l e R s m args below meth c H locs cells slots Q (F0 m pc ls (.int n :: rest)) := by
  subst e1
  have hK := B.2.2.2.2.2.1
  refine va_newa B.1 B.2.1 (by rw [hty]; exact B.2.2.2.2.1 _ harr) hty hK hP hD hS hA ha hn hN hbytes hcells hslots hdg (fun q c9 H1 hK1 hP1 hD1 hS1 => ?_)
  have e : c9 = cA := ct_ra (hK1.2 tys.length (c9, ty) (by simp)).2 (hK.2 k _ ht).2
  subst e
  exact kk q H1 hP1 hD1 hS1
theorem ct_newq {C : String} {index : Nat} {cA : ClassId} (B : ct_Cx p s m args c cc nL own D tys) (hcl : Cond.classLink own index C ∈ mb_GW) (hov : va_AO C s) (k : Nat) (ht : tys[k]? = some (cA, .object C)) (hP : va_P D vwCl ws H) (hD : va_D A ws) (hS : va_S A H0 H locs) (hA : ∀ q, H0.size ≤ q → A q)
    {n : Int32} {N' pn : Nat} (hn : ¬ n < 0) (hN : n.toNatClampNeg = N') (hbytes : N' * 4 ≤ 536870912) (hcells : cells + 1 ≤ R.cells) (hslots : slots + N' ≤ R.slots) (hdg : decode cc pc = .ok (.anewarray index, 3)) (e1 : pc + 3 = pn)
    (kk : ∀ (q : Nat) (H1 : Heap), va_P D vwCl (ws ++ [(q, .inl (cA, N', .inr (.inr (.inr (.inr (fun _ => none))))))]) H1 → va_D A (ws ++ [(q, .inl (cA, N', .inr (.inr (.inr (.inr (fun _ => none))))))]) → va_S A H0 H1 locs →
      W p l e R s m args below meth c H1 locs (cells + 1) (slots + N') Q (F0 m pn ls (.ref q :: rest))) : W p l e R s m args below meth c H locs cells slots Q (F0 m pc ls (.int n :: rest)) := by
  subst e1
  have hK := B.2.2.2.2.2.1
  refine va_newq B.1 B.2.1 B.2.2.2.1 (B.2.2.2.2.1 _ hcl) hov hK hP hD hS hA hn hN hbytes hcells hslots hdg (fun q c9 H1 hK1 hP1 hD1 hS1 => ?_)
  have e : c9 = cA := ct_ra (hK1.2 tys.length (c9, .object C) (by simp)).2 (hK.2 k _ ht).2
  subst e
  exact kk q H1 hP1 hD1 hS1
theorem ct_put {C : String} {T : u_T} {N ci index a pn : Nat} (B : ct_Cx p s m args c cc nL own D tys) (hin2 : meth.name = "<init>") (hinC : ∀ w ∈ u_ws C T N, w ∈ mb_GW) (ty0 : Nat → FieldType) (hty : ∀ k, k < N → parseFieldDescriptor (T k).2.2.1 = some (ty0 k)) (hnm : ∀ a, a < N → ∀ b, b < N → a ≠ b → (T a).2.1 ≠ (T b).2.1)
    (hc : vwCl[ci]? = some (C, T, N)) (k : Nat) (hk : k < N) (hlink : Cond.fieldLink own index (T k).1 (T k).2.1 (T k).2.2.1 ∈ mb_GW) (hdecl : (T k).1 = own) {v : Value} (hn : narrow (ty0 k) v = v) (hfit : fits (ty0 k) v = true) (hdg : decode cc pc = .ok (.putfield index, 3)) (e1 : pc + 3 = pn)
    (hP : va_P D vwCl ws H) (hD : va_D A ws) (hS : va_S A H0 H locs) (q0 : Nat) {fs : List Value} (he : ws[q0]? = some (a, .inr (ci, fs))) (hl : k < fs.length)
    (kk : ∀ (H1 : Heap) (locs1 : List Loc), va_P D vwCl (ws.set q0 (a, .inr (ci, fs.set k v))) H1 → va_D A (ws.set q0 (a, .inr (ci, fs.set k v))) → va_S A H0 H1 locs1 → W p l e R s m args below meth c H1 locs1 cells slots Q (F0 m pn ls rest)) : W p l e R s m args below meth c H locs cells slots Q (F0 m pc ls (v :: .ref a :: rest)) := by
  subst e1
  have hts := B.2.2.2.2.1
  by_cases hf : (T k).2.2.2 = true
  · exact va_putF B.1 B.2.1 hts hinC ty0 hty hnm B.2.2.2.1 B.2.2.2.2.2.1 hP hD hS q0 he hc k hk (hts _ hlink) (fun _ h9 => h9) hf hin2 hdecl (hty k hk) hn hfit hl hdg kk
  · exact va_put B.1 B.2.1 hts hinC ty0 hty hnm B.2.2.2.1 B.2.2.2.2.2.1 hP hD hS q0 he hc k hk (hts _ hlink) (fun _ h9 => h9) (by simpa using hf) (hty k hk) hn hfit hl hdg kk
/-- a constructor's start: behind Object's -/
theorem ct_of {S : Type} {Wf : Nat → S → va_W} {y : MethodName} {maxL mc ms idx : Nat} {rm : Room} {c0 : va_E} (hy : plainName y.cls = true) (ho : y.cls = own) (hyn : y.name = "<init>") (h1 : Cond.methodLink own idx objectInit ∈ mb_GW) (hm : 1 ≤ maxL) (d0 : decode cc 0 = .ok (.aload_n 0, 1)) (d1 : decode cc 1 = .ok (.invokespecial idx, 3)) (hfr : 1 ≤ rm.frames) (hlo : 12 ≤ rm.locals)
    (k : ∀ (p : Program) (e : Env) (R : Room) (s : State) (m : MethodId) (args : Array Value) (below : List Frame) (meth : Method) (c : Code) (h0 : Nat) (ls : Array Slot) (A : Nat → Prop), R = rm → ct_Cx p s m args c cc maxL own D tys → meth.name = "<init>" → meth.sig.returnType = none → meth.locks = false → va_P D vwCl [(h0, c0)] s.heap → va_D A [(h0, c0)] → va_S A s.heap s.heap [] → (∀ q : Nat, s.heap.size ≤ q → A q) → A = va_A [(h0, c0)] s.heap.size → lv_has ls maxL [(0, .ref h0)] →
      W p l e R s m args below meth c s.heap [] 0 0 (MQ below (va_Qv (fun _ : S => True) (fun u t => va_P D vwCl (Wf h0 u) t.heap ∧ va_D A (Wf h0 u)) A) args s mc ms A) (F0 m 4 ls [])) : ct_Mt l D tys y cc maxL rm mc ms c0 Wf := by
  intro h0 sz
  refine Met.ofW (cc := cc) (maxL := maxL) (ret := none) hy rfl ?_
  intro p e s m args below meth c s₁ B hml hv
  obtain ⟨rfl, hsz, hP, hK, hF, hD0⟩ := hv
  have hx := B.exec
  have hb := B.bytes
  have hr := B.returns
  have hts := atoms_spec (ws := Cond.code y cc maxL none :: mb_GW) B.pre
  have hown : s.vm.findClass own = some m.cls := by rw [← ho]; exact findClass_of_methodNamed B.named
  have hlocks := B.notSynchronized
  have hin : meth.name = "<init>" := (name_of_methodNamed B.named B.method).1.trans hyn
  subst hsz
  have hD := hD0.self (sz := s.heap.size)
  have hts2 : ∀ w ∈ mb_GW, w.before ([.ref h0] : List Value).toArray s = true := fun w hw => hts w (List.mem_cons_of_mem _ hw)
  have hl := lv_entry ([.ref h0]) (n := maxL) hm
  rw [lg_entry_eq]
  generalize (lg_sl ([.ref h0]) ++ List.replicate (maxL - (lg_sl ([.ref h0])).length) Slot.unset).toArray = ls at hl ⊢
  have hl : lv_has ls maxL [(0, .ref h0)] := hl
  refine lv_aload_n hx hb d0 rfl (lv_at hl 0 rfl) ?_
  refine W.objInit hx hb hown (hts2 (.methodLink own idx objectInit) h1) (hts2 (.instanceMethod objectInit) (mb_tb 21 (by decide +kernel) (by decide +kernel))) (hts2 _ (mb_tb 22 (by decide +kernel) (by decide +kernel))) rfl (by rw [hml]; exact hl.1) rfl d1 hfr hlo ?_
  exact k p e rm s m _ below meth c h0 ls _ rfl ⟨hx, hb, hml, hown, hts2, hK, hF⟩ hin hr hlocks hP hD va_S.rf (fun q h => Or.inr h) rfl hl
/-- the end: the cells of u -/
theorem ct_ret {S : Type} {Wf : S → va_W} {mc ms : Nat} {A : Nat → Prop} (u : S) (B : ct_Cx p s m args c cc nL own D tys) (hr : meth.sig.returnType = none) (hlocks : meth.locks = false) (hP : va_P D vwCl (Wf u) H) (hD : va_D A (Wf u)) (hS : va_S A s.heap H locs) (hdg : decode cc pc = .ok (.return_, 1)) (hc : cells ≤ mc) (hs : slots ≤ ms) :
    W p l e R s m args below meth c H locs cells slots (MQ below (va_Qv (fun _ : S => True) (fun u t => va_P D vwCl (Wf u) t.heap ∧ va_D A (Wf u)) A) args s mc ms A) (F0 m pc ls []) := by
  refine W.widen (k := mc) (n := ms) hc hs ?_
  exact W.vret B.1 B.2.1 hr (fun t ht hW => ⟨⟨u, rfl, trivial, by rw [ht]; exact hP, hD⟩, hS.F ht⟩) hS.2.2 hdg hlocks
end CT
