theorem mb_out0_32 {x : Int32} (q0 : x ≠ 0) (q1 : x ≠ 1) (q2 : x ≠ 2) (q3 : x ≠ 3) (q4 : x ≠ 4) (q5 : x ≠ 5) (q6 : x ≠ 6) (q7 : x ≠ 7) (q8 : x ≠ 8) (q9 : x ≠ 9) (q10 : x ≠ 10) (q11 : x ≠ 11) (q12 : x ≠ 12) (q13 : x ≠ 13) (q14 : x ≠ 14) (q15 : x ≠ 15) (q16 : x ≠ 16) (q17 : x ≠ 17) (q18 : x ≠ 18) (q19 : x ≠ 19) (q20 : x ≠ 20) (q21 : x ≠ 21) (q22 : x ≠ 22) (q23 : x ≠ 23) (q24 : x ≠ 24) (q25 : x ≠ 25) (q26 : x ≠ 26) (q27 : x ≠ 27) (q28 : x ≠ 28) (q29 : x ≠ 29) (q30 : x ≠ 30) (q31 : x ≠ 31) (q32 : x ≠ 32) : x.toInt < 0 ∨ 32 < x.toInt := by
  rcases Int.lt_or_le x.toInt 0 with z | z
  · exact Or.inl z
  · rcases Int.lt_or_le 32 x.toInt with z2 | z2
    · exact Or.inr z2
    · exfalso
      have e : x.toInt = 0 ∨ x.toInt = 1 ∨ x.toInt = 2 ∨ x.toInt = 3 ∨ x.toInt = 4 ∨ x.toInt = 5 ∨ x.toInt = 6 ∨ x.toInt = 7 ∨ x.toInt = 8 ∨ x.toInt = 9 ∨ x.toInt = 10 ∨ x.toInt = 11 ∨ x.toInt = 12 ∨ x.toInt = 13 ∨ x.toInt = 14 ∨ x.toInt = 15 ∨ x.toInt = 16 ∨ x.toInt = 17 ∨ x.toInt = 18 ∨ x.toInt = 19 ∨ x.toInt = 20 ∨ x.toInt = 21 ∨ x.toInt = 22 ∨ x.toInt = 23 ∨ x.toInt = 24 ∨ x.toInt = 25 ∨ x.toInt = 26 ∨ x.toInt = 27 ∨ x.toInt = 28 ∨ x.toInt = 29 ∨ x.toInt = 30 ∨ x.toInt = 31 ∨ x.toInt = 32 := by omega
      rcases e with e | e | e | e | e | e | e | e | e | e | e | e | e | e | e | e | e | e | e | e | e | e | e | e | e | e | e | e | e | e | e | e | e
      · exact q0 (Int32.toInt_inj.mp (e.trans (by decide)))
      · exact q1 (Int32.toInt_inj.mp (e.trans (by decide)))
      · exact q2 (Int32.toInt_inj.mp (e.trans (by decide)))
      · exact q3 (Int32.toInt_inj.mp (e.trans (by decide)))
      · exact q4 (Int32.toInt_inj.mp (e.trans (by decide)))
      · exact q5 (Int32.toInt_inj.mp (e.trans (by decide)))
      · exact q6 (Int32.toInt_inj.mp (e.trans (by decide)))
      · exact q7 (Int32.toInt_inj.mp (e.trans (by decide)))
      · exact q8 (Int32.toInt_inj.mp (e.trans (by decide)))
      · exact q9 (Int32.toInt_inj.mp (e.trans (by decide)))
      · exact q10 (Int32.toInt_inj.mp (e.trans (by decide)))
      · exact q11 (Int32.toInt_inj.mp (e.trans (by decide)))
      · exact q12 (Int32.toInt_inj.mp (e.trans (by decide)))
      · exact q13 (Int32.toInt_inj.mp (e.trans (by decide)))
      · exact q14 (Int32.toInt_inj.mp (e.trans (by decide)))
      · exact q15 (Int32.toInt_inj.mp (e.trans (by decide)))
      · exact q16 (Int32.toInt_inj.mp (e.trans (by decide)))
      · exact q17 (Int32.toInt_inj.mp (e.trans (by decide)))
      · exact q18 (Int32.toInt_inj.mp (e.trans (by decide)))
      · exact q19 (Int32.toInt_inj.mp (e.trans (by decide)))
      · exact q20 (Int32.toInt_inj.mp (e.trans (by decide)))
      · exact q21 (Int32.toInt_inj.mp (e.trans (by decide)))
      · exact q22 (Int32.toInt_inj.mp (e.trans (by decide)))
      · exact q23 (Int32.toInt_inj.mp (e.trans (by decide)))
      · exact q24 (Int32.toInt_inj.mp (e.trans (by decide)))
      · exact q25 (Int32.toInt_inj.mp (e.trans (by decide)))
      · exact q26 (Int32.toInt_inj.mp (e.trans (by decide)))
      · exact q27 (Int32.toInt_inj.mp (e.trans (by decide)))
      · exact q28 (Int32.toInt_inj.mp (e.trans (by decide)))
      · exact q29 (Int32.toInt_inj.mp (e.trans (by decide)))
      · exact q30 (Int32.toInt_inj.mp (e.trans (by decide)))
      · exact q31 (Int32.toInt_inj.mp (e.trans (by decide)))
      · exact q32 (Int32.toInt_inj.mp (e.trans (by decide)))
/-! THE CLAIM OUT OF ONE WALK OF THE LAW'S BODY. Your part is whole_start (and what it stands on); all else here is the same for every law, but numbers. -/
def R_law : String := "MarinaBerthsLaw"
def lw_P (b : Addr) (xs : List Int32) (args : Array Value) (s : State) : Prop := args = #[.ref b] ∧ s.IntsAt b xs ∧ xs.length ≤ 2560 ∧ (Jvm.Cond.and given_1 narrow_1).before args s = true
def lw_Q (_ : Array Value) (s : State) (o : Outcome) (t : State) : Prop := o = .returned (some (.int 1)) ∧ Framed s o t [] 601024 7293034
def lw_Z (below : List Frame) (a : Array Value) (s : State) : State → Prop := fun t => ∃ o, t.status = .running ∧ Ended t below o ∧ lw_Q a s o t
/-- the law's own end, with 1 on the stack, nothing written that was there before, its room as the claim has it -/
theorem lw_ret {p : Program} {l : Launch} {e : Env} {s : State} {m : MethodId} {below : List Frame} {meth : Method} {c : Code} {b : Nat} (hx : p.tables.exec = Jvm.exec) (hb : c.code = code) (hr : meth.sig.returnType = ret) (hlocks : meth.locks = false) {pc : Nat} {H : Heap} {ls : Array Slot} (hdg : decode code pc = .ok (.ireturn, 1)) : W p l e room_1 s m #[Value.ref b] below meth c H [] 601024 7293034 (lw_Z below #[Value.ref b] s) (F0 m pc ls [.int 1]) := by
  intro T hT X
  obtain ⟨fs, hret, hrun, hended, hW, hframe⟩ := X.leave (v := some (.int 1)) (hlocks := hlocks) (fun h => by rw [hr] at h; cases h)
  have hmeth' : T.vm.method? m = some meth := X.method'
  refine ⟨T.setFrames fs, ?_, .returned (some (.int 1)), hrun, hended, rfl, ⟨_, rfl⟩, hW, hframe⟩
  jvm_step X.here [X.here.top, hx, hb, hdg, hmeth', hr, ret, narrow_b1]
  (try refine ⟨rfl, ?_⟩); (try refine ⟨rfl, ?_⟩)
  first | (intro acts; rw [hret _ acts rfl rfl rfl]) | rw [hret _ _ rfl rfl rfl]
  exact Steps.refl _
/-- what holds at the law's entry: the machine, the code, the tables' words (any of lw_tbl by 'hts w (by decide +kernel)'), the script of L ints xs at the cell b, what the Statement gives of the start (any of its parts by flat_of_before) -/
def lw_At (p : Program) (s : State) (m : MethodId) (meth : Method) (c : Code) (b L : Nat) (xs : Nat → Int32) : Prop :=
  p.tables.exec = Jvm.exec ∧ c.code = code ∧ meth.sig.returnType = ret ∧ c.maxLocals = 7 ∧ s.vm.findClass R_law = some m.cls ∧ (∀ w ∈ lw_tbl, w.before #[Value.ref b] s = true) ∧ va_X b L xs s s.heap ∧ b < s.heap.size ∧ meth.locks = false ∧ (Jvm.Cond.and given_1 narrow_1).before #[Value.ref b] s = true
/-- every call answers alike and keeps S; n calls have been made -/
def mb_Step (S : Nat → mb_AH → Prop) : Prop := ∀ (n : Nat) (h : mb_AH) (x1 x2 x3 x4 : Int32), n < 512 → S n h →
  S (n + 1) h ∧
  mb_PI ["java/lang/IllegalArgumentException"] (F_X5_setTable h) (F_X6_setTable ) (S (n + 1)) ∧
  mb_PI ["java/lang/IllegalArgumentException"] (F_X5_low x1 h) (F_X6_low x1) (S (n + 1)) ∧
  mb_PI ["java/lang/IllegalArgumentException", "java/lang/IllegalStateException"] (F_X5_addBerth x1 x2 0 x4 h) (F_X6_addBerth x1 x2 0 x4) (S (n + 1)) ∧
  mb_PI ["java/lang/IllegalArgumentException", "java/lang/IllegalStateException"] (F_X5_addBerth x1 x2 1 x4 h) (F_X6_addBerth x1 x2 1 x4) (S (n + 1)) ∧
  mb_PI ["java/lang/IllegalArgumentException", "java/lang/IllegalStateException"] (F_X5_addBoat x1 x2 x3 h) (F_X6_addBoat x1 x2 x3) (S (n + 1)) ∧
  mb_PI ["java/lang/IllegalArgumentException"] (F_X5_set x1 x2 h) (F_X6_set x1 x2) (S (n + 1)) ∧
  mb_PI ["java/lang/IndexOutOfBoundsException", "java/lang/IllegalArgumentException"] (F_X5_setRate x1 x2 h) (F_X6_setRate x1 x2) (S (n + 1)) ∧
  mb_PI ["java/lang/IndexOutOfBoundsException", "java/lang/IllegalArgumentException"] (F_X5_berth x1 x2 h) (F_X6_berth x1 x2) (S (n + 1)) ∧
  mb_PI ["java/lang/IndexOutOfBoundsException", "java/lang/IllegalArgumentException"] (F_X5_boat x1 x2 h) (F_X6_boat x1 x2) (S (n + 1)) ∧
  mb_PZ ["java/lang/IndexOutOfBoundsException"] (F_X5_fits x1 x2 h) (F_X6_fits x1 x2) (S (n + 1)) ∧
  mb_PI ["java/lang/IllegalArgumentException"] (F_X5_info x1 h) (F_X6_info x1) (S (n + 1)) ∧
  mb_PI ["java/lang/IndexOutOfBoundsException", "java/lang/IllegalStateException"] (F_X5_place x1 x2 h) (F_X6_place x1 x2) (S (n + 1)) ∧
  mb_PI ["java/lang/IndexOutOfBoundsException", "java/lang/IllegalStateException"] (F_X5_leave x1 h) (F_X6_leave x1) (S (n + 1)) ∧
  mb_PI ["java/lang/IndexOutOfBoundsException", "java/lang/IllegalArgumentException", "java/lang/IllegalStateException"] (F_X5_change x1 x2 h) (F_X6_change x1 x2) (S (n + 1)) ∧
  mb_PI ["java/lang/IndexOutOfBoundsException", "java/lang/IllegalStateException"] (F_X5_await x1 h) (F_X6_await x1) (S (n + 1)) ∧
  mb_PI ["java/lang/IndexOutOfBoundsException", "java/lang/IllegalStateException"] (F_X5_offer x1 h) (F_X6_offer x1) (S (n + 1)) ∧
  mb_PP (F_X5_waiting x1 h) (F_X6_waiting x1) (S (n + 1)) ∧
  mb_PI ["java/lang/IndexOutOfBoundsException"] (F_X5_bestBerth x1 h) (F_X6_bestBerth x1) (S (n + 1)) ∧
  mb_PI ["java/lang/IllegalArgumentException", "java/lang/IllegalStateException"] (F_X5_pass x1 h) (F_X6_pass x1) (S (n + 1)) ∧
  mb_PI ["java/lang/IndexOutOfBoundsException", "java/lang/IllegalArgumentException"] (F_X5_pay x1 x2 h) (F_X6_pay x1 x2) (S (n + 1)) ∧
  mb_PI ["java/lang/IndexOutOfBoundsException", "java/lang/IllegalArgumentException", "java/lang/IllegalStateException"] (F_X5_charge x1 x2 h) (F_X6_charge x1 x2) (S (n + 1)) ∧
  mb_PL (F_X5_owed  h) (F_X6_owed) (S (n + 1)) ∧
  mb_PL (F_X5_paid  h) (F_X6_paid) (S (n + 1)) ∧
  mb_PI ["java/lang/IndexOutOfBoundsException", "java/lang/IllegalArgumentException"] (F_X5_owesAfter x1 x2 h) (F_X6_owesAfter x1 x2) (S (n + 1)) ∧
  mb_PI ["java/lang/IndexOutOfBoundsException"] (F_X5_groundsIn x1 h) (F_X6_groundsIn x1) (S (n + 1)) ∧
  mb_PI ["java/lang/IndexOutOfBoundsException", "java/lang/IllegalStateException"] (F_X5_winterBerth x1 h) (F_X6_winterBerth x1) (S (n + 1)) ∧
  mb_PI ["java/lang/IllegalStateException"] (F_X5_wouldGoAshore h) (F_X6_wouldGoAshore ) (S (n + 1)) ∧
  mb_PP (F_X5_greatestClearance  h) (F_X6_greatestClearance) (S (n + 1)) ∧
  mb_PI ["java/lang/IndexOutOfBoundsException"] (F_X5_missingDepth x1 x2 h) (F_X6_missingDepth x1 x2) (S (n + 1)) ∧
  mb_PI ["java/lang/IllegalArgumentException", "java/lang/IllegalStateException"] (F_X5_type x1 h) (F_X6_type x1) (S (n + 1)) ∧
  mb_PP (F_X5_clearText  h) (F_X6_clearText) (S (n + 1)) ∧
  mb_PP (F_X5_fault  h) (F_X6_fault) (S (n + 1)) ∧
  mb_PI ["java/lang/IllegalStateException"] (F_X5_undo h) (F_X6_undo ) (S (n + 1)) ∧
  mb_PL (F_X5_checksum  h) (F_X6_checksum) (S (n + 1))
theorem mb_i5 {n k : Nat} (L : Nat) (hk : k < 5) (h : 5 * n + 5 ≤ L) (hL : L ≤ 2560) : nI (5 * n) + nI k = nI (5 * n + k) ∧ vp_in (nI (5 * n + k)) L := ⟨nI_add _ _, vp_in_nI (by omega) (by omega)⟩
set_option maxRecDepth 100000 in
set_option maxHeartbeats 8000000 in
theorem law_loop {p : Program} {l : Launch} {e : Env} {s : State} {m : MethodId} {below : List Frame} {meth : Method} {c : Code} {b L : Nat} {xs : Nat → Int32} {G : mb_G} {S : Nat → mb_AH → Prop} (hstep : mb_Step S) (hst : l.stackTraces = false) (hL : L ≤ 2560) (B : mb_Lx p l s m #[Value.ref b] c G RL code 7 (mb_A9 s)) (hr : meth.sig.returnType = ret) (hlocks : meth.locks = false) (hX : va_X b L xs s s.heap) (hbl : b < s.heap.size) :
    ∀ (f n : Nat) (h : mb_AH) (H : Heap) (locs : List Loc) (ls : Array Slot) (cells slots : Nat), 512 < f + n → 5 * n ≤ L → S n h → va_S (mb_A9 s) s.heap H locs → mb_wd G h H → lv_has ls 7 [(4, .int (nI (5 * n))), (3, .ref (G.2.2 (30, 0, 0))), (2, .ref (G.2.2 (6, 0, 0))), (1, .ref (G.2.2 (0, 0, 0))), (0, .ref b)] → cells ≤ 300 + n → slots ≤ 80000 + 6 * n →
      W p l e room_1 s m #[Value.ref b] below meth c H locs cells slots (lw_Z below #[Value.ref b] s) (F0 m 23 ls []) := by
  intro f
  induction f with
  | zero => intro n h H locs ls cells slots hf h5; omega
  | succ f ih =>
    intro n h H locs ls cells slots hf h5 hSn hS hw hl hc hs
    refine lv_iload B.1 B.2.1 dL_law_23 (lv_at hl 0 rfl) ?_
    refine lv_aload_n B.1 B.2.1 dL_law_25 rfl (lv_at hl 4 rfl) ?_
    refine va_slen B.1 B.2.1 hX hbl (Nat.not_le.mpr hbl) hS dL_law_26 ?_
    refine lv_iconst (v := 5) B.1 B.2.1 dL_law_27 (by decide) ?_
    refine lv_isub B.1 B.2.1 dL_law_28 ?_
    have hcmp : (nI L - 5 : Int32) < nI (5 * n) ↔ L < 5 * n + 5 := by
      rw [Int32.lt_iff_toInt_lt, show (5 : Int32) = nI 5 from rfl, pk_sub_toInt (by omega) (by omega), nI_toInt (by omega)]
      omega
    refine lv_icmp_gt (tgt := 1931) B.1 B.2.1 dL_law_29 (by decide) (fun z9 => ?_) (fun z9 => ?_)
    · refine lv_iconst (v := 1) B.1 B.2.1 dL_law_1931 (by decide) ?_
      refine va_forget (fun q hq => hS.2.2 q hq) ?_
      refine W.widen (k := 601024) (n := 7293034) (by omega) (by omega) ?_
      exact lw_ret B.1 B.2.1 hr hlocks dL_law_1932
    · have h55 : 5 * n + 5 ≤ L := by
        have q8 : ¬ L < 5 * n + 5 := fun q => z9 (hcmp.mpr q)
        omega
      have hn : n < 512 := by omega
      have hi0 : vp_in (nI (5 * n)) L := vp_in_nI (by omega) (by omega)
      have hi1 : vp_in (nI (5 * n) + 1) L := by rw [show (1 : Int32) = nI 1 from rfl, (mb_i5 (k := 1) L (by omega) h55 hL).1]; exact (mb_i5 (k := 1) L (by omega) h55 hL).2
      have hi2 : vp_in (nI (5 * n) + 2) L := by rw [show (2 : Int32) = nI 2 from rfl, (mb_i5 (k := 2) L (by omega) h55 hL).1]; exact (mb_i5 (k := 2) L (by omega) h55 hL).2
      have hi3 : vp_in (nI (5 * n) + 3) L := by rw [show (3 : Int32) = nI 3 from rfl, (mb_i5 (k := 3) L (by omega) h55 hL).1]; exact (mb_i5 (k := 3) L (by omega) h55 hL).2
      have hi4 : vp_in (nI (5 * n) + 4) L := by rw [show (4 : Int32) = nI 4 from rfl, (mb_i5 (k := 4) L (by omega) h55 hL).1]; exact (mb_i5 (k := 4) L (by omega) h55 hL).2
      have kk : ∀ (h3 : mb_AH) (H3 : Heap) (locs3 : List Loc) (ls3 : Array Slot) (cells3 slots3 : Nat), S (n + 1) h3 → mb_wd G h3 H3 → va_S (mb_A9 s) s.heap H3 locs3 → lv_has ls3 7 [(4, .int (nI (5 * n))), (3, .ref (G.2.2 (30, 0, 0))), (2, .ref (G.2.2 (6, 0, 0))), (1, .ref (G.2.2 (0, 0, 0))), (0, .ref b)] → cells3 ≤ cells + 1 → slots3 ≤ slots + 6 → W p l e room_1 s m #[Value.ref b] below meth c H3 locs3 cells3 slots3 (lw_Z below #[Value.ref b] s) (F0 m 1925 ls3 []) := by
        intro h3 H3 locs3 ls3 cells3 slots3 eS hw3 hS3 hl3 hc3 hs3
        refine lv_iinc (v := nI (5 * (n + 1))) (lv' := [(4, .int (nI (5 * (n + 1)))), (3, .ref (G.2.2 (30, 0, 0))), (2, .ref (G.2.2 (6, 0, 0))), (1, .ref (G.2.2 (0, 0, 0))), (0, .ref b)]) B.1 B.2.1 dL_law_1925 hl3 (k := 0) rfl (by rw [show (Int32.ofInt 5) = nI 5 from rfl, nI_add]; exact congrArg nI (by omega)) (by decide) rfl (fun ls hl => ?_)
        refine lv_goto (tgt := 23) B.1 B.2.1 dL_law_1928 (by decide) ?_
        exact ih (n + 1) h3 H3 locs3 ls cells3 slots3 (by omega) (by omega) eS hS3 hw3 hl (by omega) (by omega)
      refine lv_aload_n B.1 B.2.1 dL_law_32 rfl (lv_at hl 4 rfl) ?_
      refine lv_iload B.1 B.2.1 dL_law_33 (lv_at hl 0 rfl) ?_
      refine va_sld B.1 B.2.1 hX hbl (Nat.not_le.mpr hbl) hS hi0 dL_law_35 ?_
      refine lv_bipush (v := 63) B.1 B.2.1 dL_law_36 (by decide) ?_
      refine lv_iand B.1 B.2.1 dL_law_38 ?_
      refine lv_topi (fun w hw9 => ?_)
      clear hw9
      by_cases q0 : w = 0
      · subst q0
        refine lv_tableIn (tgt := 184) (off := 145) B.1 B.2.1 dL_law_39 (by decide) (by decide) (by decide) (by decide) ?_
        exact lc_0 (S := S (n + 1)) hst B hX hbl hS hw hl (by omega) (by omega)  (hstep n h (xs (nI (5 * n) + 1).toNatClampNeg) (xs (nI (5 * n) + 2).toNatClampNeg) (xs (nI (5 * n) + 3).toNatClampNeg) (xs (nI (5 * n) + 4).toNatClampNeg) hn hSn).2.1 kk
      by_cases q1 : w = 1
      · subst q1
        refine lv_tableIn (tgt := 228) (off := 189) B.1 B.2.1 dL_law_39 (by decide) (by decide) (by decide) (by decide) ?_
        exact lc_1 (S := S (n + 1)) hst B hX hbl hS hw hl (by omega) (by omega) hi1 (hstep n h (xs (nI (5 * n) + 1).toNatClampNeg) (xs (nI (5 * n) + 2).toNatClampNeg) (xs (nI (5 * n) + 3).toNatClampNeg) (xs (nI (5 * n) + 4).toNatClampNeg) hn hSn).2.2.1 kk
      by_cases q2 : w = 2
      · subst q2
        refine lv_tableIn (tgt := 284) (off := 245) B.1 B.2.1 dL_law_39 (by decide) (by decide) (by decide) (by decide) ?_
        exact lc_2 (S := S (n + 1)) hst B hX hbl hS hw hl (by omega) (by omega) hi1 hi2 hi3 hi4 (fun _ => (hstep n h (xs (nI (5 * n) + 1).toNatClampNeg) (xs (nI (5 * n) + 2).toNatClampNeg) (xs (nI (5 * n) + 3).toNatClampNeg) (xs (nI (5 * n) + 4).toNatClampNeg) hn hSn).2.2.2.1) (fun _ => (hstep n h (xs (nI (5 * n) + 1).toNatClampNeg) (xs (nI (5 * n) + 2).toNatClampNeg) (xs (nI (5 * n) + 3).toNatClampNeg) (xs (nI (5 * n) + 4).toNatClampNeg) hn hSn).2.2.2.2.1) kk
      by_cases q3 : w = 3
      · subst q3
        refine lv_tableIn (tgt := 392) (off := 353) B.1 B.2.1 dL_law_39 (by decide) (by decide) (by decide) (by decide) ?_
        exact lc_3 (S := S (n + 1)) hst B hX hbl hS hw hl (by omega) (by omega) hi1 hi2 hi3 (hstep n h (xs (nI (5 * n) + 1).toNatClampNeg) (xs (nI (5 * n) + 2).toNatClampNeg) (xs (nI (5 * n) + 3).toNatClampNeg) (xs (nI (5 * n) + 4).toNatClampNeg) hn hSn).2.2.2.2.2.1 kk
      by_cases q4 : w = 4
      · subst q4
        refine lv_tableIn (tgt := 472) (off := 433) B.1 B.2.1 dL_law_39 (by decide) (by decide) (by decide) (by decide) ?_
        exact lc_4 (S := S (n + 1)) hst B hX hbl hS hw hl (by omega) (by omega) hi1 hi2 (hstep n h (xs (nI (5 * n) + 1).toNatClampNeg) (xs (nI (5 * n) + 2).toNatClampNeg) (xs (nI (5 * n) + 3).toNatClampNeg) (xs (nI (5 * n) + 4).toNatClampNeg) hn hSn).2.2.2.2.2.2.1 kk
      by_cases q5 : w = 5
      · subst q5
        refine lv_tableIn (tgt := 540) (off := 501) B.1 B.2.1 dL_law_39 (by decide) (by decide) (by decide) (by decide) ?_
        exact lc_5 (S := S (n + 1)) hst B hX hbl hS hw hl (by omega) (by omega) hi1 hi2 (hstep n h (xs (nI (5 * n) + 1).toNatClampNeg) (xs (nI (5 * n) + 2).toNatClampNeg) (xs (nI (5 * n) + 3).toNatClampNeg) (xs (nI (5 * n) + 4).toNatClampNeg) hn hSn).2.2.2.2.2.2.2.1 kk
      by_cases q6 : w = 6
      · subst q6
        refine lv_tableIn (tgt := 608) (off := 569) B.1 B.2.1 dL_law_39 (by decide) (by decide) (by decide) (by decide) ?_
        exact lc_6 (S := S (n + 1)) hst B hX hbl hS hw hl (by omega) (by omega) hi1 hi2 (hstep n h (xs (nI (5 * n) + 1).toNatClampNeg) (xs (nI (5 * n) + 2).toNatClampNeg) (xs (nI (5 * n) + 3).toNatClampNeg) (xs (nI (5 * n) + 4).toNatClampNeg) hn hSn).2.2.2.2.2.2.2.2.1 kk
      by_cases q7 : w = 7
      · subst q7
        refine lv_tableIn (tgt := 676) (off := 637) B.1 B.2.1 dL_law_39 (by decide) (by decide) (by decide) (by decide) ?_
        exact lc_7 (S := S (n + 1)) hst B hX hbl hS hw hl (by omega) (by omega) hi1 hi2 (hstep n h (xs (nI (5 * n) + 1).toNatClampNeg) (xs (nI (5 * n) + 2).toNatClampNeg) (xs (nI (5 * n) + 3).toNatClampNeg) (xs (nI (5 * n) + 4).toNatClampNeg) hn hSn).2.2.2.2.2.2.2.2.2.1 kk
      by_cases q8 : w = 8
      · subst q8
        refine lv_tableIn (tgt := 744) (off := 705) B.1 B.2.1 dL_law_39 (by decide) (by decide) (by decide) (by decide) ?_
        exact lc_8 (S := S (n + 1)) hst B hX hbl hS hw hl (by omega) (by omega) hi1 hi2 (hstep n h (xs (nI (5 * n) + 1).toNatClampNeg) (xs (nI (5 * n) + 2).toNatClampNeg) (xs (nI (5 * n) + 3).toNatClampNeg) (xs (nI (5 * n) + 4).toNatClampNeg) hn hSn).2.2.2.2.2.2.2.2.2.2.1 kk
      by_cases q9 : w = 9
      · subst q9
        refine lv_tableIn (tgt := 819) (off := 780) B.1 B.2.1 dL_law_39 (by decide) (by decide) (by decide) (by decide) ?_
        exact lc_9 (S := S (n + 1)) hst B hX hbl hS hw hl (by omega) (by omega) hi1 (hstep n h (xs (nI (5 * n) + 1).toNatClampNeg) (xs (nI (5 * n) + 2).toNatClampNeg) (xs (nI (5 * n) + 3).toNatClampNeg) (xs (nI (5 * n) + 4).toNatClampNeg) hn hSn).2.2.2.2.2.2.2.2.2.2.2.1 kk
      by_cases q10 : w = 10
      · subst q10
        refine lv_tableIn (tgt := 875) (off := 836) B.1 B.2.1 dL_law_39 (by decide) (by decide) (by decide) (by decide) ?_
        exact lc_10 (S := S (n + 1)) hst B hX hbl hS hw hl (by omega) (by omega) hi1 hi2 (hstep n h (xs (nI (5 * n) + 1).toNatClampNeg) (xs (nI (5 * n) + 2).toNatClampNeg) (xs (nI (5 * n) + 3).toNatClampNeg) (xs (nI (5 * n) + 4).toNatClampNeg) hn hSn).2.2.2.2.2.2.2.2.2.2.2.2.1 kk
      by_cases q11 : w = 11
      · subst q11
        refine lv_tableIn (tgt := 943) (off := 904) B.1 B.2.1 dL_law_39 (by decide) (by decide) (by decide) (by decide) ?_
        exact lc_11 (S := S (n + 1)) hst B hX hbl hS hw hl (by omega) (by omega) hi1 (hstep n h (xs (nI (5 * n) + 1).toNatClampNeg) (xs (nI (5 * n) + 2).toNatClampNeg) (xs (nI (5 * n) + 3).toNatClampNeg) (xs (nI (5 * n) + 4).toNatClampNeg) hn hSn).2.2.2.2.2.2.2.2.2.2.2.2.2.1 kk
      by_cases q12 : w = 12
      · subst q12
        refine lv_tableIn (tgt := 999) (off := 960) B.1 B.2.1 dL_law_39 (by decide) (by decide) (by decide) (by decide) ?_
        exact lc_12 (S := S (n + 1)) hst B hX hbl hS hw hl (by omega) (by omega) hi1 hi2 (hstep n h (xs (nI (5 * n) + 1).toNatClampNeg) (xs (nI (5 * n) + 2).toNatClampNeg) (xs (nI (5 * n) + 3).toNatClampNeg) (xs (nI (5 * n) + 4).toNatClampNeg) hn hSn).2.2.2.2.2.2.2.2.2.2.2.2.2.2.1 kk
      by_cases q13 : w = 13
      · subst q13
        refine lv_tableIn (tgt := 1067) (off := 1028) B.1 B.2.1 dL_law_39 (by decide) (by decide) (by decide) (by decide) ?_
        exact lc_13 (S := S (n + 1)) hst B hX hbl hS hw hl (by omega) (by omega) hi1 (hstep n h (xs (nI (5 * n) + 1).toNatClampNeg) (xs (nI (5 * n) + 2).toNatClampNeg) (xs (nI (5 * n) + 3).toNatClampNeg) (xs (nI (5 * n) + 4).toNatClampNeg) hn hSn).2.2.2.2.2.2.2.2.2.2.2.2.2.2.2.1 kk
      by_cases q14 : w = 14
      · subst q14
        refine lv_tableIn (tgt := 1123) (off := 1084) B.1 B.2.1 dL_law_39 (by decide) (by decide) (by decide) (by decide) ?_
        exact lc_14 (S := S (n + 1)) hst B hX hbl hS hw hl (by omega) (by omega) hi1 (hstep n h (xs (nI (5 * n) + 1).toNatClampNeg) (xs (nI (5 * n) + 2).toNatClampNeg) (xs (nI (5 * n) + 3).toNatClampNeg) (xs (nI (5 * n) + 4).toNatClampNeg) hn hSn).2.2.2.2.2.2.2.2.2.2.2.2.2.2.2.2.1 kk
      by_cases q15 : w = 15
      · subst q15
        refine lv_tableIn (tgt := 1179) (off := 1140) B.1 B.2.1 dL_law_39 (by decide) (by decide) (by decide) (by decide) ?_
        exact lc_15 (S := S (n + 1)) hst B hX hbl hS hw hl (by omega) (by omega) hi1 (hstep n h (xs (nI (5 * n) + 1).toNatClampNeg) (xs (nI (5 * n) + 2).toNatClampNeg) (xs (nI (5 * n) + 3).toNatClampNeg) (xs (nI (5 * n) + 4).toNatClampNeg) hn hSn).2.2.2.2.2.2.2.2.2.2.2.2.2.2.2.2.2.1 kk
      by_cases q16 : w = 16
      · subst q16
        refine lv_tableIn (tgt := 1204) (off := 1165) B.1 B.2.1 dL_law_39 (by decide) (by decide) (by decide) (by decide) ?_
        exact lc_16 (S := S (n + 1)) hst B hX hbl hS hw hl (by omega) (by omega) hi1 (hstep n h (xs (nI (5 * n) + 1).toNatClampNeg) (xs (nI (5 * n) + 2).toNatClampNeg) (xs (nI (5 * n) + 3).toNatClampNeg) (xs (nI (5 * n) + 4).toNatClampNeg) hn hSn).2.2.2.2.2.2.2.2.2.2.2.2.2.2.2.2.2.2.1 kk
      by_cases q17 : w = 17
      · subst q17
        refine lv_tableIn (tgt := 1260) (off := 1221) B.1 B.2.1 dL_law_39 (by decide) (by decide) (by decide) (by decide) ?_
        exact lc_17 (S := S (n + 1)) hst B hX hbl hS hw hl (by omega) (by omega) hi1 (hstep n h (xs (nI (5 * n) + 1).toNatClampNeg) (xs (nI (5 * n) + 2).toNatClampNeg) (xs (nI (5 * n) + 3).toNatClampNeg) (xs (nI (5 * n) + 4).toNatClampNeg) hn hSn).2.2.2.2.2.2.2.2.2.2.2.2.2.2.2.2.2.2.2.1 kk
      by_cases q18 : w = 18
      · subst q18
        refine lv_tableIn (tgt := 1316) (off := 1277) B.1 B.2.1 dL_law_39 (by decide) (by decide) (by decide) (by decide) ?_
        exact lc_18 (S := S (n + 1)) hst B hX hbl hS hw hl (by omega) (by omega) hi1 hi2 (hstep n h (xs (nI (5 * n) + 1).toNatClampNeg) (xs (nI (5 * n) + 2).toNatClampNeg) (xs (nI (5 * n) + 3).toNatClampNeg) (xs (nI (5 * n) + 4).toNatClampNeg) hn hSn).2.2.2.2.2.2.2.2.2.2.2.2.2.2.2.2.2.2.2.2.1 kk
      by_cases q19 : w = 19
      · subst q19
        refine lv_tableIn (tgt := 1384) (off := 1345) B.1 B.2.1 dL_law_39 (by decide) (by decide) (by decide) (by decide) ?_
        exact lc_19 (S := S (n + 1)) hst B hX hbl hS hw hl (by omega) (by omega) hi1 hi2 (hstep n h (xs (nI (5 * n) + 1).toNatClampNeg) (xs (nI (5 * n) + 2).toNatClampNeg) (xs (nI (5 * n) + 3).toNatClampNeg) (xs (nI (5 * n) + 4).toNatClampNeg) hn hSn).2.2.2.2.2.2.2.2.2.2.2.2.2.2.2.2.2.2.2.2.2.1 kk
      by_cases q20 : w = 20
      · subst q20
        refine lv_tableIn (tgt := 1452) (off := 1413) B.1 B.2.1 dL_law_39 (by decide) (by decide) (by decide) (by decide) ?_
        exact lc_20 (S := S (n + 1)) hst B hX hbl hS hw hl (by omega) (by omega)  (hstep n h (xs (nI (5 * n) + 1).toNatClampNeg) (xs (nI (5 * n) + 2).toNatClampNeg) (xs (nI (5 * n) + 3).toNatClampNeg) (xs (nI (5 * n) + 4).toNatClampNeg) hn hSn).2.2.2.2.2.2.2.2.2.2.2.2.2.2.2.2.2.2.2.2.2.2.1 kk
      by_cases q21 : w = 21
      · subst q21
        refine lv_tableIn (tgt := 1466) (off := 1427) B.1 B.2.1 dL_law_39 (by decide) (by decide) (by decide) (by decide) ?_
        exact lc_21 (S := S (n + 1)) hst B hX hbl hS hw hl (by omega) (by omega)  (hstep n h (xs (nI (5 * n) + 1).toNatClampNeg) (xs (nI (5 * n) + 2).toNatClampNeg) (xs (nI (5 * n) + 3).toNatClampNeg) (xs (nI (5 * n) + 4).toNatClampNeg) hn hSn).2.2.2.2.2.2.2.2.2.2.2.2.2.2.2.2.2.2.2.2.2.2.2.1 kk
      by_cases q22 : w = 22
      · subst q22
        refine lv_tableIn (tgt := 1480) (off := 1441) B.1 B.2.1 dL_law_39 (by decide) (by decide) (by decide) (by decide) ?_
        exact lc_22 (S := S (n + 1)) hst B hX hbl hS hw hl (by omega) (by omega) hi1 hi2 (hstep n h (xs (nI (5 * n) + 1).toNatClampNeg) (xs (nI (5 * n) + 2).toNatClampNeg) (xs (nI (5 * n) + 3).toNatClampNeg) (xs (nI (5 * n) + 4).toNatClampNeg) hn hSn).2.2.2.2.2.2.2.2.2.2.2.2.2.2.2.2.2.2.2.2.2.2.2.2.1 kk
      by_cases q23 : w = 23
      · subst q23
        refine lv_tableIn (tgt := 1548) (off := 1509) B.1 B.2.1 dL_law_39 (by decide) (by decide) (by decide) (by decide) ?_
        exact lc_23 (S := S (n + 1)) hst B hX hbl hS hw hl (by omega) (by omega) hi1 (hstep n h (xs (nI (5 * n) + 1).toNatClampNeg) (xs (nI (5 * n) + 2).toNatClampNeg) (xs (nI (5 * n) + 3).toNatClampNeg) (xs (nI (5 * n) + 4).toNatClampNeg) hn hSn).2.2.2.2.2.2.2.2.2.2.2.2.2.2.2.2.2.2.2.2.2.2.2.2.2.1 kk
      by_cases q24 : w = 24
      · subst q24
        refine lv_tableIn (tgt := 1604) (off := 1565) B.1 B.2.1 dL_law_39 (by decide) (by decide) (by decide) (by decide) ?_
        exact lc_24 (S := S (n + 1)) hst B hX hbl hS hw hl (by omega) (by omega) hi1 (hstep n h (xs (nI (5 * n) + 1).toNatClampNeg) (xs (nI (5 * n) + 2).toNatClampNeg) (xs (nI (5 * n) + 3).toNatClampNeg) (xs (nI (5 * n) + 4).toNatClampNeg) hn hSn).2.2.2.2.2.2.2.2.2.2.2.2.2.2.2.2.2.2.2.2.2.2.2.2.2.2.1 kk
      by_cases q25 : w = 25
      · subst q25
        refine lv_tableIn (tgt := 1660) (off := 1621) B.1 B.2.1 dL_law_39 (by decide) (by decide) (by decide) (by decide) ?_
        exact lc_25 (S := S (n + 1)) hst B hX hbl hS hw hl (by omega) (by omega)  (hstep n h (xs (nI (5 * n) + 1).toNatClampNeg) (xs (nI (5 * n) + 2).toNatClampNeg) (xs (nI (5 * n) + 3).toNatClampNeg) (xs (nI (5 * n) + 4).toNatClampNeg) hn hSn).2.2.2.2.2.2.2.2.2.2.2.2.2.2.2.2.2.2.2.2.2.2.2.2.2.2.2.1 kk
      by_cases q26 : w = 26
      · subst q26
        refine lv_tableIn (tgt := 1704) (off := 1665) B.1 B.2.1 dL_law_39 (by decide) (by decide) (by decide) (by decide) ?_
        exact lc_26 (S := S (n + 1)) hst B hX hbl hS hw hl (by omega) (by omega)  (hstep n h (xs (nI (5 * n) + 1).toNatClampNeg) (xs (nI (5 * n) + 2).toNatClampNeg) (xs (nI (5 * n) + 3).toNatClampNeg) (xs (nI (5 * n) + 4).toNatClampNeg) hn hSn).2.2.2.2.2.2.2.2.2.2.2.2.2.2.2.2.2.2.2.2.2.2.2.2.2.2.2.2.1 kk
      by_cases q27 : w = 27
      · subst q27
        refine lv_tableIn (tgt := 1717) (off := 1678) B.1 B.2.1 dL_law_39 (by decide) (by decide) (by decide) (by decide) ?_
        exact lc_27 (S := S (n + 1)) hst B hX hbl hS hw hl (by omega) (by omega) hi1 hi2 (hstep n h (xs (nI (5 * n) + 1).toNatClampNeg) (xs (nI (5 * n) + 2).toNatClampNeg) (xs (nI (5 * n) + 3).toNatClampNeg) (xs (nI (5 * n) + 4).toNatClampNeg) hn hSn).2.2.2.2.2.2.2.2.2.2.2.2.2.2.2.2.2.2.2.2.2.2.2.2.2.2.2.2.2.1 kk
      by_cases q28 : w = 28
      · subst q28
        refine lv_tableIn (tgt := 1785) (off := 1746) B.1 B.2.1 dL_law_39 (by decide) (by decide) (by decide) (by decide) ?_
        exact lc_28 (S := S (n + 1)) hst B hX hbl hS hw hl (by omega) (by omega) hi1 (hstep n h (xs (nI (5 * n) + 1).toNatClampNeg) (xs (nI (5 * n) + 2).toNatClampNeg) (xs (nI (5 * n) + 3).toNatClampNeg) (xs (nI (5 * n) + 4).toNatClampNeg) hn hSn).2.2.2.2.2.2.2.2.2.2.2.2.2.2.2.2.2.2.2.2.2.2.2.2.2.2.2.2.2.2.1 kk
      by_cases q29 : w = 29
      · subst q29
        refine lv_tableIn (tgt := 1841) (off := 1802) B.1 B.2.1 dL_law_39 (by decide) (by decide) (by decide) (by decide) ?_
        exact lc_29 (S := S (n + 1)) hst B hX hbl hS hw hl (by omega) (by omega)  (hstep n h (xs (nI (5 * n) + 1).toNatClampNeg) (xs (nI (5 * n) + 2).toNatClampNeg) (xs (nI (5 * n) + 3).toNatClampNeg) (xs (nI (5 * n) + 4).toNatClampNeg) hn hSn).2.2.2.2.2.2.2.2.2.2.2.2.2.2.2.2.2.2.2.2.2.2.2.2.2.2.2.2.2.2.2.1 kk
      by_cases q30 : w = 30
      · subst q30
        refine lv_tableIn (tgt := 1854) (off := 1815) B.1 B.2.1 dL_law_39 (by decide) (by decide) (by decide) (by decide) ?_
        exact lc_30 (S := S (n + 1)) hst B hX hbl hS hw hl (by omega) (by omega)  (hstep n h (xs (nI (5 * n) + 1).toNatClampNeg) (xs (nI (5 * n) + 2).toNatClampNeg) (xs (nI (5 * n) + 3).toNatClampNeg) (xs (nI (5 * n) + 4).toNatClampNeg) hn hSn).2.2.2.2.2.2.2.2.2.2.2.2.2.2.2.2.2.2.2.2.2.2.2.2.2.2.2.2.2.2.2.2.1 kk
      by_cases q31 : w = 31
      · subst q31
        refine lv_tableIn (tgt := 1867) (off := 1828) B.1 B.2.1 dL_law_39 (by decide) (by decide) (by decide) (by decide) ?_
        exact lc_31 (S := S (n + 1)) hst B hX hbl hS hw hl (by omega) (by omega)  (hstep n h (xs (nI (5 * n) + 1).toNatClampNeg) (xs (nI (5 * n) + 2).toNatClampNeg) (xs (nI (5 * n) + 3).toNatClampNeg) (xs (nI (5 * n) + 4).toNatClampNeg) hn hSn).2.2.2.2.2.2.2.2.2.2.2.2.2.2.2.2.2.2.2.2.2.2.2.2.2.2.2.2.2.2.2.2.2.1 kk
      by_cases q32 : w = 32
      · subst q32
        refine lv_tableIn (tgt := 1911) (off := 1872) B.1 B.2.1 dL_law_39 (by decide) (by decide) (by decide) (by decide) ?_
        exact lc_32 (S := S (n + 1)) hst B hX hbl hS hw hl (by omega) (by omega)  (hstep n h (xs (nI (5 * n) + 1).toNatClampNeg) (xs (nI (5 * n) + 2).toNatClampNeg) (xs (nI (5 * n) + 3).toNatClampNeg) (xs (nI (5 * n) + 4).toNatClampNeg) hn hSn).2.2.2.2.2.2.2.2.2.2.2.2.2.2.2.2.2.2.2.2.2.2.2.2.2.2.2.2.2.2.2.2.2.2 kk
      refine lv_tableOut (tgt := 1925) B.1 B.2.1 dL_law_39 (mb_out0_32 q0 q1 q2 q3 q4 q5 q6 q7 q8 q9 q10 q11 q12 q13 q14 q15 q16 q17 q18 q19 q20 q21 q22 q23 q24 q25 q26 q27 q28 q29 q30 q31 q32) (by decide) ?_
      exact kk h H locs ls cells slots (hstep n h 0 0 0 0 hn hSn).1 hw hS hl (by omega) (by omega)
