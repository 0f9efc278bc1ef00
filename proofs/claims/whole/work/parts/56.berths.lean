/-! ===== constructors: MarinaBerths, MarinaBerthsModel ===== -/
abbrev ct_U5 : Type := (Nat × ct_U2) × (Nat × ct_U2) × Nat × (Nat × Nat × Nat) × (Nat × Nat × Nat) × (Nat → Nat) × (Nat → ct_U2)
abbrev ct_T5 (a b r p t : Nat) : va_E := .inr (5, [.ref a, .ref b, .ref r, .int 0, .ref p, .ref t])
abbrev ct_D5 : va_E := .inr (5, [.null, .null, .null, .int 0, .null, .null])
def ct_wL (aC : Nat → ClassId) (rq : Nat → Nat) (ru : Nat → ct_U2) (n : Nat) : va_W := (List.range n).flatMap (fun k => ct_wM aC (rq k) (ru k))
def ct_wB (aC : Nat → ClassId) (u : ct_U5) (f : Nat → Option Nat) (l : va_W) : va_W := ((((ct_wM aC u.1.1 u.1.2 ++ ct_wM aC u.2.1.1 u.2.1.2) ++ [(u.2.2.1, .inl (aC 5, (4, ct_fv f)))]) ++ ct_wP aC u.2.2.2.1.1 u.2.2.2.1.2) ++ ct_wT aC u.2.2.2.2.1.1 u.2.2.2.2.1.2) ++ l
def ct_w5n (aC : Nat → ClassId) (h0 : Nat) (u : ct_U5) (f : Nat → Option Nat) (l : va_W) : va_W := (h0, ct_T5 u.1.1 u.2.1.1 u.2.2.1 u.2.2.2.1.1 u.2.2.2.2.1.1) :: ct_wB aC u f l
def ct_w5 (aC : Nat → ClassId) (h0 : Nat) (u : ct_U5) : va_W := ct_w5n aC h0 u (fun k => some (u.2.2.2.2.2.1 k)) (ct_wL aC u.2.2.2.2.2.1 u.2.2.2.2.2.2 4)
theorem ct_wL_S (aC : Nat → ClassId) (rq : Nat → Nat) (ru : Nat → ct_U2) (n q : Nat) (u : ct_U2) : ct_wL aC rq ru n ++ ct_wM aC q u = ct_wL aC (va_up rq n q) (va_up ru n u) (n + 1) := by
  unfold ct_wL
  rw [List.range_succ, List.flatMap_append]
  congr 1
  · rw [List.flatMap_def, List.flatMap_def]
    congr 1
    apply List.map_congr_left
    intro k hk
    have h1 := List.mem_range.mp hk
    rw [va_up_ne rq q (show k ≠ n by omega), va_up_ne ru u (show k ≠ n by omega)]
  · rw [List.flatMap_cons, List.flatMap_nil, List.append_nil, va_up_self, va_up_self]
theorem ct_wL_0 (aC : Nat → ClassId) (rq : Nat → Nat) (ru : Nat → ct_U2) : ct_wL aC rq ru 0 = [] := rfl
theorem ct_wM_mem (aC : Nat → ClassId) (q : Nat) (u : ct_U2) : (q, ct_T2 u.1.1 u.1.2.1 u.1.2.2) ∈ ct_wM aC q u := List.mem_cons_self
theorem ct_w5_at (aC : Nat → ClassId) (h0 : Nat) (u : ct_U5) (f : Nat → Option Nat) (l l2 : va_W) : (ct_w5n aC h0 u f l ++ l2)[81]? = some (u.2.2.1, .inl (aC 5, (4, ct_fv f))) := rfl
theorem ct_w5_set (aC : Nat → ClassId) (h0 : Nat) (u : ct_U5) (f g : Nat → Option Nat) (l l2 : va_W) : (ct_w5n aC h0 u f l ++ l2).set 81 (u.2.2.1, .inl (aC 5, (4, ct_fv g))) = ct_w5n aC h0 u g (l ++ l2) := by
  unfold ct_w5n ct_wB
  rw [List.cons_append, List.append_assoc _ l l2]
  rfl
section CT5
variable {p : Program} {l : Launch} {e : Env} {R : Room} {s : State} {m : MethodId} {args : Array Value} {below : List Frame} {meth : Method} {c : Code} {A : Nat → Prop} {D : va_G} {aC : Nat → ClassId} {h0 : Nat}
abbrev ct_r5 : Room := { frames := 3, cells := 247, slots := 1986, locals := 64 }
/-- the records, from the n-th on -/
theorem ct_records (B : ct_Cx p s m args c cX5_init 2 RX5 D (ct_ty aC)) (hR : R = ct_r5) (hr : meth.sig.returnType = none) (hlocks : meth.locks = false) (hA : ∀ q : Nat, s.heap.size ≤ q → A q) (u1 u2 : Nat × ct_U2) (r0 : Nat) (u3 u4 : Nat × Nat × Nat) :
    ∀ (f n : Nat) (rq : Nat → Nat) (ru : Nat → ct_U2) (g : Nat → Option Nat) (H : Heap) (locs : List Loc) (ls : Array Slot) (cells slots : Nat), f + n = 4 → (∀ k, k < n → g k = some (rq k)) →
      va_P D vwCl (ct_w5n aC h0 (u1, u2, r0, u3, u4, rq, ru) g (ct_wL aC rq ru n)) H → va_D A (ct_w5n aC h0 (u1, u2, r0, u3, u4, rq, ru) g (ct_wL aC rq ru n)) → va_S A s.heap H locs → lv_has ls 2 [(1, .int (nI n)), (0, .ref h0)] → cells ≤ 87 + 40 * n → slots ≤ 750 + 309 * n →
      W p l e R s m args below meth c H locs cells slots (MQ below (va_Qv (fun _ : ct_U5 => True) (fun u t => va_P D vwCl (ct_w5 aC h0 u) t.heap ∧ va_D A (ct_w5 aC h0 u)) A) args s 247 1986 A) (F0 m 58 ls []) := by
  intro f
  induction f with
  | zero =>
    intro n rq ru g H locs ls cells slots hn hg hP hD hS hl hc hs
    obtain rfl : n = 4 := by omega
    refine lv_iload_n B.1 B.2.1 dX5_init_58 rfl (lv_at hl 0 rfl) ?_
    refine lv_iconst (v := 4) B.1 B.2.1 dX5_init_59 (by decide) ?_
    refine lv_icmp_ge (tgt := 82) B.1 B.2.1 dX5_init_60 (by decide) (fun _ => ?_) (fun h => absurd (show (4 : Int32) ≤ nI 4 by decide) h)
    have e1 : ct_w5n aC h0 (u1, u2, r0, u3, u4, rq, ru) g (ct_wL aC rq ru 4) = (ct_w5n aC h0 (u1, u2, r0, u3, u4, rq, ru) g (ct_wL aC rq ru 4)) ++ [] := (List.append_nil _).symm
    refine ct_ret (Wf := ct_w5 aC h0) (u1, u2, r0, u3, u4, rq, ru) B hr hlocks ?_ ?_ hS dX5_init_82 (by omega) (by omega)
    · refine ct_Pset (w1 := ct_w5n aC h0 (u1, u2, r0, u3, u4, rq, ru) g (ct_wL aC rq ru 4)) hP (fun k => ?_)
      have e2 := ct_w5_set aC h0 (u1, u2, r0, u3, u4, rq, ru) g (fun k => some (rq k)) (ct_wL aC rq ru 4) []
      rw [List.append_nil, List.append_nil] at e2
      have e3 := ct_w5_at aC h0 (u1, u2, r0, u3, u4, rq, ru) g (ct_wL aC rq ru 4) []
      rw [List.append_nil] at e3
      by_cases hk : k = 81
      · subst hk
        have e4 := ct_w5_at aC h0 (u1, u2, r0, u3, u4, rq, ru) (fun k => some (rq k)) (ct_wL aC rq ru 4) []
        rw [List.append_nil] at e4
        exact Or.inr ⟨r0, (aC 5, 4, ct_fv (fun k => some (rq k))), (aC 5, 4, ct_fv g), e4, e3, ct_arrq _ _ _ _ (fun k hk => (hg k hk).symm)⟩
      · refine Or.inl ?_
        show (ct_w5n aC h0 (u1, u2, r0, u3, u4, rq, ru) (fun k => some (rq k)) (ct_wL aC rq ru 4))[k]? = _
        rw [← e2, List.getElem?_set, if_neg (fun h => hk h.symm)]
    · have e2 : ∀ f2 : Nat → Option Nat, (ct_w5n aC h0 (u1, u2, r0, u3, u4, rq, ru) f2 (ct_wL aC rq ru 4)).map (fun q => q.1) = (ct_w5n aC h0 (u1, u2, r0, u3, u4, rq, ru) (fun _ => none) (ct_wL aC rq ru 4)).map (fun q => q.1) := fun f2 => by
        unfold ct_w5n ct_wB
        simp only [List.map_cons, List.map_append, List.map_nil]
      exact ct_Dset hD ((e2 _).trans (e2 _).symm)
  | succ f ih =>
    intro n rq ru g H locs ls cells slots hn hg hP hD hS hl hc hs
    subst hR
    refine lv_iload_n B.1 B.2.1 dX5_init_58 rfl (lv_at hl 0 rfl) ?_
    refine lv_iconst (v := 4) B.1 B.2.1 dX5_init_59 (by decide) ?_
    refine lv_icmp_ge (tgt := 82) B.1 B.2.1 dX5_init_60 (by decide) (fun h => absurd h ?_) (fun _ => ?_)
    · exact ct_nge n 4 (by omega) (by decide)
    refine lv_aload_n B.1 B.2.1 dX5_init_63 rfl (lv_at hl 1 rfl) ?_
    refine va_get (D := D) (ci := 5) (C := RX5) (T := TX5) (N := 6) B.1 B.2.1 B.2.2.2.2.1 in_X5 B.2.2.2.1 B.2.2.2.2.2.1 hP 0 rfl rfl 2 (by decide) (B.2.2.2.2.1 _ (mb_tb 213 (by decide +kernel) (by decide +kernel))) (fun _ h9 => h9) rfl dX5_init_64 ?_
    refine lv_iload_n B.1 B.2.1 dX5_init_67 rfl (lv_at hl 0 rfl) ?_
    refine ct_make (pn := 75) B (ct_X2 l D aC) (ct_cwI B (mb_tb 25 (by decide +kernel) (by decide +kernel)) (mb_tb 26 (by decide +kernel) (by decide +kernel)) (mb_tb 27 (by decide +kernel) (by decide +kernel)) (mb_tb 2 (by decide +kernel) (by decide +kernel)) rfl rfl rfl (by decide +kernel) ⟨Nat.le_of_ble_eq_true rfl, Nat.le_of_ble_eq_true rfl⟩) in_X2 tyX2 tyX2_ok (mb_tb 23 (by decide +kernel) (by decide +kernel)) (mb_tb 24 (by decide +kernel) (by decide +kernel)) (mb_tb 2 (by decide +kernel) (by decide +kernel)) rfl ct_d2
      hP hD hS hA hl.1 (Nat.le_of_ble_eq_true rfl) (by show cells + 1 + 39 ≤ 247; omega) (by show slots + 15 + 294 ≤ 1986; omega) dX5_init_68 rfl dX5_init_71 rfl dX5_init_72 rfl (fun q u H1 locs1 hP1 hD1 hS1 => ?_)
    obtain ⟨qk, hqk⟩ := List.getElem?_of_mem (List.mem_append_right (ct_w5n aC h0 (u1, u2, r0, u3, u4, rq, ru) g (ct_wL aC rq ru n)) (ct_wM_mem aC q u))
    refine va_astq B.1 B.2.1 B.2.2.2.2.2.1 hP1 hD1 hS1 81 5 qk 2 (ct_w5_at aC h0 (u1, u2, r0, u3, u4, rq, ru) g (ct_wL aC rq ru n) _) rfl hqk rfl (ct_vin n 4 (by omega) (by decide)) dX5_init_75 (fun H2 locs2 hP2 hD2 hS2 => ?_)
    refine lv_iinc (k := 0) (v := nI (n + 1)) B.1 B.2.1 dX5_init_76 hl rfl (ct_inc n) (by decide) rfl (fun ls2 hl2 => ?_)
    refine lv_goto (tgt := 58) B.1 B.2.1 dX5_init_79 (by decide) ?_
    have hl2 : lv_has ls2 2 [(1, .int (nI (n + 1))), (0, .ref h0)] := hl2
    have e1 := ct_w5_set aC h0 (u1, u2, r0, u3, u4, rq, ru) g (va_up g (nI n).toNatClampNeg (some q)) (ct_wL aC rq ru n) (ct_wM aC q u)
    rw [ct_wL_S] at e1
    have hP2 := e1 ▸ hP2
    have hD2 := e1 ▸ hD2
    refine ih (n + 1) (va_up rq n q) (va_up ru n u) _ H2 locs2 ls2 _ _ (by omega) (fun k hk => ?_) hP2 hD2 hS2 hl2 (by omega) (by omega)
    rw [ct_nI n (by omega)]
    by_cases hkn : k = n
    · subst hkn
      rw [va_up_self, va_up_self]
    · rw [va_up_ne g _ hkn, va_up_ne rq q hkn]
      exact hg k (by omega)
end CT5
theorem ct_X5 (l : Launch) (D : va_G) (aC : Nat → ClassId) : ct_Mt (S := ct_U5) l D (ct_ty aC) yX5_init cX5_init 2 ct_r5 247 1986 ct_D5 (ct_w5 aC) := by
  refine ct_of (own := RX5) (idx := 1) (by decide) rfl rfl (mb_tb 20 (by decide +kernel) (by decide +kernel)) (by decide) dX5_init_0 dX5_init_1 (Nat.le_of_ble_eq_true rfl) (Nat.le_of_ble_eq_true rfl) ?_
  intro p e R s m args below meth c h0 ls A hR B hin hr hlocks hP hD hS hA hAe hl
  subst hR
  refine lv_aload_n B.1 B.2.1 dX5_init_4 rfl (lv_at hl 0 rfl) ?_
  refine ct_make (pn := 12) B (ct_X2 l D aC) (ct_cwI B (mb_tb 25 (by decide +kernel) (by decide +kernel)) (mb_tb 26 (by decide +kernel) (by decide +kernel)) (mb_tb 27 (by decide +kernel) (by decide +kernel)) (mb_tb 2 (by decide +kernel) (by decide +kernel)) rfl rfl rfl (by decide +kernel) ⟨Nat.le_of_ble_eq_true rfl, Nat.le_of_ble_eq_true rfl⟩) in_X2 tyX2 tyX2_ok (mb_tb 23 (by decide +kernel) (by decide +kernel)) (mb_tb 24 (by decide +kernel) (by decide +kernel)) (mb_tb 2 (by decide +kernel) (by decide +kernel)) rfl ct_d2
    hP hD hS hA hl.1 (Nat.le_of_ble_eq_true rfl) (Nat.le_of_ble_eq_true rfl) (Nat.le_of_ble_eq_true rfl) dX5_init_5 rfl dX5_init_8 rfl dX5_init_9 rfl (fun m0 u0 H locs hP hD hS => ?_)
  refine ct_put (pn := 15) B hin in_X5 tyX5 tyX5_ok nmX5 rfl 0 (by decide) (mb_tb 211 (by decide +kernel) (by decide +kernel)) rfl rfl rfl dX5_init_12 rfl hP hD hS 0 rfl (Nat.le_of_ble_eq_true rfl) (fun H locs hP hD hS => ?_)
  refine lv_aload_n B.1 B.2.1 dX5_init_15 rfl (lv_at hl 0 rfl) ?_
  refine ct_make (pn := 23) B (ct_X2 l D aC) (ct_cwI B (mb_tb 25 (by decide +kernel) (by decide +kernel)) (mb_tb 26 (by decide +kernel) (by decide +kernel)) (mb_tb 27 (by decide +kernel) (by decide +kernel)) (mb_tb 2 (by decide +kernel) (by decide +kernel)) rfl rfl rfl (by decide +kernel) ⟨Nat.le_of_ble_eq_true rfl, Nat.le_of_ble_eq_true rfl⟩) in_X2 tyX2 tyX2_ok (mb_tb 23 (by decide +kernel) (by decide +kernel)) (mb_tb 24 (by decide +kernel) (by decide +kernel)) (mb_tb 2 (by decide +kernel) (by decide +kernel)) rfl ct_d2
    hP hD hS hA hl.1 (Nat.le_of_ble_eq_true rfl) (Nat.le_of_ble_eq_true rfl) (Nat.le_of_ble_eq_true rfl) dX5_init_16 rfl dX5_init_19 rfl dX5_init_20 rfl (fun m1 u1 H locs hP hD hS => ?_)
  refine ct_put (pn := 26) B hin in_X5 tyX5 tyX5_ok nmX5 rfl 1 (by decide) (mb_tb 212 (by decide +kernel) (by decide +kernel)) rfl rfl rfl dX5_init_23 rfl hP hD hS 0 rfl (Nat.le_of_ble_eq_true rfl) (fun H locs hP hD hS => ?_)
  refine lv_aload_n B.1 B.2.1 dX5_init_26 rfl (lv_at hl 0 rfl) ?_
  refine lv_iconst (v := 4) B.1 B.2.1 dX5_init_27 (by decide) ?_
  refine ct_newq (C := RX2) (cA := aC 5) (N' := 4) (pn := 31) B (mb_tb 23 (by decide +kernel) (by decide +kernel)) B.2.2.2.2.2.2.2.2.2.2.2.2 5 rfl hP hD hS hA (by decide) (by decide) (by decide) (Nat.le_of_ble_eq_true rfl) (Nat.le_of_ble_eq_true rfl) dX5_init_28 rfl (fun r0 H hP hD hS => ?_)
  refine ct_put (pn := 34) B hin in_X5 tyX5 tyX5_ok nmX5 rfl 2 (by decide) (mb_tb 213 (by decide +kernel) (by decide +kernel)) rfl rfl rfl dX5_init_31 rfl hP hD hS 0 rfl (Nat.le_of_ble_eq_true rfl) (fun H locs hP hD hS => ?_)
  refine lv_aload_n B.1 B.2.1 dX5_init_34 rfl (lv_at hl 0 rfl) ?_
  refine ct_make (pn := 42) B (ct_X4 l D aC) (ct_cwN (host := "MarinaBerths") B B.2.2.2.2.2.2.2.2.1 (mb_tb 172 (by decide +kernel) (by decide +kernel)) (mb_tb 173 (by decide +kernel) (by decide +kernel)) (mb_tb 5 (by decide +kernel) (by decide +kernel)) rfl rfl rfl (by decide +kernel) ⟨Nat.le_of_ble_eq_true rfl, Nat.le_of_ble_eq_true rfl⟩) in_X4 tyX4 tyX4_ok (mb_tb 169 (by decide +kernel) (by decide +kernel)) (mb_tb 170 (by decide +kernel) (by decide +kernel)) (mb_tb 5 (by decide +kernel) (by decide +kernel)) rfl ct_d4
    hP hD hS hA hl.1 (Nat.le_of_ble_eq_true rfl) (Nat.le_of_ble_eq_true rfl) (Nat.le_of_ble_eq_true rfl) dX5_init_35 rfl dX5_init_38 rfl dX5_init_39 rfl (fun n0 v0 H locs hP hD hS => ?_)
  refine ct_put (pn := 45) B hin in_X5 tyX5 tyX5_ok nmX5 rfl 4 (by decide) (mb_tb 215 (by decide +kernel) (by decide +kernel)) rfl rfl rfl dX5_init_42 rfl hP hD hS 0 rfl (Nat.le_of_ble_eq_true rfl) (fun H locs hP hD hS => ?_)
  refine lv_aload_n B.1 B.2.1 dX5_init_45 rfl (lv_at hl 0 rfl) ?_
  refine ct_make (pn := 53) B (ct_X3 l D aC) (ct_cwN (host := "MarinaBerths") B B.2.2.2.2.2.2.2.2.2.1 (mb_tb 191 (by decide +kernel) (by decide +kernel)) (mb_tb 192 (by decide +kernel) (by decide +kernel)) (mb_tb 6 (by decide +kernel) (by decide +kernel)) rfl rfl rfl (by decide +kernel) ⟨Nat.le_of_ble_eq_true rfl, Nat.le_of_ble_eq_true rfl⟩) in_X3 tyX3 tyX3_ok (mb_tb 188 (by decide +kernel) (by decide +kernel)) (mb_tb 189 (by decide +kernel) (by decide +kernel)) (mb_tb 6 (by decide +kernel) (by decide +kernel)) rfl ct_d3
    hP hD hS hA hl.1 (Nat.le_of_ble_eq_true rfl) (Nat.le_of_ble_eq_true rfl) (Nat.le_of_ble_eq_true rfl) dX5_init_46 rfl dX5_init_49 rfl dX5_init_50 rfl (fun n1 v1 H locs hP hD hS => ?_)
  refine ct_put (pn := 56) B hin in_X5 tyX5 tyX5_ok nmX5 rfl 5 (by decide) (mb_tb 216 (by decide +kernel) (by decide +kernel)) rfl rfl rfl dX5_init_53 rfl hP hD hS 0 rfl (Nat.le_of_ble_eq_true rfl) (fun H locs hP hD hS => ?_)
  refine lv_iconst (v := 0) B.1 B.2.1 dX5_init_56 (by decide) ?_
  refine lv_istore_n B.1 B.2.1 dX5_init_57 rfl hl (by decide) rfl (fun ls2 hl2 => ?_)
  have hl2 : lv_has ls2 2 [(1, .int (nI 0)), (0, .ref h0)] := hl2
  have e9 : ct_w5n aC h0 ((m0, u0), (m1, u1), r0, (n0, v0), (n1, v1), (fun _ => 0), (fun _ => u0)) (fun _ => none) (ct_wL aC (fun _ => 0) (fun _ => u0) 0) = (h0, ct_T5 m0 m1 r0 n0 n1) :: ((((ct_wM aC m0 u0 ++ ct_wM aC m1 u1) ++ [(r0, .inl (aC 5, (4, ct_fv (fun _ => none))))]) ++ ct_wP aC n0 v0) ++ ct_wT aC n1 v1) := by
    unfold ct_w5n ct_wB
    rw [ct_wL_0, List.append_nil]
  refine ct_records B rfl hr hlocks hA (m0, u0) (m1, u1) r0 (n0, v0) (n1, v1) 4 0 (fun _ => 0) (fun _ => u0) (fun _ => none) H locs ls2 _ _ rfl (fun k hk => absurd hk (Nat.not_lt_zero _)) (by rw [e9]; exact hP) (by rw [e9]; exact hD) hS hl2 (Nat.le_of_ble_eq_true rfl) (Nat.le_of_ble_eq_true rfl)
