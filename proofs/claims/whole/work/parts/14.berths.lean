set_option maxRecDepth 100000 in
set_option maxHeartbeats 4000000 in
theorem cl_X5_37 {l : Launch} {G : mb_G} {cc : ByteArray} {nL : Nat} {ret : Option FieldType} {d pc pn : Nat} {lv : List (Nat × mb_AV)} {st : List mb_AV} {h : mb_AH} {res : mb_RS} (hst : l.stackTraces = false) (hg : mb_gok G)  {K : Int32 → mb_AH → Option mb_RS} (hd2 : 1 + 1 ≤ d) (hs4 : st.length ≤ 4) (dg : decode cc pc = .ok (.invokevirtual 37, 3)) (hn : pc + 3 = pn) (hr : mb_cI (F_X3_findFault  h) K = some res) (kk : ∀ (x : Int32) (h2 : mb_AH), K x h2 = some res → mb_Ev l G RX5 cc nL ret d pn lv (.inl x :: st) h2 res) : mb_Ev l G RX5 cc nL ret d pc lv (mb_F 5 0 0 :: st) h res := mb_kVI (as := []) (n := 0) (d2 := 1) (ci := 3) (fun _ hf => C_X3_findFault hst hg hf) (mb_gV wl_X5_37 mi_X3_findFault ms_X3_findFault mn_X3 mc_X3_findFault) (by decide +kernel) rfl rfl rfl hd2 (by decide) hs4 rfl dg hn hr kk
set_option maxRecDepth 100000 in
set_option maxHeartbeats 4000000 in
theorem cl_X5_256 {l : Launch} {G : mb_G} {cc : ByteArray} {nL : Nat} {ret : Option FieldType} {d pc pn : Nat} {lv : List (Nat × mb_AV)} {st : List mb_AV} {h : mb_AH} {res : mb_RS} (hst : l.stackTraces = false) (hg : mb_gok G) {a0 : Nat} {a1 : Nat} {K : mb_AH → Option mb_RS} (hd2 : 2 + 1 ≤ d) (hs4 : st.length ≤ 4) (dg : decode cc pc = .ok (.invokevirtual 256, 3)) (hn : pc + 3 = pn) (hr : mb_cV (F_X2_copyFrom a0 a1 h) K = some res) (kk : ∀ (h2 : mb_AH), K h2 = some res → mb_Ev l G RX5 cc nL ret d pn lv st h2 res) : mb_Ev l G RX5 cc nL ret d pc lv (mb_F 1 a1 0 :: mb_F 1 a0 0 :: st) h res := mb_kVV (as := [mb_F 1 a1 0]) (n := 1) (d2 := 2) (ci := 2) (fun _ hf => C_X2_copyFrom hst hg hf) (mb_gV wl_X5_256 mi_X2_copyFrom ms_X2_copyFrom mn_X2 mc_X2_copyFrom) (by decide +kernel) rfl rfl rfl hd2 (by decide) hs4 rfl dg hn hr kk
def B_X5_remember_12   (h : mb_AH) : Option mb_RS := (mb_gB (h.1 0 0 0 3) 4 (mb_cV (F_X2_copyFrom (h.2.2 (h.1 0 0 0 3).toNatClampNeg) 0 h) fun h101 => (mb_up (mb_sI h101 0 0 0 3 ((h101.1 0 0 0 3) + 1)) fun h102 => (some (.inl none, h102)))))
set_option maxRecDepth 100000 in
set_option maxHeartbeats 4000000 in
theorem T_X5_remember_12 {l : Launch} {G : mb_G} {res : mb_RS} (hst : l.stackTraces = false) (hg : mb_gok G)    {h : mb_AH} (hr : B_X5_remember_12   h = some res) : mb_Ev l G RX5 cX5_remember 1 none 3 12 [(0, mb_F 0 0 0)] [] h res := by
  unfold B_X5_remember_12 at hr
  refine mb_aload_n (pn := 13) 0 dX5_remember_12 rfl rfl rfl ?_
  refine gf_X5_19 (pn := 16) dX5_remember_13 rfl ?_
  refine mb_aload_n (pn := 17) 0 dX5_remember_16 rfl rfl rfl ?_
  refine gf_X5_312 (pn := 20) dX5_remember_17 rfl ?_
  refine mb_aald13 (pn := 21) dX5_remember_20 rfl hr (fun hr => ?_)
  refine mb_aload_n (pn := 22) 0 dX5_remember_21 rfl rfl rfl ?_
  refine gf_X5_10 (pn := 25) dX5_remember_22 rfl ?_
  refine cl_X5_256 (pn := 28) hst hg (Nat.le_of_ble_eq_true rfl) (Nat.le_of_ble_eq_true rfl) dX5_remember_25 rfl hr (fun h101 hr => ?_)
  refine mb_aload_n (pn := 29) 0 dX5_remember_28 rfl rfl rfl ?_
  refine mb_dup (pn := 30) rfl dX5_remember_29 rfl ?_
  refine gf_X5_312 (pn := 33) dX5_remember_30 rfl ?_
  refine mb_iconst (v := 1) (pn := 34) dX5_remember_33 (by decide) rfl ?_
  refine mb_iadd (pn := 35) dX5_remember_34 rfl ?_
  refine pf_X5_312 (pn := 38) dX5_remember_35 rfl hr (fun h102 hr => ?_)
  cases hr
  exact mb_vret dX5_remember_38
def B_X5_dropOldestRecord_9  : Nat → Nat → Int32 → mb_AH → Option mb_RS
  | 0, _, _, _ => none
  | n + 1, av1, v2, h => (if 4 ≤ v2 then (mb_gB 3 4 (mb_up (mb_sR h (3 : Int32).toNatClampNeg av1) fun h101 => (mb_up (mb_sI h101 0 0 0 3 3) fun h102 => (some (.inl none, h102))))) else (mb_gB v2 4 (mb_gB (v2 - 1) 4 (mb_up (mb_sR h (v2 - 1).toNatClampNeg (h.2.2 v2.toNatClampNeg)) fun h103 => (mb_lI (v2 + 1) fun y104 => ((B_X5_dropOldestRecord_9  n) av1 y104 h103))))))
set_option maxRecDepth 100000 in
set_option maxHeartbeats 4000000 in
theorem T_X5_dropOldestRecord_9 {l : Launch} {G : mb_G} {res : mb_RS} (hst : l.stackTraces = false) (hg : mb_gok G)   : ∀ (n : Nat) (av1 : Nat) (v2 : Int32) (h : mb_AH), B_X5_dropOldestRecord_9  n av1 v2 h = some res → mb_Ev l G RX5 cX5_dropOldestRecord 3 none 0 9 [(0, mb_F 0 0 0), (1, mb_F 1 av1 0), (2, .inl v2)] [] h res := by
  intro n
  induction n with
  | zero => intro av1 v2 h hr; cases hr
  | succ n ih =>
    intro av1 v2 h hr
    rw [B_X5_dropOldestRecord_9] at hr
    refine mb_iload_n (pn := 10) 2 dX5_dropOldestRecord_9 rfl rfl rfl ?_
    refine mb_iconst (v := 4) (pn := 11) dX5_dropOldestRecord_10 (by decide) rfl ?_
    refine mb_ic_ge (tgt := 34) (pn := 14) dX5_dropOldestRecord_11 (by decide) rfl hr (fun hr => ?_) (fun hr => ?_)
    · refine mb_aload_n (pn := 35) 0 dX5_dropOldestRecord_34 rfl rfl rfl ?_
      refine gf_X5_19 (pn := 38) dX5_dropOldestRecord_35 rfl ?_
      refine mb_iconst (v := 3) (pn := 39) dX5_dropOldestRecord_38 (by decide) rfl ?_
      refine mb_aload_n (pn := 40) 1 dX5_dropOldestRecord_39 rfl rfl rfl ?_
      refine mb_aast13 (pn := 41) dX5_dropOldestRecord_40 rfl hr (fun hr => ?_)
      refine mb_nmh hr (fun h101 hr => ?_)
      refine mb_aload_n (pn := 42) 0 dX5_dropOldestRecord_41 rfl rfl rfl ?_
      refine mb_iconst (v := 3) (pn := 43) dX5_dropOldestRecord_42 (by decide) rfl ?_
      refine pf_X5_312 (pn := 46) dX5_dropOldestRecord_43 rfl hr (fun h102 hr => ?_)
      cases hr
      exact mb_vret dX5_dropOldestRecord_46
    · refine mb_aload_n (pn := 15) 0 dX5_dropOldestRecord_14 rfl rfl rfl ?_
      refine gf_X5_19 (pn := 18) dX5_dropOldestRecord_15 rfl ?_
      refine mb_iload_n (pn := 19) 2 dX5_dropOldestRecord_18 rfl rfl rfl ?_
      refine mb_iconst (v := 1) (pn := 20) dX5_dropOldestRecord_19 (by decide) rfl ?_
      refine mb_isub (pn := 21) dX5_dropOldestRecord_20 rfl ?_
      refine mb_aload_n (pn := 22) 0 dX5_dropOldestRecord_21 rfl rfl rfl ?_
      refine gf_X5_19 (pn := 25) dX5_dropOldestRecord_22 rfl ?_
      refine mb_iload_n (pn := 26) 2 dX5_dropOldestRecord_25 rfl rfl rfl ?_
      refine mb_aald13 (pn := 27) dX5_dropOldestRecord_26 rfl hr (fun hr => ?_)
      refine mb_aast13 (pn := 28) dX5_dropOldestRecord_27 rfl hr (fun hr => ?_)
      refine mb_nmh hr (fun h103 hr => ?_)
      refine mb_nmx hr (fun y104 qy104 hr => ?_)
      refine mb_iinc (v := y104) (pn := 31) (lv2 := [(2, .inl y104), (0, mb_F 0 0 0), (1, mb_F 1 av1 0)]) 2 dX5_dropOldestRecord_28 rfl (by rw [qy104]; rfl) (by decide) rfl rfl ?_
      refine mb_goto (tgt := 9) dX5_dropOldestRecord_31 (by decide) ?_
      exact mb_lvs [1, 2, 0] rfl (ih _ _ _ hr)
def F_X5_dropOldestRecord  (h : mb_AH) : Option mb_RS := (mb_gB 0 4 (B_X5_dropOldestRecord_9  mb_fu (h.2.2 (0 : Int32).toNatClampNeg) 1 h))
set_option maxRecDepth 100000 in
set_option maxHeartbeats 4000000 in
theorem C_X5_dropOldestRecord {l : Launch} {G : mb_G} (hst : l.stackTraces = false) (hg : mb_gok G)  {h : mb_AH} {res : mb_RS} (hr : F_X5_dropOldestRecord  h = some res) : mb_Mt l G yX5_dropOldestRecord cX5_dropOldestRecord 3 none 0 [mb_F 0 0 0] h res := by
  refine mb_entry (own := RX5) (lv := [(0, mb_F 0 0 0)]) (by decide +kernel) rfl (Nat.le_of_ble_eq_true rfl) rfl rfl (fun _ => ?_) hst hg
  unfold F_X5_dropOldestRecord at hr
  refine mb_aload_n (pn := 1) 0 dX5_dropOldestRecord_0 rfl rfl rfl ?_
  refine gf_X5_19 (pn := 4) dX5_dropOldestRecord_1 rfl ?_
  refine mb_iconst (v := 0) (pn := 5) dX5_dropOldestRecord_4 (by decide) rfl ?_
  refine mb_aald13 (pn := 6) dX5_dropOldestRecord_5 rfl hr (fun hr => ?_)
  refine mb_astore_n (pn := 7) (lv2 := [(1, mb_F 1 (h.2.2 (0 : Int32).toNatClampNeg) 0), (0, mb_F 0 0 0)]) dX5_dropOldestRecord_6 rfl (by decide) rfl rfl ?_
  refine mb_iconst (v := 1) (pn := 8) dX5_dropOldestRecord_7 (by decide) rfl ?_
  refine mb_istore_n (pn := 9) (lv2 := [(2, .inl 1), (1, mb_F 1 (h.2.2 (0 : Int32).toNatClampNeg) 0), (0, mb_F 0 0 0)]) dX5_dropOldestRecord_8 rfl (by decide) rfl rfl ?_
  exact mb_lvs [2, 1, 0] rfl (T_X5_dropOldestRecord_9 hst hg  mb_fu _ _ _ hr)
set_option maxRecDepth 100000 in
set_option maxHeartbeats 4000000 in
theorem cl_X5_333 {l : Launch} {G : mb_G} {cc : ByteArray} {nL : Nat} {ret : Option FieldType} {d pc pn : Nat} {lv : List (Nat × mb_AV)} {st : List mb_AV} {h : mb_AH} {res : mb_RS} (hst : l.stackTraces = false) (hg : mb_gok G)  {K : mb_AH → Option mb_RS} (hd2 : 0 + 1 ≤ d) (hs4 : st.length ≤ 4) (dg : decode cc pc = .ok (.invokevirtual 333, 3)) (hn : pc + 3 = pn) (hr : mb_cV (F_X5_dropOldestRecord  h) K = some res) (kk : ∀ (h2 : mb_AH), K h2 = some res → mb_Ev l G RX5 cc nL ret d pn lv st h2 res) : mb_Ev l G RX5 cc nL ret d pc lv (mb_F 0 0 0 :: st) h res := mb_kVV (as := []) (n := 0) (d2 := 0) (ci := 5) (fun _ hf => C_X5_dropOldestRecord hst hg hf) (mb_gV wl_X5_333 mi_X5_dropOldestRecord ms_X5_dropOldestRecord mn_X5 mc_X5_dropOldestRecord) (by decide +kernel) rfl rfl rfl hd2 (by decide) hs4 rfl dg hn hr kk
def F_X5_remember  (h : mb_AH) : Option mb_RS := (if (h.1 0 0 0 3) < 4 then (B_X5_remember_12   h) else (mb_cV (F_X5_dropOldestRecord h) fun h103 => (B_X5_remember_12   h103)))
set_option maxRecDepth 100000 in
set_option maxHeartbeats 4000000 in
theorem C_X5_remember {l : Launch} {G : mb_G} (hst : l.stackTraces = false) (hg : mb_gok G)  {h : mb_AH} {res : mb_RS} (hr : F_X5_remember  h = some res) : mb_Mt l G yX5_remember cX5_remember 1 none 3 [mb_F 0 0 0] h res := by
  refine mb_entry (own := RX5) (lv := [(0, mb_F 0 0 0)]) (by decide +kernel) rfl (Nat.le_of_ble_eq_true rfl) rfl rfl (fun _ => ?_) hst hg
  unfold F_X5_remember at hr
  refine mb_aload_n (pn := 1) 0 dX5_remember_0 rfl rfl rfl ?_
  refine gf_X5_312 (pn := 4) dX5_remember_1 rfl ?_
  refine mb_iconst (v := 4) (pn := 5) dX5_remember_4 (by decide) rfl ?_
  refine mb_ic_lt (tgt := 12) (pn := 8) dX5_remember_5 (by decide) rfl hr (fun hr => ?_) (fun hr => ?_)
  · exact mb_lvs [0] rfl (T_X5_remember_12 hst hg  hr)
  · refine mb_aload_n (pn := 9) 0 dX5_remember_8 rfl rfl rfl ?_
    refine cl_X5_333 (pn := 12) hst hg (Nat.le_of_ble_eq_true rfl) (Nat.le_of_ble_eq_true rfl) dX5_remember_9 rfl hr (fun h103 hr => ?_)
    exact mb_lvs [0] rfl (T_X5_remember_12 hst hg  hr)
set_option maxRecDepth 100000 in
set_option maxHeartbeats 4000000 in
theorem cl_X5_48 {l : Launch} {G : mb_G} {cc : ByteArray} {nL : Nat} {ret : Option FieldType} {d pc pn : Nat} {lv : List (Nat × mb_AV)} {st : List mb_AV} {h : mb_AH} {res : mb_RS} (hst : l.stackTraces = false) (hg : mb_gok G)  {K : mb_AH → Option mb_RS} (hd2 : 3 + 1 ≤ d) (hs4 : st.length ≤ 4) (dg : decode cc pc = .ok (.invokevirtual 48, 3)) (hn : pc + 3 = pn) (hr : mb_cV (F_X5_remember  h) K = some res) (kk : ∀ (h2 : mb_AH), K h2 = some res → mb_Ev l G RX5 cc nL ret d pn lv st h2 res) : mb_Ev l G RX5 cc nL ret d pc lv (mb_F 0 0 0 :: st) h res := mb_kVV (as := []) (n := 0) (d2 := 3) (ci := 5) (fun _ hf => C_X5_remember hst hg hf) (mb_gV wl_X5_48 mi_X5_remember ms_X5_remember mn_X5 mc_X5_remember) (by decide +kernel) rfl rfl rfl hd2 (by decide) hs4 rfl dg hn hr kk
set_option maxRecDepth 100000 in
set_option maxHeartbeats 4000000 in
theorem cl_X5_51 {l : Launch} {G : mb_G} {cc : ByteArray} {nL : Nat} {ret : Option FieldType} {d pc pn : Nat} {lv : List (Nat × mb_AV)} {st : List mb_AV} {h : mb_AH} {res : mb_RS} (hst : l.stackTraces = false) (hg : mb_gok G) {a0 : Nat} {K : mb_AH → Option mb_RS} (hd2 : 0 + 1 ≤ d) (hs4 : st.length ≤ 4) (dg : decode cc pc = .ok (.invokevirtual 51, 3)) (hn : pc + 3 = pn) (hr : mb_cV (F_X2_takeLows a0 h) K = some res) (kk : ∀ (h2 : mb_AH), K h2 = some res → mb_Ev l G RX5 cc nL ret d pn lv st h2 res) : mb_Ev l G RX5 cc nL ret d pc lv (mb_F 5 0 0 :: mb_F 1 a0 0 :: st) h res := mb_kVV (as := [mb_F 5 0 0]) (n := 1) (d2 := 0) (ci := 2) (fun _ hf => C_X2_takeLows hst hg hf) (mb_gV wl_X5_51 mi_X2_takeLows ms_X2_takeLows mn_X2 mc_X2_takeLows) (by decide +kernel) rfl rfl rfl hd2 (by decide) hs4 rfl dg hn hr kk
def F_X5_setTable  (h : mb_AH) : Option mb_RS := (mb_cI (F_X3_findFault h) fun y102 h101 => (if y102 = (-1) then (mb_cV (F_X5_remember h101) fun h103 => (mb_cV (F_X2_takeLows 0 h103) fun h104 => (some (.inl (some (.inl (h104.1 1 0 0 5))), h104)))) else (some (.inr "java/lang/IllegalArgumentException", h101))))
set_option maxRecDepth 100000 in
set_option maxHeartbeats 4000000 in
theorem C_X5_setTable {l : Launch} {G : mb_G} (hst : l.stackTraces = false) (hg : mb_gok G)  {h : mb_AH} {res : mb_RS} (hr : F_X5_setTable  h = some res) : mb_Mt l G yX5_setTable cX5_setTable 1 (some .int) 4 [mb_F 0 0 0] h res := by
  refine mb_entry (own := RX5) (lv := [(0, mb_F 0 0 0)]) (by decide +kernel) rfl (Nat.le_of_ble_eq_true rfl) rfl rfl (fun _ => ?_) hst hg
  unfold F_X5_setTable at hr
  refine mb_aload_n (pn := 1) 0 dX5_setTable_0 rfl rfl rfl ?_
  refine gf_X5_33 (pn := 4) dX5_setTable_1 rfl ?_
  refine cl_X5_37 (pn := 7) hst hg (Nat.le_of_ble_eq_true rfl) (Nat.le_of_ble_eq_true rfl) dX5_setTable_4 rfl hr (fun y102 h101 hr => ?_)
  refine mb_iconst (v := (-1)) (pn := 8) dX5_setTable_7 (by decide) rfl ?_
  refine mb_ic_eq (tgt := 21) (pn := 11) dX5_setTable_8 (by decide) rfl hr (fun hr => ?_) (fun hr => ?_)
  · refine mb_aload_n (pn := 22) 0 dX5_setTable_21 rfl rfl rfl ?_
    refine cl_X5_48 (pn := 25) hst hg (Nat.le_of_ble_eq_true rfl) (Nat.le_of_ble_eq_true rfl) dX5_setTable_22 rfl hr (fun h103 hr => ?_)
    refine mb_aload_n (pn := 26) 0 dX5_setTable_25 rfl rfl rfl ?_
    refine gf_X5_10 (pn := 29) dX5_setTable_26 rfl ?_
    refine mb_aload_n (pn := 30) 0 dX5_setTable_29 rfl rfl rfl ?_
    refine gf_X5_33 (pn := 33) dX5_setTable_30 rfl ?_
    refine cl_X5_51 (pn := 36) hst hg (Nat.le_of_ble_eq_true rfl) (Nat.le_of_ble_eq_true rfl) dX5_setTable_33 rfl hr (fun h104 hr => ?_)
    refine mb_aload_n (pn := 37) 0 dX5_setTable_36 rfl rfl rfl ?_
    refine gf_X5_10 (pn := 40) dX5_setTable_37 rfl ?_
    refine gf_X5_55 (pn := 43) dX5_setTable_40 rfl ?_
    cases hr
    exact mb_iret dX5_setTable_43
  · cases hr
    exact mb_throw (ik := 41) (is := 43) (ic := 45) (cls := "java/lang/IllegalArgumentException") (text := "the text has a fault") (names := ["java/lang/RuntimeException", "java/lang/Exception"]) rfl (by decide +kernel) fn_X5_45 (by decide) wc_X5_41 mn_IAE (by decide +kernel) at_X5_45 (Nat.le_of_ble_eq_true rfl) dX5_setTable_11 dX5_setTable_14 dX5_setTable_15 dX5_setTable_17 dX5_setTable_20
set_option maxRecDepth 100000 in
set_option maxHeartbeats 4000000 in
theorem cl_X5_61 {l : Launch} {G : mb_G} {cc : ByteArray} {nL : Nat} {ret : Option FieldType} {d pc pn : Nat} {lv : List (Nat × mb_AV)} {st : List mb_AV} {h : mb_AH} {res : mb_RS} (hst : l.stackTraces = false) (hg : mb_gok G) {a0 : Nat} {x1 : Int32} {K : Int32 → mb_AH → Option mb_RS} (hd2 : 0 + 1 ≤ d) (hs4 : st.length ≤ 4) (dg : decode cc pc = .ok (.invokevirtual 61, 3)) (hn : pc + 3 = pn) (hr : mb_cI (F_X2_lowWater a0 x1 h) K = some res) (kk : ∀ (x : Int32) (h2 : mb_AH), K x h2 = some res → mb_Ev l G RX5 cc nL ret d pn lv (.inl x :: st) h2 res) : mb_Ev l G RX5 cc nL ret d pc lv (.inl x1 :: mb_F 1 a0 0 :: st) h res := mb_kVI (as := [.inl x1]) (n := 1) (d2 := 0) (ci := 2) (fun _ hf => C_X2_lowWater hst hg hf) (mb_gV wl_X5_61 mi_X2_lowWater ms_X2_lowWater mn_X2 mc_X2_lowWater) (by decide +kernel) rfl rfl rfl hd2 (by decide) hs4 rfl dg hn hr kk
def F_X5_low (x1 : Int32) (h : mb_AH) : Option mb_RS := (if 0 ≤ x1 then (mb_cI (F_X2_lowWater 0 x1 h) fun y102 h101 => (some (.inl (some (.inl y102)), h101))) else (some (.inr "java/lang/IllegalArgumentException", h)))
set_option maxRecDepth 100000 in
set_option maxHeartbeats 4000000 in
theorem C_X5_low {l : Launch} {G : mb_G} (hst : l.stackTraces = false) (hg : mb_gok G) {x1 : Int32} {h : mb_AH} {res : mb_RS} (hr : F_X5_low x1 h = some res) : mb_Mt l G yX5_low cX5_low 2 (some .int) 1 [mb_F 0 0 0, .inl x1] h res := by
  refine mb_entry (own := RX5) (lv := [(0, mb_F 0 0 0), (1, .inl x1)]) (by decide +kernel) rfl (Nat.le_of_ble_eq_true rfl) rfl rfl (fun _ => ?_) hst hg
  unfold F_X5_low at hr
  refine mb_iload_n (pn := 1) 1 dX5_low_0 rfl rfl rfl ?_
  refine mb_if_ge (tgt := 14) (pn := 4) dX5_low_1 (by decide) rfl hr (fun hr => ?_) (fun hr => ?_)
  · refine mb_aload_n (pn := 15) 0 dX5_low_14 rfl rfl rfl ?_
    refine gf_X5_10 (pn := 18) dX5_low_15 rfl ?_
    refine mb_iload_n (pn := 19) 1 dX5_low_18 rfl rfl rfl ?_
    refine cl_X5_61 (pn := 22) hst hg (Nat.le_of_ble_eq_true rfl) (Nat.le_of_ble_eq_true rfl) dX5_low_19 rfl hr (fun y102 h101 hr => ?_)
    cases hr
    exact mb_iret dX5_low_22
  · cases hr
    exact mb_throw (ik := 41) (is := 59) (ic := 45) (cls := "java/lang/IllegalArgumentException") (text := "the day is negative") (names := ["java/lang/RuntimeException", "java/lang/Exception"]) rfl (by decide +kernel) fn_X5_45 (by decide) wc_X5_41 mn_IAE (by decide +kernel) at_X5_45 (Nat.le_of_ble_eq_true rfl) dX5_low_4 dX5_low_7 dX5_low_8 dX5_low_10 dX5_low_13
def F_X5_isWithin (x1 : Int32) (x2 : Int32) (x3 : Int32) (h : mb_AH) : Option mb_RS := (if x1 < x2 then (some (.inl (some (.inl 0)), h)) else (if x3 < x1 then (some (.inl (some (.inl 0)), h)) else (some (.inl (some (.inl 1)), h))))
set_option maxRecDepth 100000 in
set_option maxHeartbeats 4000000 in
theorem C_X5_isWithin {l : Launch} {G : mb_G} (hst : l.stackTraces = false) (hg : mb_gok G) {x1 : Int32} {x2 : Int32} {x3 : Int32} {h : mb_AH} {res : mb_RS} (hr : F_X5_isWithin x1 x2 x3 h = some res) : mb_Mt l G yX5_isWithin cX5_isWithin 3 (some .boolean) 0 [.inl x1, .inl x2, .inl x3] h res := by
  refine mb_entry (own := RX5) (lv := [(0, .inl x1), (1, .inl x2), (2, .inl x3)]) (by decide +kernel) rfl (Nat.le_of_ble_eq_true rfl) rfl rfl (fun _ => ?_) hst hg
  unfold F_X5_isWithin at hr
  refine mb_iload_n (pn := 1) 0 dX5_isWithin_0 rfl rfl rfl ?_
  refine mb_iload_n (pn := 2) 1 dX5_isWithin_1 rfl rfl rfl ?_
  refine mb_ic_lt (tgt := 14) (pn := 5) dX5_isWithin_2 (by decide) rfl hr (fun hr => ?_) (fun hr => ?_)
  · refine mb_iconst (v := 0) (pn := 15) dX5_isWithin_14 (by decide) rfl ?_
    cases hr
    exact mb_zret0 dX5_isWithin_15
  · refine mb_iload_n (pn := 6) 0 dX5_isWithin_5 rfl rfl rfl ?_
    refine mb_iload_n (pn := 7) 2 dX5_isWithin_6 rfl rfl rfl ?_
    refine mb_ic_gt (tgt := 14) (pn := 10) dX5_isWithin_7 (by decide) rfl hr (fun hr => ?_) (fun hr => ?_)
    · refine mb_iconst (v := 0) (pn := 15) dX5_isWithin_14 (by decide) rfl ?_
      cases hr
      exact mb_zret0 dX5_isWithin_15
    · refine mb_iconst (v := 1) (pn := 11) dX5_isWithin_10 (by decide) rfl ?_
      refine mb_goto (tgt := 15) dX5_isWithin_11 (by decide) ?_
      cases hr
      exact mb_zret1 dX5_isWithin_15
set_option maxRecDepth 100000 in
set_option maxHeartbeats 4000000 in
theorem cl_X5_65 {l : Launch} {G : mb_G} {cc : ByteArray} {nL : Nat} {ret : Option FieldType} {d pc pn : Nat} {lv : List (Nat × mb_AV)} {st : List mb_AV} {h : mb_AH} {res : mb_RS} (hst : l.stackTraces = false) (hg : mb_gok G) {x1 : Int32} {x2 : Int32} {x3 : Int32} {K : Int32 → mb_AH → Option mb_RS} (hd2 : 0 + 1 ≤ d) (hs4 : st.length ≤ 4) (dg : decode cc pc = .ok (.invokestatic 65, 3)) (hn : pc + 3 = pn) (hr : mb_cI (F_X5_isWithin x1 x2 x3 h) K = some res) (kk : ∀ (x : Int32) (h2 : mb_AH), K x h2 = some res → mb_Ev l G RX5 cc nL ret d pn lv (.inl x :: st) h2 res) : mb_Ev l G RX5 cc nL ret d pc lv (.inl x3 :: .inl x2 :: .inl x1 :: st) h res := mb_kSI (as := [.inl x1, .inl x2, .inl x3]) (n := 3) (d2 := 0) (fun _ hf => C_X5_isWithin hst hg hf) (mb_gS wl_X5_65 mt_X5_isWithin mn_X5 mc_X5_isWithin) (by decide +kernel) rfl hd2 (by decide) hs4 rfl dg hn hr kk
def F_X5_isRate (x1 : Int32) (h : mb_AH) : Option mb_RS := (mb_cI (F_X5_isWithin x1 (0 : Int32) (9999999 : Int32) h) fun y102 h101 => (mb_gZ y102 (some (.inl (some (.inl y102)), h101))))
set_option maxRecDepth 100000 in
set_option maxHeartbeats 4000000 in
theorem C_X5_isRate {l : Launch} {G : mb_G} (hst : l.stackTraces = false) (hg : mb_gok G) {x1 : Int32} {h : mb_AH} {res : mb_RS} (hr : F_X5_isRate x1 h = some res) : mb_Mt l G yX5_isRate cX5_isRate 1 (some .boolean) 1 [.inl x1] h res := by
  refine mb_entry (own := RX5) (lv := [(0, .inl x1)]) (by decide +kernel) rfl (Nat.le_of_ble_eq_true rfl) rfl rfl (fun _ => ?_) hst hg
  unfold F_X5_isRate at hr
  refine mb_iload_n (pn := 1) 0 dX5_isRate_0 rfl rfl rfl ?_
  refine mb_iconst (v := 0) (pn := 2) dX5_isRate_1 (by decide) rfl ?_
  refine mb_ldcw (v := 9999999) (pn := 5) wk_X5_354 dX5_isRate_2 rfl ?_
  refine cl_X5_65 (pn := 8) hst hg (Nat.le_of_ble_eq_true rfl) (Nat.le_of_ble_eq_true rfl) dX5_isRate_5 rfl hr (fun y102 h101 hr => ?_)
  exact mb_zret dX5_isRate_8 hr
set_option maxRecDepth 100000 in
set_option maxHeartbeats 4000000 in
theorem cl_X5_69 {l : Launch} {G : mb_G} {cc : ByteArray} {nL : Nat} {ret : Option FieldType} {d pc pn : Nat} {lv : List (Nat × mb_AV)} {st : List mb_AV} {h : mb_AH} {res : mb_RS} (hst : l.stackTraces = false) (hg : mb_gok G) {x1 : Int32} {K : Int32 → mb_AH → Option mb_RS} (hd2 : 1 + 1 ≤ d) (hs4 : st.length ≤ 4) (dg : decode cc pc = .ok (.invokestatic 69, 3)) (hn : pc + 3 = pn) (hr : mb_cI (F_X5_isRate x1 h) K = some res) (kk : ∀ (x : Int32) (h2 : mb_AH), K x h2 = some res → mb_Ev l G RX5 cc nL ret d pn lv (.inl x :: st) h2 res) : mb_Ev l G RX5 cc nL ret d pc lv (.inl x1 :: st) h res := mb_kSI (as := [.inl x1]) (n := 1) (d2 := 1) (fun _ hf => C_X5_isRate hst hg hf) (mb_gS wl_X5_69 mt_X5_isRate mn_X5 mc_X5_isRate) (by decide +kernel) rfl hd2 (by decide) hs4 rfl dg hn hr kk
set_option maxRecDepth 100000 in
set_option maxHeartbeats 4000000 in
theorem cl_X5_87 {l : Launch} {G : mb_G} {cc : ByteArray} {nL : Nat} {ret : Option FieldType} {d pc pn : Nat} {lv : List (Nat × mb_AV)} {st : List mb_AV} {h : mb_AH} {res : mb_RS} (hst : l.stackTraces = false) (hg : mb_gok G) {a0 : Nat} {b0 : Nat} {x1 : Int32} {x2 : Int32} {x3 : Int32} {x4 : Int32} {K : mb_AH → Option mb_RS} (hd2 : 0 + 1 ≤ d) (hs4 : st.length ≤ 4) (dg : decode cc pc = .ok (.invokevirtual 87, 3)) (hn : pc + 3 = pn) (hr : mb_cV (F_X0_become a0 b0 x1 x2 x3 x4 h) K = some res) (kk : ∀ (h2 : mb_AH), K h2 = some res → mb_Ev l G RX5 cc nL ret d pn lv st h2 res) : mb_Ev l G RX5 cc nL ret d pc lv (.inl x4 :: .inl x3 :: .inl x2 :: .inl x1 :: mb_F 2 a0 b0 :: st) h res := mb_kVV (as := [.inl x1, .inl x2, .inl x3, .inl x4]) (n := 4) (d2 := 0) (ci := 0) (fun _ hf => C_X0_become hst hg hf) (mb_gV wl_X5_87 mi_X0_become ms_X0_become mn_X0 mc_X0_become) (by decide +kernel) rfl rfl rfl hd2 (by decide) hs4 rfl dg hn hr kk
def F_X5_addBerth (x1 : Int32) (x2 : Int32) (x3 : Int32) (x4 : Int32) (h : mb_AH) : Option mb_RS := (mb_cI (F_X5_isWithin x1 (50 : Int32) (900 : Int32) h) fun y102 h101 => (if y102 = 0 then (some (.inr "java/lang/IllegalArgumentException", h101)) else (mb_cI (F_X5_isWithin x2 (30 : Int32) (400 : Int32) h101) fun y104 h103 => (if y104 = 0 then (some (.inr "java/lang/IllegalArgumentException", h103)) else (mb_cI (F_X5_isRate x4 h103) fun y106 h105 => (if y106 = 0 then (some (.inr "java/lang/IllegalArgumentException", h105)) else (if (h105.1 1 0 0 1) < 16 then (mb_cV (F_X5_remember h105) fun h107 => (mb_lI (h107.1 1 0 0 1) fun y108 => (mb_gB y108 16 (mb_cV (F_X0_become 0 y108.toNatClampNeg x1 x2 x3 x4 h107) fun h109 => (mb_up (mb_sI h109 1 0 0 1 (y108 + 1)) fun h110 => (some (.inl (some (.inl y108)), h110))))))) else (some (.inr "java/lang/IllegalStateException", h105)))))))))
set_option maxRecDepth 100000 in
set_option maxHeartbeats 4000000 in
theorem C_X5_addBerth {l : Launch} {G : mb_G} (hst : l.stackTraces = false) (hg : mb_gok G) {x1 : Int32} {x2 : Int32} {x3 : Int32} {x4 : Int32} {h : mb_AH} {res : mb_RS} (hr : F_X5_addBerth x1 x2 x3 x4 h = some res) : mb_Mt l G yX5_addBerth cX5_addBerth 6 (some .int) 4 [mb_F 0 0 0, .inl x1, .inl x2, .inl x3, .inl x4] h res := by
  refine mb_entry (own := RX5) (lv := [(0, mb_F 0 0 0), (1, .inl x1), (2, .inl x2), (3, .inl x3), (4, .inl x4)]) (by decide +kernel) rfl (Nat.le_of_ble_eq_true rfl) rfl rfl (fun _ => ?_) hst hg
  unfold F_X5_addBerth at hr
  refine mb_iload_n (pn := 1) 1 dX5_addBerth_0 rfl rfl rfl ?_
  refine mb_bipush (v := 50) (pn := 3) dX5_addBerth_1 (by decide) rfl ?_
  refine mb_sipush (v := 900) (pn := 6) dX5_addBerth_3 (by decide) rfl ?_
  refine cl_X5_65 (pn := 9) hst hg (Nat.le_of_ble_eq_true rfl) (Nat.le_of_ble_eq_true rfl) dX5_addBerth_6 rfl hr (fun y102 h101 hr => ?_)
  refine mb_if_eq (tgt := 32) (pn := 12) dX5_addBerth_9 (by decide) rfl hr (fun hr => ?_) (fun hr => ?_)
  · cases hr
    exact mb_throw (ik := 41) (is := 73) (ic := 45) (cls := "java/lang/IllegalArgumentException") (text := "depth, length or rate is out of range") (names := ["java/lang/RuntimeException", "java/lang/Exception"]) rfl (by decide +kernel) fn_X5_45 (by decide) wc_X5_41 mn_IAE (by decide +kernel) at_X5_45 (Nat.le_of_ble_eq_true rfl) dX5_addBerth_32 dX5_addBerth_35 dX5_addBerth_36 dX5_addBerth_38 dX5_addBerth_41
  · refine mb_iload_n (pn := 13) 2 dX5_addBerth_12 rfl rfl rfl ?_
    refine mb_bipush (v := 30) (pn := 15) dX5_addBerth_13 (by decide) rfl ?_
    refine mb_sipush (v := 400) (pn := 18) dX5_addBerth_15 (by decide) rfl ?_
    refine cl_X5_65 (pn := 21) hst hg (Nat.le_of_ble_eq_true rfl) (Nat.le_of_ble_eq_true rfl) dX5_addBerth_18 rfl hr (fun y104 h103 hr => ?_)
    refine mb_if_eq (tgt := 32) (pn := 24) dX5_addBerth_21 (by decide) rfl hr (fun hr => ?_) (fun hr => ?_)
    · cases hr
      exact mb_throw (ik := 41) (is := 73) (ic := 45) (cls := "java/lang/IllegalArgumentException") (text := "depth, length or rate is out of range") (names := ["java/lang/RuntimeException", "java/lang/Exception"]) rfl (by decide +kernel) fn_X5_45 (by decide) wc_X5_41 mn_IAE (by decide +kernel) at_X5_45 (Nat.le_of_ble_eq_true rfl) dX5_addBerth_32 dX5_addBerth_35 dX5_addBerth_36 dX5_addBerth_38 dX5_addBerth_41
    · refine mb_iload (pn := 26) 4 dX5_addBerth_24 rfl rfl ?_
      refine cl_X5_69 (pn := 29) hst hg (Nat.le_of_ble_eq_true rfl) (Nat.le_of_ble_eq_true rfl) dX5_addBerth_26 rfl hr (fun y106 h105 hr => ?_)
      refine mb_if_ne (tgt := 42) (pn := 32) dX5_addBerth_29 (by decide) rfl hr (fun hr => ?_) (fun hr => ?_)
      · refine mb_aload_n (pn := 43) 0 dX5_addBerth_42 rfl rfl rfl ?_
        refine gf_X5_10 (pn := 46) dX5_addBerth_43 rfl ?_
        refine gf_X5_75 (pn := 49) dX5_addBerth_46 rfl ?_
        refine mb_bipush (v := 16) (pn := 51) dX5_addBerth_49 (by decide) rfl ?_
        refine mb_ic_lt (tgt := 64) (pn := 54) dX5_addBerth_51 (by decide) rfl hr (fun hr => ?_) (fun hr => ?_)
        · refine mb_aload_n (pn := 65) 0 dX5_addBerth_64 rfl rfl rfl ?_
          refine cl_X5_48 (pn := 68) hst hg (Nat.le_of_ble_eq_true rfl) (Nat.le_of_ble_eq_true rfl) dX5_addBerth_65 rfl hr (fun h107 hr => ?_)
          refine mb_aload_n (pn := 69) 0 dX5_addBerth_68 rfl rfl rfl ?_
          refine gf_X5_10 (pn := 72) dX5_addBerth_69 rfl ?_
          refine gf_X5_75 (pn := 75) dX5_addBerth_72 rfl ?_
          refine mb_nmI hr (fun y108 hr => ?_)
          refine mb_istore (pn := 77) (lv2 := [(5, .inl y108), (0, mb_F 0 0 0), (1, .inl x1), (2, .inl x2), (3, .inl x3), (4, .inl x4)]) dX5_addBerth_75 (by decide) rfl rfl ?_
          refine mb_aload_n (pn := 78) 1 dX5_addBerth_77 rfl rfl rfl ?_
          refine gf_X5_10 (pn := 81) dX5_addBerth_78 rfl ?_
          refine gf_X5_83 (pn := 84) dX5_addBerth_81 rfl ?_
          refine mb_iload (pn := 86) 0 dX5_addBerth_84 rfl rfl ?_
          refine mb_aald10 (pn := 87) dX5_addBerth_86 rfl hr (fun hr => ?_)
          refine mb_iload_n (pn := 88) 2 dX5_addBerth_87 rfl rfl rfl ?_
          refine mb_iload_n (pn := 89) 3 dX5_addBerth_88 rfl rfl rfl ?_
          refine mb_iload_n (pn := 90) 4 dX5_addBerth_89 rfl rfl rfl ?_
          refine mb_iload (pn := 92) 5 dX5_addBerth_90 rfl rfl ?_
          refine cl_X5_87 (pn := 95) hst hg (Nat.le_of_ble_eq_true rfl) (Nat.le_of_ble_eq_true rfl) dX5_addBerth_92 rfl hr (fun h109 hr => ?_)
          refine mb_aload_n (pn := 96) 1 dX5_addBerth_95 rfl rfl rfl ?_
          refine gf_X5_10 (pn := 99) dX5_addBerth_96 rfl ?_
          refine mb_iload (pn := 101) 0 dX5_addBerth_99 rfl rfl ?_
          refine mb_iconst (v := 1) (pn := 102) dX5_addBerth_101 (by decide) rfl ?_
          refine mb_iadd (pn := 103) dX5_addBerth_102 rfl ?_
          refine pf_X5_75 (pn := 106) dX5_addBerth_103 rfl hr (fun h110 hr => ?_)
          refine mb_iload (pn := 108) 0 dX5_addBerth_106 rfl rfl ?_
          cases hr
          exact mb_iret dX5_addBerth_108
        · cases hr
          exact mb_throw (ik := 78) (is := 80) (ic := 82) (cls := "java/lang/IllegalStateException") (text := "there are 16 berths") (names := ["java/lang/RuntimeException", "java/lang/Exception"]) rfl (by decide +kernel) fn_X5_82 (by decide) wc_X5_78 mn_ISE (by decide +kernel) at_X5_82 (Nat.le_of_ble_eq_true rfl) dX5_addBerth_54 dX5_addBerth_57 dX5_addBerth_58 dX5_addBerth_60 dX5_addBerth_63
      · cases hr
        exact mb_throw (ik := 41) (is := 73) (ic := 45) (cls := "java/lang/IllegalArgumentException") (text := "depth, length or rate is out of range") (names := ["java/lang/RuntimeException", "java/lang/Exception"]) rfl (by decide +kernel) fn_X5_45 (by decide) wc_X5_41 mn_IAE (by decide +kernel) at_X5_45 (Nat.le_of_ble_eq_true rfl) dX5_addBerth_32 dX5_addBerth_35 dX5_addBerth_36 dX5_addBerth_38 dX5_addBerth_41
set_option maxRecDepth 100000 in
set_option maxHeartbeats 4000000 in
theorem cl_X5_104 {l : Launch} {G : mb_G} {cc : ByteArray} {nL : Nat} {ret : Option FieldType} {d pc pn : Nat} {lv : List (Nat × mb_AV)} {st : List mb_AV} {h : mb_AH} {res : mb_RS} (hst : l.stackTraces = false) (hg : mb_gok G) {a0 : Nat} {b0 : Nat} {x1 : Int32} {x2 : Int32} {x3 : Int32} {K : mb_AH → Option mb_RS} (hd2 : 2 + 1 ≤ d) (hs4 : st.length ≤ 4) (dg : decode cc pc = .ok (.invokevirtual 104, 3)) (hn : pc + 3 = pn) (hr : mb_cV (F_X1_become a0 b0 x1 x2 x3 h) K = some res) (kk : ∀ (h2 : mb_AH), K h2 = some res → mb_Ev l G RX5 cc nL ret d pn lv st h2 res) : mb_Ev l G RX5 cc nL ret d pc lv (.inl x3 :: .inl x2 :: .inl x1 :: mb_F 3 a0 b0 :: st) h res := mb_kVV (as := [.inl x1, .inl x2, .inl x3]) (n := 3) (d2 := 2) (ci := 1) (fun _ hf => C_X1_become hst hg hf) (mb_gV wl_X5_104 mi_X1_become ms_X1_become mn_X1 mc_X1_become) (by decide +kernel) rfl rfl rfl hd2 (by decide) hs4 rfl dg hn hr kk
def F_X5_addBoat (x1 : Int32) (x2 : Int32) (x3 : Int32) (h : mb_AH) : Option mb_RS := (mb_cI (F_X5_isWithin x1 (30 : Int32) (400 : Int32) h) fun y102 h101 => (if y102 = 0 then (some (.inr "java/lang/IllegalArgumentException", h101)) else (mb_cI (F_X5_isWithin x2 (20 : Int32) (500 : Int32) h101) fun y104 h103 => (if y104 = 0 then (some (.inr "java/lang/IllegalArgumentException", h103)) else (mb_cI (F_X5_isWithin x3 (0 : Int32) (99 : Int32) h103) fun y106 h105 => (if y106 = 0 then (some (.inr "java/lang/IllegalArgumentException", h105)) else (if (h105.1 1 0 0 3) < 20 then (mb_cV (F_X5_remember h105) fun h107 => (mb_lI (h107.1 1 0 0 3) fun y108 => (mb_gB y108 20 (mb_cV (F_X1_become 0 y108.toNatClampNeg x1 x2 x3 h107) fun h109 => (mb_up (mb_sI h109 1 0 0 3 (y108 + 1)) fun h110 => (some (.inl (some (.inl y108)), h110))))))) else (some (.inr "java/lang/IllegalStateException", h105)))))))))
set_option maxRecDepth 100000 in
set_option maxHeartbeats 4000000 in
theorem C_X5_addBoat {l : Launch} {G : mb_G} (hst : l.stackTraces = false) (hg : mb_gok G) {x1 : Int32} {x2 : Int32} {x3 : Int32} {h : mb_AH} {res : mb_RS} (hr : F_X5_addBoat x1 x2 x3 h = some res) : mb_Mt l G yX5_addBoat cX5_addBoat 5 (some .int) 4 [mb_F 0 0 0, .inl x1, .inl x2, .inl x3] h res := by
  refine mb_entry (own := RX5) (lv := [(0, mb_F 0 0 0), (1, .inl x1), (2, .inl x2), (3, .inl x3)]) (by decide +kernel) rfl (Nat.le_of_ble_eq_true rfl) rfl rfl (fun _ => ?_) hst hg
  unfold F_X5_addBoat at hr
  refine mb_iload_n (pn := 1) 1 dX5_addBoat_0 rfl rfl rfl ?_
  refine mb_bipush (v := 30) (pn := 3) dX5_addBoat_1 (by decide) rfl ?_
  refine mb_sipush (v := 400) (pn := 6) dX5_addBoat_3 (by decide) rfl ?_
  refine cl_X5_65 (pn := 9) hst hg (Nat.le_of_ble_eq_true rfl) (Nat.le_of_ble_eq_true rfl) dX5_addBoat_6 rfl hr (fun y102 h101 hr => ?_)
  refine mb_if_eq (tgt := 34) (pn := 12) dX5_addBoat_9 (by decide) rfl hr (fun hr => ?_) (fun hr => ?_)
  · cases hr
    exact mb_throw (ik := 41) (is := 93) (ic := 45) (cls := "java/lang/IllegalArgumentException") (text := "length, draft or bonus is out of range") (names := ["java/lang/RuntimeException", "java/lang/Exception"]) rfl (by decide +kernel) fn_X5_45 (by decide) wc_X5_41 mn_IAE (by decide +kernel) at_X5_45 (Nat.le_of_ble_eq_true rfl) dX5_addBoat_34 dX5_addBoat_37 dX5_addBoat_38 dX5_addBoat_40 dX5_addBoat_43
  · refine mb_iload_n (pn := 13) 2 dX5_addBoat_12 rfl rfl rfl ?_
    refine mb_bipush (v := 20) (pn := 15) dX5_addBoat_13 (by decide) rfl ?_
    refine mb_sipush (v := 500) (pn := 18) dX5_addBoat_15 (by decide) rfl ?_
    refine cl_X5_65 (pn := 21) hst hg (Nat.le_of_ble_eq_true rfl) (Nat.le_of_ble_eq_true rfl) dX5_addBoat_18 rfl hr (fun y104 h103 hr => ?_)
    refine mb_if_eq (tgt := 34) (pn := 24) dX5_addBoat_21 (by decide) rfl hr (fun hr => ?_) (fun hr => ?_)
    · cases hr
      exact mb_throw (ik := 41) (is := 93) (ic := 45) (cls := "java/lang/IllegalArgumentException") (text := "length, draft or bonus is out of range") (names := ["java/lang/RuntimeException", "java/lang/Exception"]) rfl (by decide +kernel) fn_X5_45 (by decide) wc_X5_41 mn_IAE (by decide +kernel) at_X5_45 (Nat.le_of_ble_eq_true rfl) dX5_addBoat_34 dX5_addBoat_37 dX5_addBoat_38 dX5_addBoat_40 dX5_addBoat_43
    · refine mb_iload_n (pn := 25) 3 dX5_addBoat_24 rfl rfl rfl ?_
      refine mb_iconst (v := 0) (pn := 26) dX5_addBoat_25 (by decide) rfl ?_
      refine mb_bipush (v := 99) (pn := 28) dX5_addBoat_26 (by decide) rfl ?_
      refine cl_X5_65 (pn := 31) hst hg (Nat.le_of_ble_eq_true rfl) (Nat.le_of_ble_eq_true rfl) dX5_addBoat_28 rfl hr (fun y106 h105 hr => ?_)
      refine mb_if_ne (tgt := 44) (pn := 34) dX5_addBoat_31 (by decide) rfl hr (fun hr => ?_) (fun hr => ?_)
      · refine mb_aload_n (pn := 45) 0 dX5_addBoat_44 rfl rfl rfl ?_
        refine gf_X5_10 (pn := 48) dX5_addBoat_45 rfl ?_
        refine gf_X5_95 (pn := 51) dX5_addBoat_48 rfl ?_
        refine mb_bipush (v := 20) (pn := 53) dX5_addBoat_51 (by decide) rfl ?_
        refine mb_ic_lt (tgt := 66) (pn := 56) dX5_addBoat_53 (by decide) rfl hr (fun hr => ?_) (fun hr => ?_)
        · refine mb_aload_n (pn := 67) 0 dX5_addBoat_66 rfl rfl rfl ?_
          refine cl_X5_48 (pn := 70) hst hg (Nat.le_of_ble_eq_true rfl) (Nat.le_of_ble_eq_true rfl) dX5_addBoat_67 rfl hr (fun h107 hr => ?_)
          refine mb_aload_n (pn := 71) 0 dX5_addBoat_70 rfl rfl rfl ?_
          refine gf_X5_10 (pn := 74) dX5_addBoat_71 rfl ?_
          refine gf_X5_95 (pn := 77) dX5_addBoat_74 rfl ?_
          refine mb_nmI hr (fun y108 hr => ?_)
          refine mb_istore (pn := 79) (lv2 := [(4, .inl y108), (0, mb_F 0 0 0), (1, .inl x1), (2, .inl x2), (3, .inl x3)]) dX5_addBoat_77 (by decide) rfl rfl ?_
          refine mb_aload_n (pn := 80) 1 dX5_addBoat_79 rfl rfl rfl ?_
          refine gf_X5_10 (pn := 83) dX5_addBoat_80 rfl ?_
          refine gf_X5_100 (pn := 86) dX5_addBoat_83 rfl ?_
          refine mb_iload (pn := 88) 0 dX5_addBoat_86 rfl rfl ?_
          refine mb_aald11 (pn := 89) dX5_addBoat_88 rfl hr (fun hr => ?_)
          refine mb_iload_n (pn := 90) 2 dX5_addBoat_89 rfl rfl rfl ?_
          refine mb_iload_n (pn := 91) 3 dX5_addBoat_90 rfl rfl rfl ?_
          refine mb_iload_n (pn := 92) 4 dX5_addBoat_91 rfl rfl rfl ?_
          refine cl_X5_104 (pn := 95) hst hg (Nat.le_of_ble_eq_true rfl) (Nat.le_of_ble_eq_true rfl) dX5_addBoat_92 rfl hr (fun h109 hr => ?_)
          refine mb_aload_n (pn := 96) 1 dX5_addBoat_95 rfl rfl rfl ?_
          refine gf_X5_10 (pn := 99) dX5_addBoat_96 rfl ?_
          refine mb_iload (pn := 101) 0 dX5_addBoat_99 rfl rfl ?_
          refine mb_iconst (v := 1) (pn := 102) dX5_addBoat_101 (by decide) rfl ?_
          refine mb_iadd (pn := 103) dX5_addBoat_102 rfl ?_
          refine pf_X5_95 (pn := 106) dX5_addBoat_103 rfl hr (fun h110 hr => ?_)
          refine mb_iload (pn := 108) 0 dX5_addBoat_106 rfl rfl ?_
          cases hr
          exact mb_iret dX5_addBoat_108
        · cases hr
          exact mb_throw (ik := 78) (is := 98) (ic := 82) (cls := "java/lang/IllegalStateException") (text := "there are 20 boats") (names := ["java/lang/RuntimeException", "java/lang/Exception"]) rfl (by decide +kernel) fn_X5_82 (by decide) wc_X5_78 mn_ISE (by decide +kernel) at_X5_82 (Nat.le_of_ble_eq_true rfl) dX5_addBoat_56 dX5_addBoat_59 dX5_addBoat_60 dX5_addBoat_62 dX5_addBoat_65
      · cases hr
        exact mb_throw (ik := 41) (is := 93) (ic := 45) (cls := "java/lang/IllegalArgumentException") (text := "length, draft or bonus is out of range") (names := ["java/lang/RuntimeException", "java/lang/Exception"]) rfl (by decide +kernel) fn_X5_45 (by decide) wc_X5_41 mn_IAE (by decide +kernel) at_X5_45 (Nat.le_of_ble_eq_true rfl) dX5_addBoat_34 dX5_addBoat_37 dX5_addBoat_38 dX5_addBoat_40 dX5_addBoat_43
def F_X5_isDayOfYear (x1 : Int32) (h : mb_AH) : Option mb_RS := (mb_cI (F_X5_isWithin x1 (0 : Int32) (359 : Int32) h) fun y102 h101 => (mb_gZ y102 (some (.inl (some (.inl y102)), h101))))
set_option maxRecDepth 100000 in
set_option maxHeartbeats 4000000 in
theorem C_X5_isDayOfYear {l : Launch} {G : mb_G} (hst : l.stackTraces = false) (hg : mb_gok G) {x1 : Int32} {h : mb_AH} {res : mb_RS} (hr : F_X5_isDayOfYear x1 h = some res) : mb_Mt l G yX5_isDayOfYear cX5_isDayOfYear 1 (some .boolean) 1 [.inl x1] h res := by
  refine mb_entry (own := RX5) (lv := [(0, .inl x1)]) (by decide +kernel) rfl (Nat.le_of_ble_eq_true rfl) rfl rfl (fun _ => ?_) hst hg
  unfold F_X5_isDayOfYear at hr
  refine mb_iload_n (pn := 1) 0 dX5_isDayOfYear_0 rfl rfl rfl ?_
  refine mb_iconst (v := 0) (pn := 2) dX5_isDayOfYear_1 (by decide) rfl ?_
  refine mb_sipush (v := 359) (pn := 5) dX5_isDayOfYear_2 (by decide) rfl ?_
  refine cl_X5_65 (pn := 8) hst hg (Nat.le_of_ble_eq_true rfl) (Nat.le_of_ble_eq_true rfl) dX5_isDayOfYear_5 rfl hr (fun y102 h101 hr => ?_)
  exact mb_zret dX5_isDayOfYear_8 hr
set_option maxRecDepth 100000 in
set_option maxHeartbeats 4000000 in
theorem cl_X5_351 {l : Launch} {G : mb_G} {cc : ByteArray} {nL : Nat} {ret : Option FieldType} {d pc pn : Nat} {lv : List (Nat × mb_AV)} {st : List mb_AV} {h : mb_AH} {res : mb_RS} (hst : l.stackTraces = false) (hg : mb_gok G) {x1 : Int32} {K : Int32 → mb_AH → Option mb_RS} (hd2 : 1 + 1 ≤ d) (hs4 : st.length ≤ 4) (dg : decode cc pc = .ok (.invokestatic 351, 3)) (hn : pc + 3 = pn) (hr : mb_cI (F_X5_isDayOfYear x1 h) K = some res) (kk : ∀ (x : Int32) (h2 : mb_AH), K x h2 = some res → mb_Ev l G RX5 cc nL ret d pn lv (.inl x :: st) h2 res) : mb_Ev l G RX5 cc nL ret d pc lv (.inl x1 :: st) h res := mb_kSI (as := [.inl x1]) (n := 1) (d2 := 1) (fun _ hf => C_X5_isDayOfYear hst hg hf) (mb_gS wl_X5_351 mt_X5_isDayOfYear mn_X5 mc_X5_isDayOfYear) (by decide +kernel) rfl hd2 (by decide) hs4 rfl dg hn hr kk
def F_X5_maySet (x1 : Int32) (x2 : Int32) (h : mb_AH) : Option mb_RS := (if x1 = 0 then (mb_cI (F_X5_isWithin x2 (0 : Int32) (100 : Int32) h) fun y102 h101 => (mb_gZ y102 (some (.inl (some (.inl y102)), h101)))) else (if x1 = 1 then (mb_cI (F_X5_isRate x2 h) fun y104 h103 => (mb_gZ y104 (some (.inl (some (.inl y104)), h103)))) else (if x1 = 2 then (mb_cI (F_X5_isDayOfYear x2 h) fun y106 h105 => (if y106 = 0 then (some (.inl (some (.inl 0)), h105)) else (if x2 = (h105.1 1 0 0 10) then (some (.inl (some (.inl 0)), h105)) else (some (.inl (some (.inl 1)), h105))))) else (if x1 = 3 then (mb_cI (F_X5_isDayOfYear x2 h) fun y108 h107 => (if y108 = 0 then (some (.inl (some (.inl 0)), h107)) else (if x2 = (h107.1 1 0 0 9) then (some (.inl (some (.inl 0)), h107)) else (some (.inl (some (.inl 1)), h107))))) else (some (.inl (some (.inl 0)), h))))))
set_option maxRecDepth 100000 in
set_option maxHeartbeats 4000000 in
theorem C_X5_maySet {l : Launch} {G : mb_G} (hst : l.stackTraces = false) (hg : mb_gok G) {x1 : Int32} {x2 : Int32} {h : mb_AH} {res : mb_RS} (hr : F_X5_maySet x1 x2 h = some res) : mb_Mt l G yX5_maySet cX5_maySet 3 (some .boolean) 2 [mb_F 0 0 0, .inl x1, .inl x2] h res := by
  refine mb_entry (own := RX5) (lv := [(0, mb_F 0 0 0), (1, .inl x1), (2, .inl x2)]) (by decide +kernel) rfl (Nat.le_of_ble_eq_true rfl) rfl rfl (fun _ => ?_) hst hg
  unfold F_X5_maySet at hr
  refine mb_iload_n (pn := 1) 1 dX5_maySet_0 rfl rfl rfl ?_
  refine mb_sw1 0 hr (fun hr => ?_) (fun q0 hr => ?_)
  · refine mb_swIn (tgt := 32) (off := 31) dX5_maySet_1 (by decide) (by decide) (by decide) (by decide) ?_
    refine mb_iload_n (pn := 33) 2 dX5_maySet_32 rfl rfl rfl ?_
    refine mb_iconst (v := 0) (pn := 34) dX5_maySet_33 (by decide) rfl ?_
    refine mb_bipush (v := 100) (pn := 36) dX5_maySet_34 (by decide) rfl ?_
    refine cl_X5_65 (pn := 39) hst hg (Nat.le_of_ble_eq_true rfl) (Nat.le_of_ble_eq_true rfl) dX5_maySet_36 rfl hr (fun y102 h101 hr => ?_)
    exact mb_zret dX5_maySet_39 hr
  refine mb_sw1 1 hr (fun hr => ?_) (fun q1 hr => ?_)
  · refine mb_swIn (tgt := 40) (off := 39) dX5_maySet_1 (by decide) (by decide) (by decide) (by decide) ?_
    refine mb_iload_n (pn := 41) 2 dX5_maySet_40 rfl rfl rfl ?_
    refine cl_X5_69 (pn := 44) hst hg (Nat.le_of_ble_eq_true rfl) (Nat.le_of_ble_eq_true rfl) dX5_maySet_41 rfl hr (fun y104 h103 hr => ?_)
    exact mb_zret dX5_maySet_44 hr
  refine mb_sw1 2 hr (fun hr => ?_) (fun q2 hr => ?_)
  · refine mb_swIn (tgt := 45) (off := 44) dX5_maySet_1 (by decide) (by decide) (by decide) (by decide) ?_
    refine mb_iload_n (pn := 46) 2 dX5_maySet_45 rfl rfl rfl ?_
    refine cl_X5_351 (pn := 49) hst hg (Nat.le_of_ble_eq_true rfl) (Nat.le_of_ble_eq_true rfl) dX5_maySet_46 rfl hr (fun y106 h105 hr => ?_)
    refine mb_if_eq (tgt := 67) (pn := 52) dX5_maySet_49 (by decide) rfl hr (fun hr => ?_) (fun hr => ?_)
    · refine mb_iconst (v := 0) (pn := 68) dX5_maySet_67 (by decide) rfl ?_
      cases hr
      exact mb_zret0 dX5_maySet_68
    · refine mb_iload_n (pn := 53) 2 dX5_maySet_52 rfl rfl rfl ?_
      refine mb_aload_n (pn := 54) 0 dX5_maySet_53 rfl rfl rfl ?_
      refine gf_X5_10 (pn := 57) dX5_maySet_54 rfl ?_
      refine gf_X5_127 (pn := 60) dX5_maySet_57 rfl ?_
      refine mb_ic_eq (tgt := 67) (pn := 63) dX5_maySet_60 (by decide) rfl hr (fun hr => ?_) (fun hr => ?_)
      · refine mb_iconst (v := 0) (pn := 68) dX5_maySet_67 (by decide) rfl ?_
        cases hr
        exact mb_zret0 dX5_maySet_68
      · refine mb_iconst (v := 1) (pn := 64) dX5_maySet_63 (by decide) rfl ?_
        refine mb_goto (tgt := 68) dX5_maySet_64 (by decide) ?_
        cases hr
        exact mb_zret1 dX5_maySet_68
  refine mb_sw1 3 hr (fun hr => ?_) (fun q3 hr => ?_)
  · refine mb_swIn (tgt := 69) (off := 68) dX5_maySet_1 (by decide) (by decide) (by decide) (by decide) ?_
    refine mb_iload_n (pn := 70) 2 dX5_maySet_69 rfl rfl rfl ?_
    refine cl_X5_351 (pn := 73) hst hg (Nat.le_of_ble_eq_true rfl) (Nat.le_of_ble_eq_true rfl) dX5_maySet_70 rfl hr (fun y108 h107 hr => ?_)
    refine mb_if_eq (tgt := 91) (pn := 76) dX5_maySet_73 (by decide) rfl hr (fun hr => ?_) (fun hr => ?_)
    · refine mb_iconst (v := 0) (pn := 92) dX5_maySet_91 (by decide) rfl ?_
      cases hr
      exact mb_zret0 dX5_maySet_92
    · refine mb_iload_n (pn := 77) 2 dX5_maySet_76 rfl rfl rfl ?_
      refine mb_aload_n (pn := 78) 0 dX5_maySet_77 rfl rfl rfl ?_
      refine gf_X5_10 (pn := 81) dX5_maySet_78 rfl ?_
      refine gf_X5_124 (pn := 84) dX5_maySet_81 rfl ?_
      refine mb_ic_eq (tgt := 91) (pn := 87) dX5_maySet_84 (by decide) rfl hr (fun hr => ?_) (fun hr => ?_)
      · refine mb_iconst (v := 0) (pn := 92) dX5_maySet_91 (by decide) rfl ?_
        cases hr
        exact mb_zret0 dX5_maySet_92
      · refine mb_iconst (v := 1) (pn := 88) dX5_maySet_87 (by decide) rfl ?_
        refine mb_goto (tgt := 92) dX5_maySet_88 (by decide) ?_
        cases hr
        exact mb_zret1 dX5_maySet_92
  refine mb_swOut (tgt := 93) dX5_maySet_1 (mb_out0_3 q0 q1 q2 q3) (by decide) ?_
  refine mb_iconst (v := 0) (pn := 94) dX5_maySet_93 (by decide) rfl ?_
  cases hr
  exact mb_zret0 dX5_maySet_94
set_option maxRecDepth 100000 in
set_option maxHeartbeats 4000000 in
theorem cl_X5_109 {l : Launch} {G : mb_G} {cc : ByteArray} {nL : Nat} {ret : Option FieldType} {d pc pn : Nat} {lv : List (Nat × mb_AV)} {st : List mb_AV} {h : mb_AH} {res : mb_RS} (hst : l.stackTraces = false) (hg : mb_gok G) {x1 : Int32} {x2 : Int32} {K : Int32 → mb_AH → Option mb_RS} (hd2 : 2 + 1 ≤ d) (hs4 : st.length ≤ 4) (dg : decode cc pc = .ok (.invokevirtual 109, 3)) (hn : pc + 3 = pn) (hr : mb_cI (F_X5_maySet x1 x2 h) K = some res) (kk : ∀ (x : Int32) (h2 : mb_AH), K x h2 = some res → mb_Ev l G RX5 cc nL ret d pn lv (.inl x :: st) h2 res) : mb_Ev l G RX5 cc nL ret d pc lv (.inl x2 :: .inl x1 :: mb_F 0 0 0 :: st) h res := mb_kVI (as := [.inl x1, .inl x2]) (n := 2) (d2 := 2) (ci := 5) (fun _ hf => C_X5_maySet hst hg hf) (mb_gV wl_X5_109 mi_X5_maySet ms_X5_maySet mn_X5 mc_X5_maySet) (by decide +kernel) rfl rfl rfl hd2 (by decide) hs4 rfl dg hn hr kk
set_option maxRecDepth 100000 in
set_option maxHeartbeats 4000000 in
theorem cl_X5_206 {l : Launch} {G : mb_G} {cc : ByteArray} {nL : Nat} {ret : Option FieldType} {d pc pn : Nat} {lv : List (Nat × mb_AV)} {st : List mb_AV} {h : mb_AH} {res : mb_RS} (hst : l.stackTraces = false) (hg : mb_gok G) {a0 : Nat} {x1 : Int32} {K : Int32 → mb_AH → Option mb_RS} (hd2 : 0 + 1 ≤ d) (hs4 : st.length ≤ 4) (dg : decode cc pc = .ok (.invokevirtual 206, 3)) (hn : pc + 3 = pn) (hr : mb_cI (F_X2_countIn a0 x1 h) K = some res) (kk : ∀ (x : Int32) (h2 : mb_AH), K x h2 = some res → mb_Ev l G RX5 cc nL ret d pn lv (.inl x :: st) h2 res) : mb_Ev l G RX5 cc nL ret d pc lv (.inl x1 :: mb_F 1 a0 0 :: st) h res := mb_kVI (as := [.inl x1]) (n := 1) (d2 := 0) (ci := 2) (fun _ hf => C_X2_countIn hst hg hf) (mb_gV wl_X5_206 mi_X2_countIn ms_X2_countIn mn_X2 mc_X2_countIn) (by decide +kernel) rfl rfl rfl hd2 (by decide) hs4 rfl dg hn hr kk
set_option maxRecDepth 100000 in
set_option maxHeartbeats 4000000 in
theorem cl_X5_209 {l : Launch} {G : mb_G} {cc : ByteArray} {nL : Nat} {ret : Option FieldType} {d pc pn : Nat} {lv : List (Nat × mb_AV)} {st : List mb_AV} {h : mb_AH} {res : mb_RS} (hst : l.stackTraces = false) (hg : mb_gok G) {a0 : Nat} {K : Int32 → mb_AH → Option mb_RS} (hd2 : 3 + 1 ≤ d) (hs4 : st.length ≤ 4) (dg : decode cc pc = .ok (.invokevirtual 209, 3)) (hn : pc + 3 = pn) (hr : mb_cI (F_X2_countAground a0 h) K = some res) (kk : ∀ (x : Int32) (h2 : mb_AH), K x h2 = some res → mb_Ev l G RX5 cc nL ret d pn lv (.inl x :: st) h2 res) : mb_Ev l G RX5 cc nL ret d pc lv (mb_F 1 a0 0 :: st) h res := mb_kVI (as := []) (n := 0) (d2 := 3) (ci := 2) (fun _ hf => C_X2_countAground hst hg hf) (mb_gV wl_X5_209 mi_X2_countAground ms_X2_countAground mn_X2 mc_X2_countAground) (by decide +kernel) rfl rfl rfl hd2 (by decide) hs4 rfl dg hn hr kk
def F_X5_info (x1 : Int32) (h : mb_AH) : Option mb_RS := (if x1 = 0 then (some (.inl (some (.inl (h.1 1 0 0 7))), h)) else (if x1 = 1 then (some (.inl (some (.inl (h.1 1 0 0 8))), h)) else (if x1 = 2 then (some (.inl (some (.inl (h.1 1 0 0 9))), h)) else (if x1 = 3 then (some (.inl (some (.inl (h.1 1 0 0 10))), h)) else (if x1 = 4 then (some (.inl (some (.inl (h.1 1 0 0 11))), h)) else (if x1 = 5 then (if (h.1 1 0 0 12) = 0 then (some (.inl (some (.inl 0)), h)) else (some (.inl (some (.inl 1)), h))) else (if x1 = 6 then (some (.inl (some (.inl (h.1 1 0 0 1))), h)) else (if x1 = 7 then (some (.inl (some (.inl (h.1 1 0 0 3))), h)) else (if x1 = 8 then (mb_cI (F_X2_countIn 0 (1 : Int32) h) fun y102 h101 => (some (.inl (some (.inl ((h.1 1 0 0 1) - y102))), h101))) else (if x1 = 9 then (mb_cI (F_X2_countIn 0 (2 : Int32) h) fun y104 h103 => (some (.inl (some (.inl y104)), h103))) else (if x1 = 10 then (mb_cI (F_X2_countIn 0 (3 : Int32) h) fun y106 h105 => (some (.inl (some (.inl y106)), h105))) else (if x1 = 11 then (mb_cI (F_X2_countAground 0 h) fun y108 h107 => (some (.inl (some (.inl y108)), h107))) else (if x1 = 12 then (some (.inl (some (.inl (h.1 1 0 0 6))), h)) else (if x1 = 13 then (some (.inl (some (.inl (h.1 1 0 0 5))), h)) else (some (.inr "java/lang/IllegalArgumentException", h))))))))))))))))
set_option maxRecDepth 100000 in
set_option maxHeartbeats 4000000 in
theorem C_X5_info {l : Launch} {G : mb_G} (hst : l.stackTraces = false) (hg : mb_gok G) {x1 : Int32} {h : mb_AH} {res : mb_RS} (hr : F_X5_info x1 h = some res) : mb_Mt l G yX5_info cX5_info 2 (some .int) 4 [mb_F 0 0 0, .inl x1] h res := by
  refine mb_entry (own := RX5) (lv := [(0, mb_F 0 0 0), (1, .inl x1)]) (by decide +kernel) rfl (Nat.le_of_ble_eq_true rfl) rfl rfl (fun _ => ?_) hst hg
  unfold F_X5_info at hr
  refine mb_iload_n (pn := 1) 1 dX5_info_0 rfl rfl rfl ?_
  refine mb_sw1 0 hr (fun hr => ?_) (fun q0 hr => ?_)
  · refine mb_swIn (tgt := 72) (off := 71) dX5_info_1 (by decide) (by decide) (by decide) (by decide) ?_
    refine mb_aload_n (pn := 73) 0 dX5_info_72 rfl rfl rfl ?_
    refine gf_X5_10 (pn := 76) dX5_info_73 rfl ?_
    refine gf_X5_118 (pn := 79) dX5_info_76 rfl ?_
    cases hr
    exact mb_iret dX5_info_79
  refine mb_sw1 1 hr (fun hr => ?_) (fun q1 hr => ?_)
  · refine mb_swIn (tgt := 80) (off := 79) dX5_info_1 (by decide) (by decide) (by decide) (by decide) ?_
    refine mb_aload_n (pn := 81) 0 dX5_info_80 rfl rfl rfl ?_
    refine gf_X5_10 (pn := 84) dX5_info_81 rfl ?_
    refine gf_X5_121 (pn := 87) dX5_info_84 rfl ?_
    cases hr
    exact mb_iret dX5_info_87
  refine mb_sw1 2 hr (fun hr => ?_) (fun q2 hr => ?_)
  · refine mb_swIn (tgt := 88) (off := 87) dX5_info_1 (by decide) (by decide) (by decide) (by decide) ?_
    refine mb_aload_n (pn := 89) 0 dX5_info_88 rfl rfl rfl ?_
    refine gf_X5_10 (pn := 92) dX5_info_89 rfl ?_
    refine gf_X5_124 (pn := 95) dX5_info_92 rfl ?_
    cases hr
    exact mb_iret dX5_info_95
  refine mb_sw1 3 hr (fun hr => ?_) (fun q3 hr => ?_)
  · refine mb_swIn (tgt := 96) (off := 95) dX5_info_1 (by decide) (by decide) (by decide) (by decide) ?_
    refine mb_aload_n (pn := 97) 0 dX5_info_96 rfl rfl rfl ?_
    refine gf_X5_10 (pn := 100) dX5_info_97 rfl ?_
    refine gf_X5_127 (pn := 103) dX5_info_100 rfl ?_
    cases hr
    exact mb_iret dX5_info_103
  refine mb_sw1 4 hr (fun hr => ?_) (fun q4 hr => ?_)
  · refine mb_swIn (tgt := 104) (off := 103) dX5_info_1 (by decide) (by decide) (by decide) (by decide) ?_
    refine mb_aload_n (pn := 105) 0 dX5_info_104 rfl rfl rfl ?_
    refine gf_X5_10 (pn := 108) dX5_info_105 rfl ?_
    refine gf_X5_200 (pn := 111) dX5_info_108 rfl ?_
    cases hr
    exact mb_iret dX5_info_111
  refine mb_sw1 5 hr (fun hr => ?_) (fun q5 hr => ?_)
  · refine mb_swIn (tgt := 112) (off := 111) dX5_info_1 (by decide) (by decide) (by decide) (by decide) ?_
    refine mb_aload_n (pn := 113) 0 dX5_info_112 rfl rfl rfl ?_
    refine gf_X5_10 (pn := 116) dX5_info_113 rfl ?_
    refine gf_X5_203 (pn := 119) dX5_info_116 rfl ?_
    refine mb_if_eq (tgt := 126) (pn := 122) dX5_info_119 (by decide) rfl hr (fun hr => ?_) (fun hr => ?_)
    · refine mb_iconst (v := 0) (pn := 127) dX5_info_126 (by decide) rfl ?_
      cases hr
      exact mb_iret dX5_info_127
    · refine mb_iconst (v := 1) (pn := 123) dX5_info_122 (by decide) rfl ?_
      refine mb_goto (tgt := 127) dX5_info_123 (by decide) ?_
      cases hr
      exact mb_iret dX5_info_127
  refine mb_sw1 6 hr (fun hr => ?_) (fun q6 hr => ?_)
  · refine mb_swIn (tgt := 128) (off := 127) dX5_info_1 (by decide) (by decide) (by decide) (by decide) ?_
    refine mb_aload_n (pn := 129) 0 dX5_info_128 rfl rfl rfl ?_
    refine gf_X5_10 (pn := 132) dX5_info_129 rfl ?_
    refine gf_X5_75 (pn := 135) dX5_info_132 rfl ?_
    cases hr
    exact mb_iret dX5_info_135
  refine mb_sw1 7 hr (fun hr => ?_) (fun q7 hr => ?_)
  · refine mb_swIn (tgt := 136) (off := 135) dX5_info_1 (by decide) (by decide) (by decide) (by decide) ?_
    refine mb_aload_n (pn := 137) 0 dX5_info_136 rfl rfl rfl ?_
    refine gf_X5_10 (pn := 140) dX5_info_137 rfl ?_
    refine gf_X5_95 (pn := 143) dX5_info_140 rfl ?_
    cases hr
    exact mb_iret dX5_info_143
  refine mb_sw1 8 hr (fun hr => ?_) (fun q8 hr => ?_)
  · refine mb_swIn (tgt := 144) (off := 143) dX5_info_1 (by decide) (by decide) (by decide) (by decide) ?_
    refine mb_aload_n (pn := 145) 0 dX5_info_144 rfl rfl rfl ?_
    refine gf_X5_10 (pn := 148) dX5_info_145 rfl ?_
    refine gf_X5_75 (pn := 151) dX5_info_148 rfl ?_
    refine mb_aload_n (pn := 152) 0 dX5_info_151 rfl rfl rfl ?_
    refine gf_X5_10 (pn := 155) dX5_info_152 rfl ?_
    refine mb_iconst (v := 1) (pn := 156) dX5_info_155 (by decide) rfl ?_
    refine cl_X5_206 (pn := 159) hst hg (Nat.le_of_ble_eq_true rfl) (Nat.le_of_ble_eq_true rfl) dX5_info_156 rfl hr (fun y102 h101 hr => ?_)
    refine mb_isub (pn := 160) dX5_info_159 rfl ?_
    cases hr
    exact mb_iret dX5_info_160
  refine mb_sw1 9 hr (fun hr => ?_) (fun q9 hr => ?_)
  · refine mb_swIn (tgt := 161) (off := 160) dX5_info_1 (by decide) (by decide) (by decide) (by decide) ?_
    refine mb_aload_n (pn := 162) 0 dX5_info_161 rfl rfl rfl ?_
    refine gf_X5_10 (pn := 165) dX5_info_162 rfl ?_
    refine mb_iconst (v := 2) (pn := 166) dX5_info_165 (by decide) rfl ?_
    refine cl_X5_206 (pn := 169) hst hg (Nat.le_of_ble_eq_true rfl) (Nat.le_of_ble_eq_true rfl) dX5_info_166 rfl hr (fun y104 h103 hr => ?_)
    cases hr
    exact mb_iret dX5_info_169
  refine mb_sw1 10 hr (fun hr => ?_) (fun q10 hr => ?_)
  · refine mb_swIn (tgt := 170) (off := 169) dX5_info_1 (by decide) (by decide) (by decide) (by decide) ?_
    refine mb_aload_n (pn := 171) 0 dX5_info_170 rfl rfl rfl ?_
    refine gf_X5_10 (pn := 174) dX5_info_171 rfl ?_
    refine mb_iconst (v := 3) (pn := 175) dX5_info_174 (by decide) rfl ?_
    refine cl_X5_206 (pn := 178) hst hg (Nat.le_of_ble_eq_true rfl) (Nat.le_of_ble_eq_true rfl) dX5_info_175 rfl hr (fun y106 h105 hr => ?_)
    cases hr
    exact mb_iret dX5_info_178
  refine mb_sw1 11 hr (fun hr => ?_) (fun q11 hr => ?_)
  · refine mb_swIn (tgt := 179) (off := 178) dX5_info_1 (by decide) (by decide) (by decide) (by decide) ?_
    refine mb_aload_n (pn := 180) 0 dX5_info_179 rfl rfl rfl ?_
    refine gf_X5_10 (pn := 183) dX5_info_180 rfl ?_
    refine cl_X5_209 (pn := 186) hst hg (Nat.le_of_ble_eq_true rfl) (Nat.le_of_ble_eq_true rfl) dX5_info_183 rfl hr (fun y108 h107 hr => ?_)
    cases hr
    exact mb_iret dX5_info_186
  refine mb_sw1 12 hr (fun hr => ?_) (fun q12 hr => ?_)
  · refine mb_swIn (tgt := 187) (off := 186) dX5_info_1 (by decide) (by decide) (by decide) (by decide) ?_
    refine mb_aload_n (pn := 188) 0 dX5_info_187 rfl rfl rfl ?_
    refine gf_X5_10 (pn := 191) dX5_info_188 rfl ?_
    refine gf_X5_152 (pn := 194) dX5_info_191 rfl ?_
    cases hr
    exact mb_iret dX5_info_194
  refine mb_sw1 13 hr (fun hr => ?_) (fun q13 hr => ?_)
  · refine mb_swIn (tgt := 195) (off := 194) dX5_info_1 (by decide) (by decide) (by decide) (by decide) ?_
    refine mb_aload_n (pn := 196) 0 dX5_info_195 rfl rfl rfl ?_
    refine gf_X5_10 (pn := 199) dX5_info_196 rfl ?_
    refine gf_X5_55 (pn := 202) dX5_info_199 rfl ?_
    cases hr
    exact mb_iret dX5_info_202
  refine mb_swOut (tgt := 203) dX5_info_1 (mb_out0_13 q0 q1 q2 q3 q4 q5 q6 q7 q8 q9 q10 q11 q12 q13) (by decide) ?_
  cases hr
  exact mb_throw (ik := 41) (is := 212) (ic := 45) (cls := "java/lang/IllegalArgumentException") (text := "what is not 0 to 13") (names := ["java/lang/RuntimeException", "java/lang/Exception"]) rfl (by decide +kernel) fn_X5_45 (by decide) wc_X5_41 mn_IAE (by decide +kernel) at_X5_45 (Nat.le_of_ble_eq_true rfl) dX5_info_203 dX5_info_206 dX5_info_207 dX5_info_209 dX5_info_212
set_option maxRecDepth 100000 in
set_option maxHeartbeats 4000000 in
theorem cl_X5_115 {l : Launch} {G : mb_G} {cc : ByteArray} {nL : Nat} {ret : Option FieldType} {d pc pn : Nat} {lv : List (Nat × mb_AV)} {st : List mb_AV} {h : mb_AH} {res : mb_RS} (hst : l.stackTraces = false) (hg : mb_gok G) {x1 : Int32} {K : Int32 → mb_AH → Option mb_RS} (hd2 : 4 + 1 ≤ d) (hs4 : st.length ≤ 4) (dg : decode cc pc = .ok (.invokevirtual 115, 3)) (hn : pc + 3 = pn) (hr : mb_cI (F_X5_info x1 h) K = some res) (kk : ∀ (x : Int32) (h2 : mb_AH), K x h2 = some res → mb_Ev l G RX5 cc nL ret d pn lv (.inl x :: st) h2 res) : mb_Ev l G RX5 cc nL ret d pc lv (.inl x1 :: mb_F 0 0 0 :: st) h res := mb_kVI (as := [.inl x1]) (n := 1) (d2 := 4) (ci := 5) (fun _ hf => C_X5_info hst hg hf) (mb_gV wl_X5_115 mi_X5_info ms_X5_info mn_X5 mc_X5_info) (by decide +kernel) rfl rfl rfl hd2 (by decide) hs4 rfl dg hn hr kk
def F_X5_set (x1 : Int32) (x2 : Int32) (h : mb_AH) : Option mb_RS := (mb_cI (F_X5_maySet x1 x2 h) fun y102 h101 => (if y102 = 0 then (some (.inr "java/lang/IllegalArgumentException", h101)) else (mb_cI (F_X5_info x1 h101) fun y104 h103 => (mb_cV (F_X5_remember h103) fun h105 => (if x1 = 0 then (mb_up (mb_sI h105 1 0 0 7 x2) fun h106 => (some (.inl (some (.inl y104)), h106))) else (if x1 = 1 then (mb_up (mb_sI h105 1 0 0 8 x2) fun h107 => (some (.inl (some (.inl y104)), h107))) else (if x1 = 2 then (mb_up (mb_sI h105 1 0 0 9 x2) fun h108 => (some (.inl (some (.inl y104)), h108))) else (mb_up (mb_sI h105 1 0 0 10 x2) fun h109 => (some (.inl (some (.inl y104)), h109))))))))))
set_option maxRecDepth 100000 in
set_option maxHeartbeats 4000000 in
theorem C_X5_set {l : Launch} {G : mb_G} (hst : l.stackTraces = false) (hg : mb_gok G) {x1 : Int32} {x2 : Int32} {h : mb_AH} {res : mb_RS} (hr : F_X5_set x1 x2 h = some res) : mb_Mt l G yX5_set cX5_set 4 (some .int) 5 [mb_F 0 0 0, .inl x1, .inl x2] h res := by
  refine mb_entry (own := RX5) (lv := [(0, mb_F 0 0 0), (1, .inl x1), (2, .inl x2)]) (by decide +kernel) rfl (Nat.le_of_ble_eq_true rfl) rfl rfl (fun _ => ?_) hst hg
  unfold F_X5_set at hr
  refine mb_aload_n (pn := 1) 0 dX5_set_0 rfl rfl rfl ?_
  refine mb_iload_n (pn := 2) 1 dX5_set_1 rfl rfl rfl ?_
  refine mb_iload_n (pn := 3) 2 dX5_set_2 rfl rfl rfl ?_
  refine cl_X5_109 (pn := 6) hst hg (Nat.le_of_ble_eq_true rfl) (Nat.le_of_ble_eq_true rfl) dX5_set_3 rfl hr (fun y102 h101 hr => ?_)
  refine mb_if_ne (tgt := 19) (pn := 9) dX5_set_6 (by decide) rfl hr (fun hr => ?_) (fun hr => ?_)
  · refine mb_aload_n (pn := 20) 0 dX5_set_19 rfl rfl rfl ?_
    refine mb_iload_n (pn := 21) 1 dX5_set_20 rfl rfl rfl ?_
    refine cl_X5_115 (pn := 24) hst hg (Nat.le_of_ble_eq_true rfl) (Nat.le_of_ble_eq_true rfl) dX5_set_21 rfl hr (fun y104 h103 hr => ?_)
    refine mb_istore_n (pn := 25) (lv2 := [(3, .inl y104), (0, mb_F 0 0 0), (1, .inl x1), (2, .inl x2)]) dX5_set_24 rfl (by decide) rfl rfl ?_
    refine mb_aload_n (pn := 26) 1 dX5_set_25 rfl rfl rfl ?_
    refine cl_X5_48 (pn := 29) hst hg (Nat.le_of_ble_eq_true rfl) (Nat.le_of_ble_eq_true rfl) dX5_set_26 rfl hr (fun h105 hr => ?_)
    refine mb_iload_n (pn := 30) 2 dX5_set_29 rfl rfl rfl ?_
    refine mb_sw1 0 hr (fun hr => ?_) (fun q0 hr => ?_)
    · refine mb_swIn (tgt := 56) (off := 26) dX5_set_30 (by decide) (by decide) (by decide) (by decide) ?_
      refine mb_aload_n (pn := 57) 1 dX5_set_56 rfl rfl rfl ?_
      refine gf_X5_10 (pn := 60) dX5_set_57 rfl ?_
      refine mb_iload_n (pn := 61) 3 dX5_set_60 rfl rfl rfl ?_
      refine pf_X5_118 (pn := 64) dX5_set_61 rfl hr (fun h106 hr => ?_)
      refine mb_goto (tgt := 97) dX5_set_64 (by decide) ?_
      refine mb_iload_n (pn := 98) 0 dX5_set_97 rfl rfl rfl ?_
      cases hr
      exact mb_iret dX5_set_98
    refine mb_sw1 1 hr (fun hr => ?_) (fun q1 hr => ?_)
    · refine mb_swIn (tgt := 67) (off := 37) dX5_set_30 (by decide) (by decide) (by decide) (by decide) ?_
      refine mb_aload_n (pn := 68) 1 dX5_set_67 rfl rfl rfl ?_
      refine gf_X5_10 (pn := 71) dX5_set_68 rfl ?_
      refine mb_iload_n (pn := 72) 3 dX5_set_71 rfl rfl rfl ?_
      refine pf_X5_121 (pn := 75) dX5_set_72 rfl hr (fun h107 hr => ?_)
      refine mb_goto (tgt := 97) dX5_set_75 (by decide) ?_
      refine mb_iload_n (pn := 98) 0 dX5_set_97 rfl rfl rfl ?_
      cases hr
      exact mb_iret dX5_set_98
    refine mb_sw1 2 hr (fun hr => ?_) (fun q2 hr => ?_)
    · refine mb_swIn (tgt := 78) (off := 48) dX5_set_30 (by decide) (by decide) (by decide) (by decide) ?_
      refine mb_aload_n (pn := 79) 1 dX5_set_78 rfl rfl rfl ?_
      refine gf_X5_10 (pn := 82) dX5_set_79 rfl ?_
      refine mb_iload_n (pn := 83) 3 dX5_set_82 rfl rfl rfl ?_
      refine pf_X5_124 (pn := 86) dX5_set_83 rfl hr (fun h108 hr => ?_)
      refine mb_goto (tgt := 97) dX5_set_86 (by decide) ?_
      refine mb_iload_n (pn := 98) 0 dX5_set_97 rfl rfl rfl ?_
      cases hr
      exact mb_iret dX5_set_98
    refine mb_swOut (tgt := 89) dX5_set_30 (mb_out0_2 q0 q1 q2) (by decide) ?_
    refine mb_aload_n (pn := 90) 1 dX5_set_89 rfl rfl rfl ?_
    refine gf_X5_10 (pn := 93) dX5_set_90 rfl ?_
    refine mb_iload_n (pn := 94) 3 dX5_set_93 rfl rfl rfl ?_
    refine pf_X5_127 (pn := 97) dX5_set_94 rfl hr (fun h109 hr => ?_)
    refine mb_iload_n (pn := 98) 0 dX5_set_97 rfl rfl rfl ?_
    cases hr
    exact mb_iret dX5_set_98
  · cases hr
    exact mb_throw (ik := 41) (is := 113) (ic := 45) (cls := "java/lang/IllegalArgumentException") (text := "what or value is out of range, or both days would be the same") (names := ["java/lang/RuntimeException", "java/lang/Exception"]) rfl (by decide +kernel) fn_X5_45 (by decide) wc_X5_41 mn_IAE (by decide +kernel) at_X5_45 (Nat.le_of_ble_eq_true rfl) dX5_set_9 dX5_set_12 dX5_set_13 dX5_set_15 dX5_set_18
def F_X5_checkBerth (x1 : Int32) (h : mb_AH) : Option mb_RS := (if x1 < 0 then (some (.inr "java/lang/IndexOutOfBoundsException", h)) else (if x1 < (h.1 1 0 0 1) then (some (.inl none, h)) else (some (.inr "java/lang/IndexOutOfBoundsException", h))))
set_option maxRecDepth 100000 in
set_option maxHeartbeats 4000000 in
theorem C_X5_checkBerth {l : Launch} {G : mb_G} (hst : l.stackTraces = false) (hg : mb_gok G) {x1 : Int32} {h : mb_AH} {res : mb_RS} (hr : F_X5_checkBerth x1 h = some res) : mb_Mt l G yX5_checkBerth cX5_checkBerth 2 none 0 [mb_F 0 0 0, .inl x1] h res := by
  refine mb_entry (own := RX5) (lv := [(0, mb_F 0 0 0), (1, .inl x1)]) (by decide +kernel) rfl (Nat.le_of_ble_eq_true rfl) rfl rfl (fun _ => ?_) hst hg
  unfold F_X5_checkBerth at hr
  refine mb_iload_n (pn := 1) 1 dX5_checkBerth_0 rfl rfl rfl ?_
  refine mb_if_lt (tgt := 15) (pn := 4) dX5_checkBerth_1 (by decide) rfl hr (fun hr => ?_) (fun hr => ?_)
  · cases hr
    exact mb_throwW (ik := 342) (is := 344) (ic := 346) (cls := "java/lang/IndexOutOfBoundsException") (text := "there is no such berth") (names := ["java/lang/RuntimeException", "java/lang/Exception"]) rfl (by decide +kernel) fn_X5_346 (by decide) wc_X5_342 mn_IOE (by decide +kernel) at_X5_346 (Nat.le_of_ble_eq_true rfl) dX5_checkBerth_15 dX5_checkBerth_18 dX5_checkBerth_19 dX5_checkBerth_22 dX5_checkBerth_25
  · refine mb_iload_n (pn := 5) 1 dX5_checkBerth_4 rfl rfl rfl ?_
    refine mb_aload_n (pn := 6) 0 dX5_checkBerth_5 rfl rfl rfl ?_
    refine gf_X5_10 (pn := 9) dX5_checkBerth_6 rfl ?_
    refine gf_X5_75 (pn := 12) dX5_checkBerth_9 rfl ?_
    refine mb_ic_lt (tgt := 26) (pn := 15) dX5_checkBerth_12 (by decide) rfl hr (fun hr => ?_) (fun hr => ?_)
    · cases hr
      exact mb_vret dX5_checkBerth_26
    · cases hr
      exact mb_throwW (ik := 342) (is := 344) (ic := 346) (cls := "java/lang/IndexOutOfBoundsException") (text := "there is no such berth") (names := ["java/lang/RuntimeException", "java/lang/Exception"]) rfl (by decide +kernel) fn_X5_346 (by decide) wc_X5_342 mn_IOE (by decide +kernel) at_X5_346 (Nat.le_of_ble_eq_true rfl) dX5_checkBerth_15 dX5_checkBerth_18 dX5_checkBerth_19 dX5_checkBerth_22 dX5_checkBerth_25
set_option maxRecDepth 100000 in
set_option maxHeartbeats 4000000 in
theorem cl_X5_130 {l : Launch} {G : mb_G} {cc : ByteArray} {nL : Nat} {ret : Option FieldType} {d pc pn : Nat} {lv : List (Nat × mb_AV)} {st : List mb_AV} {h : mb_AH} {res : mb_RS} (hst : l.stackTraces = false) (hg : mb_gok G) {x1 : Int32} {K : mb_AH → Option mb_RS} (hd2 : 0 + 1 ≤ d) (hs4 : st.length ≤ 4) (dg : decode cc pc = .ok (.invokevirtual 130, 3)) (hn : pc + 3 = pn) (hr : mb_cV (F_X5_checkBerth x1 h) K = some res) (kk : ∀ (h2 : mb_AH), K h2 = some res → mb_Ev l G RX5 cc nL ret d pn lv st h2 res) : mb_Ev l G RX5 cc nL ret d pc lv (.inl x1 :: mb_F 0 0 0 :: st) h res := mb_kVV (as := [.inl x1]) (n := 1) (d2 := 0) (ci := 5) (fun _ hf => C_X5_checkBerth hst hg hf) (mb_gV wl_X5_130 mi_X5_checkBerth ms_X5_checkBerth mn_X5 mc_X5_checkBerth) (by decide +kernel) rfl rfl rfl hd2 (by decide) hs4 rfl dg hn hr kk
def F_X5_setRate (x1 : Int32) (x2 : Int32) (h : mb_AH) : Option mb_RS := (mb_cV (F_X5_checkBerth x1 h) fun h101 => (mb_cI (F_X5_isRate x2 h101) fun y103 h102 => (if y103 = 0 then (some (.inr "java/lang/IllegalArgumentException", h102)) else (mb_cV (F_X5_remember h102) fun h104 => (mb_gB x1 16 (mb_lI (h104.1 2 0 x1.toNatClampNeg 3) fun y105 => (mb_gB x1 16 (mb_up (mb_sI h104 2 0 x1.toNatClampNeg 3 x2) fun h106 => (some (.inl (some (.inl y105)), h106))))))))))
set_option maxRecDepth 100000 in
set_option maxHeartbeats 4000000 in
theorem C_X5_setRate {l : Launch} {G : mb_G} (hst : l.stackTraces = false) (hg : mb_gok G) {x1 : Int32} {x2 : Int32} {h : mb_AH} {res : mb_RS} (hr : F_X5_setRate x1 x2 h = some res) : mb_Mt l G yX5_setRate cX5_setRate 4 (some .int) 4 [mb_F 0 0 0, .inl x1, .inl x2] h res := by
  refine mb_entry (own := RX5) (lv := [(0, mb_F 0 0 0), (1, .inl x1), (2, .inl x2)]) (by decide +kernel) rfl (Nat.le_of_ble_eq_true rfl) rfl rfl (fun _ => ?_) hst hg
  unfold F_X5_setRate at hr
  refine mb_aload_n (pn := 1) 0 dX5_setRate_0 rfl rfl rfl ?_
  refine mb_iload_n (pn := 2) 1 dX5_setRate_1 rfl rfl rfl ?_
  refine cl_X5_130 (pn := 5) hst hg (Nat.le_of_ble_eq_true rfl) (Nat.le_of_ble_eq_true rfl) dX5_setRate_2 rfl hr (fun h101 hr => ?_)
  refine mb_iload_n (pn := 6) 2 dX5_setRate_5 rfl rfl rfl ?_
  refine cl_X5_69 (pn := 9) hst hg (Nat.le_of_ble_eq_true rfl) (Nat.le_of_ble_eq_true rfl) dX5_setRate_6 rfl hr (fun y103 h102 hr => ?_)
  refine mb_if_ne (tgt := 22) (pn := 12) dX5_setRate_9 (by decide) rfl hr (fun hr => ?_) (fun hr => ?_)
  · refine mb_aload_n (pn := 23) 0 dX5_setRate_22 rfl rfl rfl ?_
    refine cl_X5_48 (pn := 26) hst hg (Nat.le_of_ble_eq_true rfl) (Nat.le_of_ble_eq_true rfl) dX5_setRate_23 rfl hr (fun h104 hr => ?_)
    refine mb_aload_n (pn := 27) 0 dX5_setRate_26 rfl rfl rfl ?_
    refine gf_X5_10 (pn := 30) dX5_setRate_27 rfl ?_
    refine gf_X5_83 (pn := 33) dX5_setRate_30 rfl ?_
    refine mb_iload_n (pn := 34) 1 dX5_setRate_33 rfl rfl rfl ?_
    refine mb_aald10 (pn := 35) dX5_setRate_34 rfl hr (fun hr => ?_)
    refine gf_X5_136 (pn := 38) dX5_setRate_35 rfl ?_
    refine mb_nmI hr (fun y105 hr => ?_)
    refine mb_istore_n (pn := 39) (lv2 := [(3, .inl y105), (0, mb_F 0 0 0), (1, .inl x1), (2, .inl x2)]) dX5_setRate_38 rfl (by decide) rfl rfl ?_
    refine mb_aload_n (pn := 40) 1 dX5_setRate_39 rfl rfl rfl ?_
    refine gf_X5_10 (pn := 43) dX5_setRate_40 rfl ?_
    refine gf_X5_83 (pn := 46) dX5_setRate_43 rfl ?_
    refine mb_iload_n (pn := 47) 2 dX5_setRate_46 rfl rfl rfl ?_
    refine mb_aald10 (pn := 48) dX5_setRate_47 rfl hr (fun hr => ?_)
    refine mb_iload_n (pn := 49) 3 dX5_setRate_48 rfl rfl rfl ?_
    refine pf_X5_136 (pn := 52) dX5_setRate_49 rfl hr (fun h106 hr => ?_)
    refine mb_iload_n (pn := 53) 0 dX5_setRate_52 rfl rfl rfl ?_
    cases hr
    exact mb_iret dX5_setRate_53
  · cases hr
    exact mb_throw (ik := 41) (is := 134) (ic := 45) (cls := "java/lang/IllegalArgumentException") (text := "the rate is out of range") (names := ["java/lang/RuntimeException", "java/lang/Exception"]) rfl (by decide +kernel) fn_X5_45 (by decide) wc_X5_41 mn_IAE (by decide +kernel) at_X5_45 (Nat.le_of_ble_eq_true rfl) dX5_setRate_12 dX5_setRate_15 dX5_setRate_16 dX5_setRate_18 dX5_setRate_21
set_option maxRecDepth 100000 in
set_option maxHeartbeats 4000000 in
theorem cl_X5_149 {l : Launch} {G : mb_G} {cc : ByteArray} {nL : Nat} {ret : Option FieldType} {d pc pn : Nat} {lv : List (Nat × mb_AV)} {st : List mb_AV} {h : mb_AH} {res : mb_RS} (hst : l.stackTraces = false) (hg : mb_gok G) {a0 : Nat} {x1 : Int32} {K : Int32 → mb_AH → Option mb_RS} (hd2 : 0 + 1 ≤ d) (hs4 : st.length ≤ 4) (dg : decode cc pc = .ok (.invokevirtual 149, 3)) (hn : pc + 3 = pn) (hr : mb_cI (F_X2_boatIn a0 x1 h) K = some res) (kk : ∀ (x : Int32) (h2 : mb_AH), K x h2 = some res → mb_Ev l G RX5 cc nL ret d pn lv (.inl x :: st) h2 res) : mb_Ev l G RX5 cc nL ret d pc lv (.inl x1 :: mb_F 1 a0 0 :: st) h res := mb_kVI (as := [.inl x1]) (n := 1) (d2 := 0) (ci := 2) (fun _ hf => C_X2_boatIn hst hg hf) (mb_gV wl_X5_149 mi_X2_boatIn ms_X2_boatIn mn_X2 mc_X2_boatIn) (by decide +kernel) rfl rfl rfl hd2 (by decide) hs4 rfl dg hn hr kk
set_option maxRecDepth 100000 in
set_option maxHeartbeats 4000000 in
theorem cl_X5_155 {l : Launch} {G : mb_G} {cc : ByteArray} {nL : Nat} {ret : Option FieldType} {d pc pn : Nat} {lv : List (Nat × mb_AV)} {st : List mb_AV} {h : mb_AH} {res : mb_RS} (hst : l.stackTraces = false) (hg : mb_gok G) {a0 : Nat} {a1 : Nat} {b1 : Nat} {K : Int32 → mb_AH → Option mb_RS} (hd2 : 2 + 1 ≤ d) (hs4 : st.length ≤ 4) (dg : decode cc pc = .ok (.invokevirtual 155, 3)) (hn : pc + 3 = pn) (hr : mb_cI (F_X2_countFitting a0 a1 b1 h) K = some res) (kk : ∀ (x : Int32) (h2 : mb_AH), K x h2 = some res → mb_Ev l G RX5 cc nL ret d pn lv (.inl x :: st) h2 res) : mb_Ev l G RX5 cc nL ret d pc lv (mb_F 2 a1 b1 :: mb_F 1 a0 0 :: st) h res := mb_kVI (as := [mb_F 2 a1 b1]) (n := 1) (d2 := 2) (ci := 2) (fun _ hf => C_X2_countFitting hst hg hf) (mb_gV wl_X5_155 mi_X2_countFitting ms_X2_countFitting mn_X2 mc_X2_countFitting) (by decide +kernel) rfl rfl rfl hd2 (by decide) hs4 rfl dg hn hr kk
def F_X5_berth (x1 : Int32) (x2 : Int32) (h : mb_AH) : Option mb_RS := (mb_cV (F_X5_checkBerth x1 h) fun h101 => (mb_gB x1 16 (if x2 = 0 then (some (.inl (some (.inl (h101.1 2 0 x1.toNatClampNeg 0))), h101)) else (if x2 = 1 then (some (.inl (some (.inl (h101.1 2 0 x1.toNatClampNeg 1))), h101)) else (if x2 = 2 then (if (h101.1 2 0 x1.toNatClampNeg 2) = 0 then (some (.inl (some (.inl 0)), h101)) else (some (.inl (some (.inl 1)), h101))) else (if x2 = 3 then (some (.inl (some (.inl (h101.1 2 0 x1.toNatClampNeg 3))), h101)) else (if x2 = 4 then (mb_cI (F_X2_boatIn 0 x1 h101) fun y103 h102 => (some (.inl (some (.inl y103)), h102))) else (if x2 = 5 then (some (.inl (some (.inl ((h101.1 2 0 x1.toNatClampNeg 0) + (h101.1 1 0 0 6)))), h101)) else (if x2 = 6 then (mb_cI (F_X2_countFitting 0 0 x1.toNatClampNeg h101) fun y105 h104 => (some (.inl (some (.inl y105)), h104))) else (some (.inr "java/lang/IllegalArgumentException", h101)))))))))))
set_option maxRecDepth 100000 in
set_option maxHeartbeats 4000000 in
theorem C_X5_berth {l : Launch} {G : mb_G} (hst : l.stackTraces = false) (hg : mb_gok G) {x1 : Int32} {x2 : Int32} {h : mb_AH} {res : mb_RS} (hr : F_X5_berth x1 x2 h = some res) : mb_Mt l G yX5_berth cX5_berth 4 (some .int) 3 [mb_F 0 0 0, .inl x1, .inl x2] h res := by
  refine mb_entry (own := RX5) (lv := [(0, mb_F 0 0 0), (1, .inl x1), (2, .inl x2)]) (by decide +kernel) rfl (Nat.le_of_ble_eq_true rfl) rfl rfl (fun _ => ?_) hst hg
  unfold F_X5_berth at hr
  refine mb_aload_n (pn := 1) 0 dX5_berth_0 rfl rfl rfl ?_
  refine mb_iload_n (pn := 2) 1 dX5_berth_1 rfl rfl rfl ?_
  refine cl_X5_130 (pn := 5) hst hg (Nat.le_of_ble_eq_true rfl) (Nat.le_of_ble_eq_true rfl) dX5_berth_2 rfl hr (fun h101 hr => ?_)
  refine mb_aload_n (pn := 6) 0 dX5_berth_5 rfl rfl rfl ?_
  refine gf_X5_10 (pn := 9) dX5_berth_6 rfl ?_
  refine gf_X5_83 (pn := 12) dX5_berth_9 rfl ?_
  refine mb_iload_n (pn := 13) 1 dX5_berth_12 rfl rfl rfl ?_
  refine mb_aald10 (pn := 14) dX5_berth_13 rfl hr (fun hr => ?_)
  refine mb_astore_n (pn := 15) (lv2 := [(3, mb_F 2 0 x1.toNatClampNeg), (0, mb_F 0 0 0), (1, .inl x1), (2, .inl x2)]) dX5_berth_14 rfl (by decide) rfl rfl ?_
  refine mb_iload_n (pn := 16) 3 dX5_berth_15 rfl rfl rfl ?_
  refine mb_sw1 0 hr (fun hr => ?_) (fun q0 hr => ?_)
  · refine mb_swIn (tgt := 60) (off := 44) dX5_berth_16 (by decide) (by decide) (by decide) (by decide) ?_
    refine mb_aload_n (pn := 61) 0 dX5_berth_60 rfl rfl rfl ?_
    refine gf_X5_139 (pn := 64) dX5_berth_61 rfl ?_
    cases hr
    exact mb_iret dX5_berth_64
  refine mb_sw1 1 hr (fun hr => ?_) (fun q1 hr => ?_)
  · refine mb_swIn (tgt := 65) (off := 49) dX5_berth_16 (by decide) (by decide) (by decide) (by decide) ?_
    refine mb_aload_n (pn := 66) 0 dX5_berth_65 rfl rfl rfl ?_
    refine gf_X5_142 (pn := 69) dX5_berth_66 rfl ?_
    cases hr
    exact mb_iret dX5_berth_69
  refine mb_sw1 2 hr (fun hr => ?_) (fun q2 hr => ?_)
  · refine mb_swIn (tgt := 70) (off := 54) dX5_berth_16 (by decide) (by decide) (by decide) (by decide) ?_
    refine mb_aload_n (pn := 71) 0 dX5_berth_70 rfl rfl rfl ?_
    refine gf_X5_145 (pn := 74) dX5_berth_71 rfl ?_
    refine mb_if_eq (tgt := 81) (pn := 77) dX5_berth_74 (by decide) rfl hr (fun hr => ?_) (fun hr => ?_)
    · refine mb_iconst (v := 0) (pn := 82) dX5_berth_81 (by decide) rfl ?_
      cases hr
      exact mb_iret dX5_berth_82
    · refine mb_iconst (v := 1) (pn := 78) dX5_berth_77 (by decide) rfl ?_
      refine mb_goto (tgt := 82) dX5_berth_78 (by decide) ?_
      cases hr
      exact mb_iret dX5_berth_82
  refine mb_sw1 3 hr (fun hr => ?_) (fun q3 hr => ?_)
  · refine mb_swIn (tgt := 83) (off := 67) dX5_berth_16 (by decide) (by decide) (by decide) (by decide) ?_
    refine mb_aload_n (pn := 84) 0 dX5_berth_83 rfl rfl rfl ?_
    refine gf_X5_136 (pn := 87) dX5_berth_84 rfl ?_
    cases hr
    exact mb_iret dX5_berth_87
  refine mb_sw1 4 hr (fun hr => ?_) (fun q4 hr => ?_)
  · refine mb_swIn (tgt := 88) (off := 72) dX5_berth_16 (by decide) (by decide) (by decide) (by decide) ?_
    refine mb_aload_n (pn := 89) 1 dX5_berth_88 rfl rfl rfl ?_
    refine gf_X5_10 (pn := 92) dX5_berth_89 rfl ?_
    refine mb_iload_n (pn := 93) 2 dX5_berth_92 rfl rfl rfl ?_
    refine cl_X5_149 (pn := 96) hst hg (Nat.le_of_ble_eq_true rfl) (Nat.le_of_ble_eq_true rfl) dX5_berth_93 rfl hr (fun y103 h102 hr => ?_)
    cases hr
    exact mb_iret dX5_berth_96
  refine mb_sw1 5 hr (fun hr => ?_) (fun q5 hr => ?_)
  · refine mb_swIn (tgt := 97) (off := 81) dX5_berth_16 (by decide) (by decide) (by decide) (by decide) ?_
    refine mb_aload_n (pn := 98) 0 dX5_berth_97 rfl rfl rfl ?_
    refine gf_X5_139 (pn := 101) dX5_berth_98 rfl ?_
    refine mb_aload_n (pn := 102) 1 dX5_berth_101 rfl rfl rfl ?_
    refine gf_X5_10 (pn := 105) dX5_berth_102 rfl ?_
    refine gf_X5_152 (pn := 108) dX5_berth_105 rfl ?_
    refine mb_iadd (pn := 109) dX5_berth_108 rfl ?_
    cases hr
    exact mb_iret dX5_berth_109
  refine mb_sw1 6 hr (fun hr => ?_) (fun q6 hr => ?_)
  · refine mb_swIn (tgt := 110) (off := 94) dX5_berth_16 (by decide) (by decide) (by decide) (by decide) ?_
    refine mb_aload_n (pn := 111) 1 dX5_berth_110 rfl rfl rfl ?_
    refine gf_X5_10 (pn := 114) dX5_berth_111 rfl ?_
    refine mb_aload_n (pn := 115) 0 dX5_berth_114 rfl rfl rfl ?_
    refine cl_X5_155 (pn := 118) hst hg (Nat.le_of_ble_eq_true rfl) (Nat.le_of_ble_eq_true rfl) dX5_berth_115 rfl hr (fun y105 h104 hr => ?_)
    cases hr
    exact mb_iret dX5_berth_118
  refine mb_swOut (tgt := 119) dX5_berth_16 (mb_out0_6 q0 q1 q2 q3 q4 q5 q6) (by decide) ?_
  cases hr
  exact mb_throw (ik := 41) (is := 159) (ic := 45) (cls := "java/lang/IllegalArgumentException") (text := "what is not 0 to 6") (names := ["java/lang/RuntimeException", "java/lang/Exception"]) rfl (by decide +kernel) fn_X5_45 (by decide) wc_X5_41 mn_IAE (by decide +kernel) at_X5_45 (Nat.le_of_ble_eq_true rfl) dX5_berth_119 dX5_berth_122 dX5_berth_123 dX5_berth_125 dX5_berth_128
def F_X5_checkBoat (x1 : Int32) (h : mb_AH) : Option mb_RS := (if x1 < 0 then (some (.inr "java/lang/IndexOutOfBoundsException", h)) else (if x1 < (h.1 1 0 0 3) then (some (.inl none, h)) else (some (.inr "java/lang/IndexOutOfBoundsException", h))))
set_option maxRecDepth 100000 in
set_option maxHeartbeats 4000000 in
theorem C_X5_checkBoat {l : Launch} {G : mb_G} (hst : l.stackTraces = false) (hg : mb_gok G) {x1 : Int32} {h : mb_AH} {res : mb_RS} (hr : F_X5_checkBoat x1 h = some res) : mb_Mt l G yX5_checkBoat cX5_checkBoat 2 none 0 [mb_F 0 0 0, .inl x1] h res := by
  refine mb_entry (own := RX5) (lv := [(0, mb_F 0 0 0), (1, .inl x1)]) (by decide +kernel) rfl (Nat.le_of_ble_eq_true rfl) rfl rfl (fun _ => ?_) hst hg
  unfold F_X5_checkBoat at hr
  refine mb_iload_n (pn := 1) 1 dX5_checkBoat_0 rfl rfl rfl ?_
  refine mb_if_lt (tgt := 15) (pn := 4) dX5_checkBoat_1 (by decide) rfl hr (fun hr => ?_) (fun hr => ?_)
  · cases hr
    exact mb_throwW (ik := 342) (is := 347) (ic := 346) (cls := "java/lang/IndexOutOfBoundsException") (text := "there is no such boat") (names := ["java/lang/RuntimeException", "java/lang/Exception"]) rfl (by decide +kernel) fn_X5_346 (by decide) wc_X5_342 mn_IOE (by decide +kernel) at_X5_346 (Nat.le_of_ble_eq_true rfl) dX5_checkBoat_15 dX5_checkBoat_18 dX5_checkBoat_19 dX5_checkBoat_22 dX5_checkBoat_25
  · refine mb_iload_n (pn := 5) 1 dX5_checkBoat_4 rfl rfl rfl ?_
    refine mb_aload_n (pn := 6) 0 dX5_checkBoat_5 rfl rfl rfl ?_
    refine gf_X5_10 (pn := 9) dX5_checkBoat_6 rfl ?_
    refine gf_X5_95 (pn := 12) dX5_checkBoat_9 rfl ?_
    refine mb_ic_lt (tgt := 26) (pn := 15) dX5_checkBoat_12 (by decide) rfl hr (fun hr => ?_) (fun hr => ?_)
    · cases hr
      exact mb_vret dX5_checkBoat_26
    · cases hr
      exact mb_throwW (ik := 342) (is := 347) (ic := 346) (cls := "java/lang/IndexOutOfBoundsException") (text := "there is no such boat") (names := ["java/lang/RuntimeException", "java/lang/Exception"]) rfl (by decide +kernel) fn_X5_346 (by decide) wc_X5_342 mn_IOE (by decide +kernel) at_X5_346 (Nat.le_of_ble_eq_true rfl) dX5_checkBoat_15 dX5_checkBoat_18 dX5_checkBoat_19 dX5_checkBoat_22 dX5_checkBoat_25
set_option maxRecDepth 100000 in
set_option maxHeartbeats 4000000 in
theorem cl_X5_161 {l : Launch} {G : mb_G} {cc : ByteArray} {nL : Nat} {ret : Option FieldType} {d pc pn : Nat} {lv : List (Nat × mb_AV)} {st : List mb_AV} {h : mb_AH} {res : mb_RS} (hst : l.stackTraces = false) (hg : mb_gok G) {x1 : Int32} {K : mb_AH → Option mb_RS} (hd2 : 0 + 1 ≤ d) (hs4 : st.length ≤ 4) (dg : decode cc pc = .ok (.invokevirtual 161, 3)) (hn : pc + 3 = pn) (hr : mb_cV (F_X5_checkBoat x1 h) K = some res) (kk : ∀ (h2 : mb_AH), K h2 = some res → mb_Ev l G RX5 cc nL ret d pn lv st h2 res) : mb_Ev l G RX5 cc nL ret d pc lv (.inl x1 :: mb_F 0 0 0 :: st) h res := mb_kVV (as := [.inl x1]) (n := 1) (d2 := 0) (ci := 5) (fun _ hf => C_X5_checkBoat hst hg hf) (mb_gV wl_X5_161 mi_X5_checkBoat ms_X5_checkBoat mn_X5 mc_X5_checkBoat) (by decide +kernel) rfl rfl rfl hd2 (by decide) hs4 rfl dg hn hr kk
set_option maxRecDepth 100000 in
set_option maxHeartbeats 4000000 in
theorem cl_X5_177 {l : Launch} {G : mb_G} {cc : ByteArray} {nL : Nat} {ret : Option FieldType} {d pc pn : Nat} {lv : List (Nat × mb_AV)} {st : List mb_AV} {h : mb_AH} {res : mb_RS} (hst : l.stackTraces = false) (hg : mb_gok G) {a0 : Nat} {a1 : Nat} {b1 : Nat} {K : Int32 → mb_AH → Option mb_RS} (hd2 : 0 + 1 ≤ d) (hs4 : st.length ≤ 4) (dg : decode cc pc = .ok (.invokevirtual 177, 3)) (hn : pc + 3 = pn) (hr : mb_cI (F_X2_points a0 a1 b1 h) K = some res) (kk : ∀ (x : Int32) (h2 : mb_AH), K x h2 = some res → mb_Ev l G RX5 cc nL ret d pn lv (.inl x :: st) h2 res) : mb_Ev l G RX5 cc nL ret d pc lv (mb_F 3 a1 b1 :: mb_F 1 a0 0 :: st) h res := mb_kVI (as := [mb_F 3 a1 b1]) (n := 1) (d2 := 0) (ci := 2) (fun _ hf => C_X2_points hst hg hf) (mb_gV wl_X5_177 mi_X2_points ms_X2_points mn_X2 mc_X2_points) (by decide +kernel) rfl rfl rfl hd2 (by decide) hs4 rfl dg hn hr kk
set_option maxRecDepth 100000 in
set_option maxHeartbeats 4000000 in
theorem cl_X5_187 {l : Launch} {G : mb_G} {cc : ByteArray} {nL : Nat} {ret : Option FieldType} {d pc pn : Nat} {lv : List (Nat × mb_AV)} {st : List mb_AV} {h : mb_AH} {res : mb_RS} (hst : l.stackTraces = false) (hg : mb_gok G) {a0 : Nat} {a1 : Nat} {b1 : Nat} {K : Int32 → mb_AH → Option mb_RS} (hd2 : 2 + 1 ≤ d) (hs4 : st.length ≤ 4) (dg : decode cc pc = .ok (.invokevirtual 187, 3)) (hn : pc + 3 = pn) (hr : mb_cI (F_X2_isAground a0 a1 b1 h) K = some res) (kk : ∀ (x : Int32) (h2 : mb_AH), K x h2 = some res → mb_Ev l G RX5 cc nL ret d pn lv (.inl x :: st) h2 res) : mb_Ev l G RX5 cc nL ret d pc lv (mb_F 3 a1 b1 :: mb_F 1 a0 0 :: st) h res := mb_kVI (as := [mb_F 3 a1 b1]) (n := 1) (d2 := 2) (ci := 2) (fun _ hf => C_X2_isAground hst hg hf) (mb_gV wl_X5_187 mi_X2_isAground ms_X2_isAground mn_X2 mc_X2_isAground) (by decide +kernel) rfl rfl rfl hd2 (by decide) hs4 rfl dg hn hr kk
set_option maxRecDepth 100000 in
set_option maxHeartbeats 4000000 in
theorem cl_X5_191 {l : Launch} {G : mb_G} {cc : ByteArray} {nL : Nat} {ret : Option FieldType} {d pc pn : Nat} {lv : List (Nat × mb_AV)} {st : List mb_AV} {h : mb_AH} {res : mb_RS} (hst : l.stackTraces = false) (hg : mb_gok G) {a0 : Nat} {a1 : Nat} {b1 : Nat} {K : Int32 → mb_AH → Option mb_RS} (hd2 : 2 + 1 ≤ d) (hs4 : st.length ≤ 4) (dg : decode cc pc = .ok (.invokevirtual 191, 3)) (hn : pc + 3 = pn) (hr : mb_cI (F_X2_isWhereItFits a0 a1 b1 h) K = some res) (kk : ∀ (x : Int32) (h2 : mb_AH), K x h2 = some res → mb_Ev l G RX5 cc nL ret d pn lv (.inl x :: st) h2 res) : mb_Ev l G RX5 cc nL ret d pc lv (mb_F 3 a1 b1 :: mb_F 1 a0 0 :: st) h res := mb_kVI (as := [mb_F 3 a1 b1]) (n := 1) (d2 := 2) (ci := 2) (fun _ hf => C_X2_isWhereItFits hst hg hf) (mb_gV wl_X5_191 mi_X2_isWhereItFits ms_X2_isWhereItFits mn_X2 mc_X2_isWhereItFits) (by decide +kernel) rfl rfl rfl hd2 (by decide) hs4 rfl dg hn hr kk
def F_X5_boat (x1 : Int32) (x2 : Int32) (h : mb_AH) : Option mb_RS := (mb_cV (F_X5_checkBoat x1 h) fun h101 => (mb_gB x1 20 (if x2 = 0 then (some (.inl (some (.inl (h101.1 3 0 x1.toNatClampNeg 0))), h101)) else (if x2 = 1 then (some (.inl (some (.inl (h101.1 3 0 x1.toNatClampNeg 1))), h101)) else (if x2 = 2 then (some (.inl (some (.inl (h101.1 3 0 x1.toNatClampNeg 2))), h101)) else (if x2 = 3 then (some (.inl (some (.inl (h101.1 3 0 x1.toNatClampNeg 3))), h101)) else (if x2 = 4 then (some (.inl (some (.inl (h101.1 3 0 x1.toNatClampNeg 4))), h101)) else (if x2 = 5 then (if (h101.1 3 0 x1.toNatClampNeg 3) = 2 then (mb_cI (F_X2_points 0 0 x1.toNatClampNeg h101) fun y103 h102 => (some (.inl (some (.inl y103)), h102))) else (some (.inl (some (.inl (-1))), h101))) else (if x2 = 6 then (some (.inl (some (.inl (h101.1 3 0 x1.toNatClampNeg 5))), h101)) else (if x2 = 7 then (some (.inl (some (.inl (h101.1 3 0 x1.toNatClampNeg 6))), h101)) else (if x2 = 8 then (mb_cI (F_X2_isAground 0 0 x1.toNatClampNeg h101) fun y105 h104 => (if y105 = 0 then (some (.inl (some (.inl 0)), h104)) else (some (.inl (some (.inl 1)), h104)))) else (if x2 = 9 then (mb_cI (F_X2_isWhereItFits 0 0 x1.toNatClampNeg h101) fun y107 h106 => (if y107 = 0 then (some (.inl (some (.inl 0)), h106)) else (some (.inl (some (.inl 1)), h106)))) else (some (.inr "java/lang/IllegalArgumentException", h101))))))))))))))
set_option maxRecDepth 100000 in
set_option maxHeartbeats 4000000 in
theorem C_X5_boat {l : Launch} {G : mb_G} (hst : l.stackTraces = false) (hg : mb_gok G) {x1 : Int32} {x2 : Int32} {h : mb_AH} {res : mb_RS} (hr : F_X5_boat x1 x2 h = some res) : mb_Mt l G yX5_boat cX5_boat 4 (some .int) 3 [mb_F 0 0 0, .inl x1, .inl x2] h res := by
  refine mb_entry (own := RX5) (lv := [(0, mb_F 0 0 0), (1, .inl x1), (2, .inl x2)]) (by decide +kernel) rfl (Nat.le_of_ble_eq_true rfl) rfl rfl (fun _ => ?_) hst hg
  unfold F_X5_boat at hr
  refine mb_aload_n (pn := 1) 0 dX5_boat_0 rfl rfl rfl ?_
  refine mb_iload_n (pn := 2) 1 dX5_boat_1 rfl rfl rfl ?_
  refine cl_X5_161 (pn := 5) hst hg (Nat.le_of_ble_eq_true rfl) (Nat.le_of_ble_eq_true rfl) dX5_boat_2 rfl hr (fun h101 hr => ?_)
  refine mb_aload_n (pn := 6) 0 dX5_boat_5 rfl rfl rfl ?_
  refine gf_X5_10 (pn := 9) dX5_boat_6 rfl ?_
  refine gf_X5_100 (pn := 12) dX5_boat_9 rfl ?_
  refine mb_iload_n (pn := 13) 1 dX5_boat_12 rfl rfl rfl ?_
  refine mb_aald11 (pn := 14) dX5_boat_13 rfl hr (fun hr => ?_)
  refine mb_astore_n (pn := 15) (lv2 := [(3, mb_F 3 0 x1.toNatClampNeg), (0, mb_F 0 0 0), (1, .inl x1), (2, .inl x2)]) dX5_boat_14 rfl (by decide) rfl rfl ?_
  refine mb_iload_n (pn := 16) 3 dX5_boat_15 rfl rfl rfl ?_
  refine mb_sw1 0 hr (fun hr => ?_) (fun q0 hr => ?_)
  · refine mb_swIn (tgt := 72) (off := 56) dX5_boat_16 (by decide) (by decide) (by decide) (by decide) ?_
    refine mb_aload_n (pn := 73) 0 dX5_boat_72 rfl rfl rfl ?_
    refine gf_X5_164 (pn := 76) dX5_boat_73 rfl ?_
    cases hr
    exact mb_iret dX5_boat_76
  refine mb_sw1 1 hr (fun hr => ?_) (fun q1 hr => ?_)
  · refine mb_swIn (tgt := 77) (off := 61) dX5_boat_16 (by decide) (by decide) (by decide) (by decide) ?_
    refine mb_aload_n (pn := 78) 0 dX5_boat_77 rfl rfl rfl ?_
    refine gf_X5_165 (pn := 81) dX5_boat_78 rfl ?_
    cases hr
    exact mb_iret dX5_boat_81
  refine mb_sw1 2 hr (fun hr => ?_) (fun q2 hr => ?_)
  · refine mb_swIn (tgt := 82) (off := 66) dX5_boat_16 (by decide) (by decide) (by decide) (by decide) ?_
    refine mb_aload_n (pn := 83) 0 dX5_boat_82 rfl rfl rfl ?_
    refine gf_X5_168 (pn := 86) dX5_boat_83 rfl ?_
    cases hr
    exact mb_iret dX5_boat_86
  refine mb_sw1 3 hr (fun hr => ?_) (fun q3 hr => ?_)
  · refine mb_swIn (tgt := 87) (off := 71) dX5_boat_16 (by decide) (by decide) (by decide) (by decide) ?_
    refine mb_aload_n (pn := 88) 0 dX5_boat_87 rfl rfl rfl ?_
    refine gf_X5_171 (pn := 91) dX5_boat_88 rfl ?_
    cases hr
    exact mb_iret dX5_boat_91
  refine mb_sw1 4 hr (fun hr => ?_) (fun q4 hr => ?_)
  · refine mb_swIn (tgt := 92) (off := 76) dX5_boat_16 (by decide) (by decide) (by decide) (by decide) ?_
    refine mb_aload_n (pn := 93) 0 dX5_boat_92 rfl rfl rfl ?_
    refine gf_X5_174 (pn := 96) dX5_boat_93 rfl ?_
    cases hr
    exact mb_iret dX5_boat_96
  refine mb_sw1 5 hr (fun hr => ?_) (fun q5 hr => ?_)
  · refine mb_swIn (tgt := 97) (off := 81) dX5_boat_16 (by decide) (by decide) (by decide) (by decide) ?_
    refine mb_aload_n (pn := 98) 0 dX5_boat_97 rfl rfl rfl ?_
    refine gf_X5_171 (pn := 101) dX5_boat_98 rfl ?_
    refine mb_iconst (v := 2) (pn := 102) dX5_boat_101 (by decide) rfl ?_
    refine mb_ic_ne (tgt := 116) (pn := 105) dX5_boat_102 (by decide) rfl hr (fun hr => ?_) (fun hr => ?_)
    · refine mb_iconst (v := (-1)) (pn := 117) dX5_boat_116 (by decide) rfl ?_
      cases hr
      exact mb_iret dX5_boat_117
    · refine mb_aload_n (pn := 106) 1 dX5_boat_105 rfl rfl rfl ?_
      refine gf_X5_10 (pn := 109) dX5_boat_106 rfl ?_
      refine mb_aload_n (pn := 110) 0 dX5_boat_109 rfl rfl rfl ?_
      refine cl_X5_177 (pn := 113) hst hg (Nat.le_of_ble_eq_true rfl) (Nat.le_of_ble_eq_true rfl) dX5_boat_110 rfl hr (fun y103 h102 hr => ?_)
      refine mb_goto (tgt := 117) dX5_boat_113 (by decide) ?_
      cases hr
      exact mb_iret dX5_boat_117
  refine mb_sw1 6 hr (fun hr => ?_) (fun q6 hr => ?_)
  · refine mb_swIn (tgt := 118) (off := 102) dX5_boat_16 (by decide) (by decide) (by decide) (by decide) ?_
    refine mb_aload_n (pn := 119) 0 dX5_boat_118 rfl rfl rfl ?_
    refine gf_X5_181 (pn := 122) dX5_boat_119 rfl ?_
    cases hr
    exact mb_iret dX5_boat_122
  refine mb_sw1 7 hr (fun hr => ?_) (fun q7 hr => ?_)
  · refine mb_swIn (tgt := 123) (off := 107) dX5_boat_16 (by decide) (by decide) (by decide) (by decide) ?_
    refine mb_aload_n (pn := 124) 0 dX5_boat_123 rfl rfl rfl ?_
    refine gf_X5_184 (pn := 127) dX5_boat_124 rfl ?_
    cases hr
    exact mb_iret dX5_boat_127
  refine mb_sw1 8 hr (fun hr => ?_) (fun q8 hr => ?_)
  · refine mb_swIn (tgt := 128) (off := 112) dX5_boat_16 (by decide) (by decide) (by decide) (by decide) ?_
    refine mb_aload_n (pn := 129) 1 dX5_boat_128 rfl rfl rfl ?_
    refine gf_X5_10 (pn := 132) dX5_boat_129 rfl ?_
    refine mb_aload_n (pn := 133) 0 dX5_boat_132 rfl rfl rfl ?_
    refine cl_X5_187 (pn := 136) hst hg (Nat.le_of_ble_eq_true rfl) (Nat.le_of_ble_eq_true rfl) dX5_boat_133 rfl hr (fun y105 h104 hr => ?_)
    refine mb_if_eq (tgt := 143) (pn := 139) dX5_boat_136 (by decide) rfl hr (fun hr => ?_) (fun hr => ?_)
    · refine mb_iconst (v := 0) (pn := 144) dX5_boat_143 (by decide) rfl ?_
      cases hr
      exact mb_iret dX5_boat_144
    · refine mb_iconst (v := 1) (pn := 140) dX5_boat_139 (by decide) rfl ?_
      refine mb_goto (tgt := 144) dX5_boat_140 (by decide) ?_
      cases hr
      exact mb_iret dX5_boat_144
  refine mb_sw1 9 hr (fun hr => ?_) (fun q9 hr => ?_)
  · refine mb_swIn (tgt := 145) (off := 129) dX5_boat_16 (by decide) (by decide) (by decide) (by decide) ?_
    refine mb_aload_n (pn := 146) 1 dX5_boat_145 rfl rfl rfl ?_
    refine gf_X5_10 (pn := 149) dX5_boat_146 rfl ?_
    refine mb_aload_n (pn := 150) 0 dX5_boat_149 rfl rfl rfl ?_
    refine cl_X5_191 (pn := 153) hst hg (Nat.le_of_ble_eq_true rfl) (Nat.le_of_ble_eq_true rfl) dX5_boat_150 rfl hr (fun y107 h106 hr => ?_)
    refine mb_if_eq (tgt := 160) (pn := 156) dX5_boat_153 (by decide) rfl hr (fun hr => ?_) (fun hr => ?_)
    · refine mb_iconst (v := 0) (pn := 161) dX5_boat_160 (by decide) rfl ?_
      cases hr
      exact mb_iret dX5_boat_161
    · refine mb_iconst (v := 1) (pn := 157) dX5_boat_156 (by decide) rfl ?_
      refine mb_goto (tgt := 161) dX5_boat_157 (by decide) ?_
      cases hr
      exact mb_iret dX5_boat_161
  refine mb_swOut (tgt := 162) dX5_boat_16 (mb_out0_9 q0 q1 q2 q3 q4 q5 q6 q7 q8 q9) (by decide) ?_
  cases hr
  exact mb_throw (ik := 41) (is := 194) (ic := 45) (cls := "java/lang/IllegalArgumentException") (text := "what is not 0 to 9") (names := ["java/lang/RuntimeException", "java/lang/Exception"]) rfl (by decide +kernel) fn_X5_45 (by decide) wc_X5_41 mn_IAE (by decide +kernel) at_X5_45 (Nat.le_of_ble_eq_true rfl) dX5_boat_162 dX5_boat_165 dX5_boat_166 dX5_boat_168 dX5_boat_171
set_option maxRecDepth 100000 in
set_option maxHeartbeats 4000000 in
theorem cl_X5_196 {l : Launch} {G : mb_G} {cc : ByteArray} {nL : Nat} {ret : Option FieldType} {d pc pn : Nat} {lv : List (Nat × mb_AV)} {st : List mb_AV} {h : mb_AH} {res : mb_RS} (hst : l.stackTraces = false) (hg : mb_gok G) {a0 : Nat} {a1 : Nat} {b1 : Nat} {a2 : Nat} {b2 : Nat} {K : Int32 → mb_AH → Option mb_RS} (hd2 : 1 + 1 ≤ d) (hs4 : st.length ≤ 4) (dg : decode cc pc = .ok (.invokevirtual 196, 3)) (hn : pc + 3 = pn) (hr : mb_cI (F_X2_suits a0 a1 b1 a2 b2 h) K = some res) (kk : ∀ (x : Int32) (h2 : mb_AH), K x h2 = some res → mb_Ev l G RX5 cc nL ret d pn lv (.inl x :: st) h2 res) : mb_Ev l G RX5 cc nL ret d pc lv (mb_F 2 a2 b2 :: mb_F 3 a1 b1 :: mb_F 1 a0 0 :: st) h res := mb_kVI (as := [mb_F 3 a1 b1, mb_F 2 a2 b2]) (n := 2) (d2 := 1) (ci := 2) (fun _ hf => C_X2_suits hst hg hf) (mb_gV wl_X5_196 mi_X2_suits ms_X2_suits mn_X2 mc_X2_suits) (by decide +kernel) rfl rfl rfl hd2 (by decide) hs4 rfl dg hn hr kk
def F_X5_fits (x1 : Int32) (x2 : Int32) (h : mb_AH) : Option mb_RS := (mb_cV (F_X5_checkBoat x1 h) fun h101 => (mb_cV (F_X5_checkBerth x2 h101) fun h102 => (mb_gB x1 20 (mb_gB x2 16 (mb_cI (F_X2_suits 0 0 x1.toNatClampNeg 0 x2.toNatClampNeg h102) fun y104 h103 => (mb_gZ y104 (some (.inl (some (.inl y104)), h103))))))))
set_option maxRecDepth 100000 in
set_option maxHeartbeats 4000000 in
theorem C_X5_fits {l : Launch} {G : mb_G} (hst : l.stackTraces = false) (hg : mb_gok G) {x1 : Int32} {x2 : Int32} {h : mb_AH} {res : mb_RS} (hr : F_X5_fits x1 x2 h = some res) : mb_Mt l G yX5_fits cX5_fits 3 (some .boolean) 2 [mb_F 0 0 0, .inl x1, .inl x2] h res := by
  refine mb_entry (own := RX5) (lv := [(0, mb_F 0 0 0), (1, .inl x1), (2, .inl x2)]) (by decide +kernel) rfl (Nat.le_of_ble_eq_true rfl) rfl rfl (fun _ => ?_) hst hg
  unfold F_X5_fits at hr
  refine mb_aload_n (pn := 1) 0 dX5_fits_0 rfl rfl rfl ?_
  refine mb_iload_n (pn := 2) 1 dX5_fits_1 rfl rfl rfl ?_
  refine cl_X5_161 (pn := 5) hst hg (Nat.le_of_ble_eq_true rfl) (Nat.le_of_ble_eq_true rfl) dX5_fits_2 rfl hr (fun h101 hr => ?_)
  refine mb_aload_n (pn := 6) 0 dX5_fits_5 rfl rfl rfl ?_
  refine mb_iload_n (pn := 7) 2 dX5_fits_6 rfl rfl rfl ?_
  refine cl_X5_130 (pn := 10) hst hg (Nat.le_of_ble_eq_true rfl) (Nat.le_of_ble_eq_true rfl) dX5_fits_7 rfl hr (fun h102 hr => ?_)
  refine mb_aload_n (pn := 11) 0 dX5_fits_10 rfl rfl rfl ?_
  refine gf_X5_10 (pn := 14) dX5_fits_11 rfl ?_
  refine mb_aload_n (pn := 15) 0 dX5_fits_14 rfl rfl rfl ?_
  refine gf_X5_10 (pn := 18) dX5_fits_15 rfl ?_
  refine gf_X5_100 (pn := 21) dX5_fits_18 rfl ?_
  refine mb_iload_n (pn := 22) 1 dX5_fits_21 rfl rfl rfl ?_
  refine mb_aald11 (pn := 23) dX5_fits_22 rfl hr (fun hr => ?_)
  refine mb_aload_n (pn := 24) 0 dX5_fits_23 rfl rfl rfl ?_
  refine gf_X5_10 (pn := 27) dX5_fits_24 rfl ?_
  refine gf_X5_83 (pn := 30) dX5_fits_27 rfl ?_
  refine mb_iload_n (pn := 31) 2 dX5_fits_30 rfl rfl rfl ?_
  refine mb_aald10 (pn := 32) dX5_fits_31 rfl hr (fun hr => ?_)
  refine cl_X5_196 (pn := 35) hst hg (Nat.le_of_ble_eq_true rfl) (Nat.le_of_ble_eq_true rfl) dX5_fits_32 rfl hr (fun y104 h103 hr => ?_)
  exact mb_zret dX5_fits_35 hr
set_option maxRecDepth 100000 in
set_option maxHeartbeats 4000000 in
theorem cl_X5_214 {l : Launch} {G : mb_G} {cc : ByteArray} {nL : Nat} {ret : Option FieldType} {d pc pn : Nat} {lv : List (Nat × mb_AV)} {st : List mb_AV} {h : mb_AH} {res : mb_RS} (hst : l.stackTraces = false) (hg : mb_gok G) {a0 : Nat} {x1 : Int32} {K : Int32 → mb_AH → Option mb_RS} (hd2 : 1 + 1 ≤ d) (hs4 : st.length ≤ 4) (dg : decode cc pc = .ok (.invokevirtual 214, 3)) (hn : pc + 3 = pn) (hr : mb_cI (F_X2_isOpen a0 x1 h) K = some res) (kk : ∀ (x : Int32) (h2 : mb_AH), K x h2 = some res → mb_Ev l G RX5 cc nL ret d pn lv (.inl x :: st) h2 res) : mb_Ev l G RX5 cc nL ret d pc lv (.inl x1 :: mb_F 1 a0 0 :: st) h res := mb_kVI (as := [.inl x1]) (n := 1) (d2 := 1) (ci := 2) (fun _ hf => C_X2_isOpen hst hg hf) (mb_gV wl_X5_214 mi_X2_isOpen ms_X2_isOpen mn_X2 mc_X2_isOpen) (by decide +kernel) rfl rfl rfl hd2 (by decide) hs4 rfl dg hn hr kk
set_option maxRecDepth 100000 in
set_option maxHeartbeats 4000000 in
theorem cl_X5_219 {l : Launch} {G : mb_G} {cc : ByteArray} {nL : Nat} {ret : Option FieldType} {d pc pn : Nat} {lv : List (Nat × mb_AV)} {st : List mb_AV} {h : mb_AH} {res : mb_RS} (hst : l.stackTraces = false) (hg : mb_gok G) {a0 : Nat} {b0 : Nat} {x1 : Int32} {x2 : Int32} {K : mb_AH → Option mb_RS} (hd2 : 1 + 1 ≤ d) (hs4 : st.length ≤ 4) (dg : decode cc pc = .ok (.invokevirtual 219, 3)) (hn : pc + 3 = pn) (hr : mb_cV (F_X1_moveForGood a0 b0 x1 x2 h) K = some res) (kk : ∀ (h2 : mb_AH), K h2 = some res → mb_Ev l G RX5 cc nL ret d pn lv st h2 res) : mb_Ev l G RX5 cc nL ret d pc lv (.inl x2 :: .inl x1 :: mb_F 3 a0 b0 :: st) h res := mb_kVV (as := [.inl x1, .inl x2]) (n := 2) (d2 := 1) (ci := 1) (fun _ hf => C_X1_moveForGood hst hg hf) (mb_gV wl_X5_219 mi_X1_moveForGood ms_X1_moveForGood mn_X1 mc_X1_moveForGood) (by decide +kernel) rfl rfl rfl hd2 (by decide) hs4 rfl dg hn hr kk
def F_X5_place (x1 : Int32) (x2 : Int32) (h : mb_AH) : Option mb_RS := (mb_cV (F_X5_checkBoat x1 h) fun h101 => (mb_cV (F_X5_checkBerth x2 h101) fun h102 => (mb_gB x1 20 (mb_cI (F_X2_isOpen 0 x2 h102) fun y104 h103 => (if y104 = 0 then (some (.inr "java/lang/IllegalStateException", h103)) else (mb_gB x2 16 (mb_cI (F_X2_suits 0 0 x1.toNatClampNeg 0 x2.toNatClampNeg h103) fun y106 h105 => (if y106 = 0 then (some (.inr "java/lang/IllegalStateException", h105)) else (mb_cV (F_X5_remember h105) fun h107 => (mb_lI (h107.1 3 0 x1.toNatClampNeg 4) fun y108 => (mb_cV (F_X1_moveForGood 0 x1.toNatClampNeg (1 : Int32) x2 h107) fun h109 => (some (.inl (some (.inl y108)), h109)))))))))))))
set_option maxRecDepth 100000 in
set_option maxHeartbeats 4000000 in
theorem C_X5_place {l : Launch} {G : mb_G} (hst : l.stackTraces = false) (hg : mb_gok G) {x1 : Int32} {x2 : Int32} {h : mb_AH} {res : mb_RS} (hr : F_X5_place x1 x2 h = some res) : mb_Mt l G yX5_place cX5_place 5 (some .int) 4 [mb_F 0 0 0, .inl x1, .inl x2] h res := by
  refine mb_entry (own := RX5) (lv := [(0, mb_F 0 0 0), (1, .inl x1), (2, .inl x2)]) (by decide +kernel) rfl (Nat.le_of_ble_eq_true rfl) rfl rfl (fun _ => ?_) hst hg
  unfold F_X5_place at hr
  refine mb_aload_n (pn := 1) 0 dX5_place_0 rfl rfl rfl ?_
  refine mb_iload_n (pn := 2) 1 dX5_place_1 rfl rfl rfl ?_
  refine cl_X5_161 (pn := 5) hst hg (Nat.le_of_ble_eq_true rfl) (Nat.le_of_ble_eq_true rfl) dX5_place_2 rfl hr (fun h101 hr => ?_)
  refine mb_aload_n (pn := 6) 0 dX5_place_5 rfl rfl rfl ?_
  refine mb_iload_n (pn := 7) 2 dX5_place_6 rfl rfl rfl ?_
  refine cl_X5_130 (pn := 10) hst hg (Nat.le_of_ble_eq_true rfl) (Nat.le_of_ble_eq_true rfl) dX5_place_7 rfl hr (fun h102 hr => ?_)
  refine mb_aload_n (pn := 11) 0 dX5_place_10 rfl rfl rfl ?_
  refine gf_X5_10 (pn := 14) dX5_place_11 rfl ?_
  refine gf_X5_100 (pn := 17) dX5_place_14 rfl ?_
  refine mb_iload_n (pn := 18) 1 dX5_place_17 rfl rfl rfl ?_
  refine mb_aald11 (pn := 19) dX5_place_18 rfl hr (fun hr => ?_)
  refine mb_astore_n (pn := 20) (lv2 := [(3, mb_F 3 0 x1.toNatClampNeg), (0, mb_F 0 0 0), (1, .inl x1), (2, .inl x2)]) dX5_place_19 rfl (by decide) rfl rfl ?_
  refine mb_aload_n (pn := 21) 1 dX5_place_20 rfl rfl rfl ?_
  refine gf_X5_10 (pn := 24) dX5_place_21 rfl ?_
  refine mb_iload_n (pn := 25) 3 dX5_place_24 rfl rfl rfl ?_
  refine cl_X5_214 (pn := 28) hst hg (Nat.le_of_ble_eq_true rfl) (Nat.le_of_ble_eq_true rfl) dX5_place_25 rfl hr (fun y104 h103 hr => ?_)
  refine mb_if_eq (tgt := 51) (pn := 31) dX5_place_28 (by decide) rfl hr (fun hr => ?_) (fun hr => ?_)
  · cases hr
    exact mb_throw (ik := 78) (is := 217) (ic := 82) (cls := "java/lang/IllegalStateException") (text := "the berth is not free, too small for the boat, or exposed in winter") (names := ["java/lang/RuntimeException", "java/lang/Exception"]) rfl (by decide +kernel) fn_X5_82 (by decide) wc_X5_78 mn_ISE (by decide +kernel) at_X5_82 (Nat.le_of_ble_eq_true rfl) dX5_place_51 dX5_place_54 dX5_place_55 dX5_place_57 dX5_place_60
  · refine mb_aload_n (pn := 32) 1 dX5_place_31 rfl rfl rfl ?_
    refine gf_X5_10 (pn := 35) dX5_place_32 rfl ?_
    refine mb_aload_n (pn := 36) 0 dX5_place_35 rfl rfl rfl ?_
    refine mb_aload_n (pn := 37) 1 dX5_place_36 rfl rfl rfl ?_
    refine gf_X5_10 (pn := 40) dX5_place_37 rfl ?_
    refine gf_X5_83 (pn := 43) dX5_place_40 rfl ?_
    refine mb_iload_n (pn := 44) 3 dX5_place_43 rfl rfl rfl ?_
    refine mb_aald10 (pn := 45) dX5_place_44 rfl hr (fun hr => ?_)
    refine cl_X5_196 (pn := 48) hst hg (Nat.le_of_ble_eq_true rfl) (Nat.le_of_ble_eq_true rfl) dX5_place_45 rfl hr (fun y106 h105 hr => ?_)
    refine mb_if_ne (tgt := 61) (pn := 51) dX5_place_48 (by decide) rfl hr (fun hr => ?_) (fun hr => ?_)
    · refine mb_aload_n (pn := 62) 1 dX5_place_61 rfl rfl rfl ?_
      refine cl_X5_48 (pn := 65) hst hg (Nat.le_of_ble_eq_true rfl) (Nat.le_of_ble_eq_true rfl) dX5_place_62 rfl hr (fun h107 hr => ?_)
      refine mb_aload_n (pn := 66) 0 dX5_place_65 rfl rfl rfl ?_
      refine gf_X5_174 (pn := 69) dX5_place_66 rfl ?_
      refine mb_nmI hr (fun y108 hr => ?_)
      refine mb_istore (pn := 71) (lv2 := [(4, .inl y108), (3, mb_F 3 0 x1.toNatClampNeg), (0, mb_F 0 0 0), (1, .inl x1), (2, .inl x2)]) dX5_place_69 (by decide) rfl rfl ?_
      refine mb_aload_n (pn := 72) 1 dX5_place_71 rfl rfl rfl ?_
      refine mb_iconst (v := 1) (pn := 73) dX5_place_72 (by decide) rfl ?_
      refine mb_iload_n (pn := 74) 4 dX5_place_73 rfl rfl rfl ?_
      refine cl_X5_219 (pn := 77) hst hg (Nat.le_of_ble_eq_true rfl) (Nat.le_of_ble_eq_true rfl) dX5_place_74 rfl hr (fun h109 hr => ?_)
      refine mb_iload (pn := 79) 0 dX5_place_77 rfl rfl ?_
      cases hr
      exact mb_iret dX5_place_79
    · cases hr
      exact mb_throw (ik := 78) (is := 217) (ic := 82) (cls := "java/lang/IllegalStateException") (text := "the berth is not free, too small for the boat, or exposed in winter") (names := ["java/lang/RuntimeException", "java/lang/Exception"]) rfl (by decide +kernel) fn_X5_82 (by decide) wc_X5_78 mn_ISE (by decide +kernel) at_X5_82 (Nat.le_of_ble_eq_true rfl) dX5_place_51 dX5_place_54 dX5_place_55 dX5_place_57 dX5_place_60
def F_X5_leave (x1 : Int32) (h : mb_AH) : Option mb_RS := (mb_cV (F_X5_checkBoat x1 h) fun h101 => (mb_gB x1 20 (if (h101.1 3 0 x1.toNatClampNeg 3) = 0 then (some (.inr "java/lang/IllegalStateException", h101)) else (if (h101.1 3 0 x1.toNatClampNeg 6) ≤ 0 then (mb_cV (F_X5_remember h101) fun h102 => (mb_lI (h102.1 3 0 x1.toNatClampNeg 3) fun y103 => (mb_cV (F_X1_moveForGood 0 x1.toNatClampNeg (0 : Int32) ((-1) : Int32) h102) fun h104 => (some (.inl (some (.inl y103)), h104))))) else (some (.inr "java/lang/IllegalStateException", h101))))))
set_option maxRecDepth 100000 in
set_option maxHeartbeats 4000000 in
theorem C_X5_leave {l : Launch} {G : mb_G} (hst : l.stackTraces = false) (hg : mb_gok G) {x1 : Int32} {h : mb_AH} {res : mb_RS} (hr : F_X5_leave x1 h = some res) : mb_Mt l G yX5_leave cX5_leave 4 (some .int) 4 [mb_F 0 0 0, .inl x1] h res := by
  refine mb_entry (own := RX5) (lv := [(0, mb_F 0 0 0), (1, .inl x1)]) (by decide +kernel) rfl (Nat.le_of_ble_eq_true rfl) rfl rfl (fun _ => ?_) hst hg
  unfold F_X5_leave at hr
  refine mb_aload_n (pn := 1) 0 dX5_leave_0 rfl rfl rfl ?_
  refine mb_iload_n (pn := 2) 1 dX5_leave_1 rfl rfl rfl ?_
  refine cl_X5_161 (pn := 5) hst hg (Nat.le_of_ble_eq_true rfl) (Nat.le_of_ble_eq_true rfl) dX5_leave_2 rfl hr (fun h101 hr => ?_)
  refine mb_aload_n (pn := 6) 0 dX5_leave_5 rfl rfl rfl ?_
  refine gf_X5_10 (pn := 9) dX5_leave_6 rfl ?_
  refine gf_X5_100 (pn := 12) dX5_leave_9 rfl ?_
  refine mb_iload_n (pn := 13) 1 dX5_leave_12 rfl rfl rfl ?_
  refine mb_aald11 (pn := 14) dX5_leave_13 rfl hr (fun hr => ?_)
  refine mb_astore_n (pn := 15) (lv2 := [(2, mb_F 3 0 x1.toNatClampNeg), (0, mb_F 0 0 0), (1, .inl x1)]) dX5_leave_14 rfl (by decide) rfl rfl ?_
  refine mb_aload_n (pn := 16) 0 dX5_leave_15 rfl rfl rfl ?_
  refine gf_X5_171 (pn := 19) dX5_leave_16 rfl ?_
  refine mb_if_eq (tgt := 29) (pn := 22) dX5_leave_19 (by decide) rfl hr (fun hr => ?_) (fun hr => ?_)
  · cases hr
    exact mb_throw (ik := 78) (is := 223) (ic := 82) (cls := "java/lang/IllegalStateException") (text := "the boat is away, or it owes something") (names := ["java/lang/RuntimeException", "java/lang/Exception"]) rfl (by decide +kernel) fn_X5_82 (by decide) wc_X5_78 mn_ISE (by decide +kernel) at_X5_82 (Nat.le_of_ble_eq_true rfl) dX5_leave_29 dX5_leave_32 dX5_leave_33 dX5_leave_35 dX5_leave_38
  · refine mb_aload_n (pn := 23) 0 dX5_leave_22 rfl rfl rfl ?_
    refine gf_X5_184 (pn := 26) dX5_leave_23 rfl ?_
    refine mb_if_le (tgt := 39) (pn := 29) dX5_leave_26 (by decide) rfl hr (fun hr => ?_) (fun hr => ?_)
    · refine mb_aload_n (pn := 40) 1 dX5_leave_39 rfl rfl rfl ?_
      refine cl_X5_48 (pn := 43) hst hg (Nat.le_of_ble_eq_true rfl) (Nat.le_of_ble_eq_true rfl) dX5_leave_40 rfl hr (fun h102 hr => ?_)
      refine mb_aload_n (pn := 44) 0 dX5_leave_43 rfl rfl rfl ?_
      refine gf_X5_171 (pn := 47) dX5_leave_44 rfl ?_
      refine mb_nmI hr (fun y103 hr => ?_)
      refine mb_istore_n (pn := 48) (lv2 := [(3, .inl y103), (2, mb_F 3 0 x1.toNatClampNeg), (0, mb_F 0 0 0), (1, .inl x1)]) dX5_leave_47 rfl (by decide) rfl rfl ?_
      refine mb_aload_n (pn := 49) 1 dX5_leave_48 rfl rfl rfl ?_
      refine mb_iconst (v := 0) (pn := 50) dX5_leave_49 (by decide) rfl ?_
      refine mb_iconst (v := (-1)) (pn := 51) dX5_leave_50 (by decide) rfl ?_
      refine cl_X5_219 (pn := 54) hst hg (Nat.le_of_ble_eq_true rfl) (Nat.le_of_ble_eq_true rfl) dX5_leave_51 rfl hr (fun h104 hr => ?_)
      refine mb_iload_n (pn := 55) 0 dX5_leave_54 rfl rfl rfl ?_
      cases hr
      exact mb_iret dX5_leave_55
    · cases hr
      exact mb_throw (ik := 78) (is := 223) (ic := 82) (cls := "java/lang/IllegalStateException") (text := "the boat is away, or it owes something") (names := ["java/lang/RuntimeException", "java/lang/Exception"]) rfl (by decide +kernel) fn_X5_82 (by decide) wc_X5_78 mn_ISE (by decide +kernel) at_X5_82 (Nat.le_of_ble_eq_true rfl) dX5_leave_29 dX5_leave_32 dX5_leave_33 dX5_leave_35 dX5_leave_38
set_option maxRecDepth 100000 in
set_option maxHeartbeats 4000000 in
theorem cl_X5_227 {l : Launch} {G : mb_G} {cc : ByteArray} {nL : Nat} {ret : Option FieldType} {d pc pn : Nat} {lv : List (Nat × mb_AV)} {st : List mb_AV} {h : mb_AH} {res : mb_RS} (hst : l.stackTraces = false) (hg : mb_gok G) {a0 : Nat} {a1 : Nat} {b1 : Nat} {a2 : Nat} {b2 : Nat} {K : Int32 → mb_AH → Option mb_RS} (hd2 : 2 + 1 ≤ d) (hs4 : st.length ≤ 4) (dg : decode cc pc = .ok (.invokevirtual 227, 3)) (hn : pc + 3 = pn) (hr : mb_cI (F_X2_suitsBerthOf a0 a1 b1 a2 b2 h) K = some res) (kk : ∀ (x : Int32) (h2 : mb_AH), K x h2 = some res → mb_Ev l G RX5 cc nL ret d pn lv (.inl x :: st) h2 res) : mb_Ev l G RX5 cc nL ret d pc lv (mb_F 3 a2 b2 :: mb_F 3 a1 b1 :: mb_F 1 a0 0 :: st) h res := mb_kVI (as := [mb_F 3 a1 b1, mb_F 3 a2 b2]) (n := 2) (d2 := 2) (ci := 2) (fun _ hf => C_X2_suitsBerthOf hst hg hf) (mb_gV wl_X5_227 mi_X2_suitsBerthOf ms_X2_suitsBerthOf mn_X2 mc_X2_suitsBerthOf) (by decide +kernel) rfl rfl rfl hd2 (by decide) hs4 rfl dg hn hr kk
def F_X5_change (x1 : Int32) (x2 : Int32) (h : mb_AH) : Option mb_RS := (mb_cV (F_X5_checkBoat x1 h) fun h101 => (mb_cV (F_X5_checkBoat x2 h101) fun h102 => (if x1 = x2 then (some (.inr "java/lang/IllegalArgumentException", h102)) else (mb_gB x1 20 (mb_gB x2 20 (mb_cI (F_X2_suitsBerthOf 0 0 x1.toNatClampNeg 0 x2.toNatClampNeg h102) fun y104 h103 => (if y104 = 0 then (some (.inr "java/lang/IllegalStateException", h103)) else (mb_cI (F_X2_suitsBerthOf 0 0 x2.toNatClampNeg 0 x1.toNatClampNeg h103) fun y106 h105 => (if y106 = 0 then (some (.inr "java/lang/IllegalStateException", h105)) else (mb_cV (F_X5_remember h105) fun h107 => (mb_lI (h107.1 3 0 x1.toNatClampNeg 4) fun y108 => (mb_cV (F_X1_moveForGood 0 x1.toNatClampNeg (1 : Int32) (h107.1 3 0 x2.toNatClampNeg 4) h107) fun h109 => (mb_cV (F_X1_moveForGood 0 x2.toNatClampNeg (1 : Int32) y108 h109) fun h110 => (some (.inl (some (.inl (h110.1 3 0 x1.toNatClampNeg 4))), h110)))))))))))))))
set_option maxRecDepth 100000 in
set_option maxHeartbeats 4000000 in
theorem C_X5_change {l : Launch} {G : mb_G} (hst : l.stackTraces = false) (hg : mb_gok G) {x1 : Int32} {x2 : Int32} {h : mb_AH} {res : mb_RS} (hr : F_X5_change x1 x2 h = some res) : mb_Mt l G yX5_change cX5_change 6 (some .int) 4 [mb_F 0 0 0, .inl x1, .inl x2] h res := by
  refine mb_entry (own := RX5) (lv := [(0, mb_F 0 0 0), (1, .inl x1), (2, .inl x2)]) (by decide +kernel) rfl (Nat.le_of_ble_eq_true rfl) rfl rfl (fun _ => ?_) hst hg
  unfold F_X5_change at hr
  refine mb_aload_n (pn := 1) 0 dX5_change_0 rfl rfl rfl ?_
  refine mb_iload_n (pn := 2) 1 dX5_change_1 rfl rfl rfl ?_
  refine cl_X5_161 (pn := 5) hst hg (Nat.le_of_ble_eq_true rfl) (Nat.le_of_ble_eq_true rfl) dX5_change_2 rfl hr (fun h101 hr => ?_)
  refine mb_aload_n (pn := 6) 0 dX5_change_5 rfl rfl rfl ?_
  refine mb_iload_n (pn := 7) 2 dX5_change_6 rfl rfl rfl ?_
  refine cl_X5_161 (pn := 10) hst hg (Nat.le_of_ble_eq_true rfl) (Nat.le_of_ble_eq_true rfl) dX5_change_7 rfl hr (fun h102 hr => ?_)
  refine mb_iload_n (pn := 11) 1 dX5_change_10 rfl rfl rfl ?_
  refine mb_iload_n (pn := 12) 2 dX5_change_11 rfl rfl rfl ?_
  refine mb_ic_ne (tgt := 25) (pn := 15) dX5_change_12 (by decide) rfl hr (fun hr => ?_) (fun hr => ?_)
  · refine mb_aload_n (pn := 26) 0 dX5_change_25 rfl rfl rfl ?_
    refine gf_X5_10 (pn := 29) dX5_change_26 rfl ?_
    refine gf_X5_100 (pn := 32) dX5_change_29 rfl ?_
    refine mb_iload_n (pn := 33) 1 dX5_change_32 rfl rfl rfl ?_
    refine mb_aald11 (pn := 34) dX5_change_33 rfl hr (fun hr => ?_)
    refine mb_astore_n (pn := 35) (lv2 := [(3, mb_F 3 0 x1.toNatClampNeg), (0, mb_F 0 0 0), (1, .inl x1), (2, .inl x2)]) dX5_change_34 rfl (by decide) rfl rfl ?_
    refine mb_aload_n (pn := 36) 1 dX5_change_35 rfl rfl rfl ?_
    refine gf_X5_10 (pn := 39) dX5_change_36 rfl ?_
    refine gf_X5_100 (pn := 42) dX5_change_39 rfl ?_
    refine mb_iload_n (pn := 43) 3 dX5_change_42 rfl rfl rfl ?_
    refine mb_aald11 (pn := 44) dX5_change_43 rfl hr (fun hr => ?_)
    refine mb_astore (pn := 46) (lv2 := [(4, mb_F 3 0 x2.toNatClampNeg), (3, mb_F 3 0 x1.toNatClampNeg), (0, mb_F 0 0 0), (1, .inl x1), (2, .inl x2)]) dX5_change_44 (by decide) rfl rfl ?_
    refine mb_aload_n (pn := 47) 2 dX5_change_46 rfl rfl rfl ?_
    refine gf_X5_10 (pn := 50) dX5_change_47 rfl ?_
    refine mb_aload_n (pn := 51) 1 dX5_change_50 rfl rfl rfl ?_
    refine mb_aload (pn := 53) 0 dX5_change_51 rfl rfl ?_
    refine cl_X5_227 (pn := 56) hst hg (Nat.le_of_ble_eq_true rfl) (Nat.le_of_ble_eq_true rfl) dX5_change_53 rfl hr (fun y104 h103 hr => ?_)
    refine mb_if_eq (tgt := 72) (pn := 59) dX5_change_56 (by decide) rfl hr (fun hr => ?_) (fun hr => ?_)
    · cases hr
      exact mb_throw (ik := 78) (is := 231) (ic := 82) (cls := "java/lang/IllegalStateException") (text := "a boat is in no berth, or does not fit that of the other one") (names := ["java/lang/RuntimeException", "java/lang/Exception"]) rfl (by decide +kernel) fn_X5_82 (by decide) wc_X5_78 mn_ISE (by decide +kernel) at_X5_82 (Nat.le_of_ble_eq_true rfl) dX5_change_72 dX5_change_75 dX5_change_76 dX5_change_78 dX5_change_81
    · refine mb_aload_n (pn := 60) 2 dX5_change_59 rfl rfl rfl ?_
      refine gf_X5_10 (pn := 63) dX5_change_60 rfl ?_
      refine mb_aload (pn := 65) 0 dX5_change_63 rfl rfl ?_
      refine mb_aload_n (pn := 66) 1 dX5_change_65 rfl rfl rfl ?_
      refine cl_X5_227 (pn := 69) hst hg (Nat.le_of_ble_eq_true rfl) (Nat.le_of_ble_eq_true rfl) dX5_change_66 rfl hr (fun y106 h105 hr => ?_)
      refine mb_if_ne (tgt := 82) (pn := 72) dX5_change_69 (by decide) rfl hr (fun hr => ?_) (fun hr => ?_)
      · refine mb_aload_n (pn := 83) 2 dX5_change_82 rfl rfl rfl ?_
        refine cl_X5_48 (pn := 86) hst hg (Nat.le_of_ble_eq_true rfl) (Nat.le_of_ble_eq_true rfl) dX5_change_83 rfl hr (fun h107 hr => ?_)
        refine mb_aload_n (pn := 87) 1 dX5_change_86 rfl rfl rfl ?_
        refine gf_X5_174 (pn := 90) dX5_change_87 rfl ?_
        refine mb_nmI hr (fun y108 hr => ?_)
        refine mb_istore (pn := 92) (lv2 := [(5, .inl y108), (4, mb_F 3 0 x2.toNatClampNeg), (3, mb_F 3 0 x1.toNatClampNeg), (0, mb_F 0 0 0), (1, .inl x1), (2, .inl x2)]) dX5_change_90 (by decide) rfl rfl ?_
        refine mb_aload_n (pn := 93) 2 dX5_change_92 rfl rfl rfl ?_
        refine mb_iconst (v := 1) (pn := 94) dX5_change_93 (by decide) rfl ?_
        refine mb_aload (pn := 96) 1 dX5_change_94 rfl rfl ?_
        refine gf_X5_174 (pn := 99) dX5_change_96 rfl ?_
        refine cl_X5_219 (pn := 102) hst hg (Nat.le_of_ble_eq_true rfl) (Nat.le_of_ble_eq_true rfl) dX5_change_99 rfl hr (fun h109 hr => ?_)
        refine mb_aload (pn := 104) 1 dX5_change_102 rfl rfl ?_
        refine mb_iconst (v := 1) (pn := 105) dX5_change_104 (by decide) rfl ?_
        refine mb_iload (pn := 107) 0 dX5_change_105 rfl rfl ?_
        refine cl_X5_219 (pn := 110) hst hg (Nat.le_of_ble_eq_true rfl) (Nat.le_of_ble_eq_true rfl) dX5_change_107 rfl hr (fun h110 hr => ?_)
        refine mb_aload_n (pn := 111) 2 dX5_change_110 rfl rfl rfl ?_
        refine gf_X5_174 (pn := 114) dX5_change_111 rfl ?_
        cases hr
        exact mb_iret dX5_change_114
      · cases hr
        exact mb_throw (ik := 78) (is := 231) (ic := 82) (cls := "java/lang/IllegalStateException") (text := "a boat is in no berth, or does not fit that of the other one") (names := ["java/lang/RuntimeException", "java/lang/Exception"]) rfl (by decide +kernel) fn_X5_82 (by decide) wc_X5_78 mn_ISE (by decide +kernel) at_X5_82 (Nat.le_of_ble_eq_true rfl) dX5_change_72 dX5_change_75 dX5_change_76 dX5_change_78 dX5_change_81
  · cases hr
    exact mb_throw (ik := 41) (is := 225) (ic := 45) (cls := "java/lang/IllegalArgumentException") (text := "both boats are the same") (names := ["java/lang/RuntimeException", "java/lang/Exception"]) rfl (by decide +kernel) fn_X5_45 (by decide) wc_X5_41 mn_IAE (by decide +kernel) at_X5_45 (Nat.le_of_ble_eq_true rfl) dX5_change_15 dX5_change_18 dX5_change_19 dX5_change_21 dX5_change_24
set_option maxRecDepth 100000 in
set_option maxHeartbeats 4000000 in
theorem cl_X5_235 {l : Launch} {G : mb_G} {cc : ByteArray} {nL : Nat} {ret : Option FieldType} {d pc pn : Nat} {lv : List (Nat × mb_AV)} {st : List mb_AV} {h : mb_AH} {res : mb_RS} (hst : l.stackTraces = false) (hg : mb_gok G) {a0 : Nat} {a1 : Nat} {b1 : Nat} {K : mb_AH → Option mb_RS} (hd2 : 2 + 1 ≤ d) (hs4 : st.length ≤ 4) (dg : decode cc pc = .ok (.invokevirtual 235, 3)) (hn : pc + 3 = pn) (hr : mb_cV (F_X2_beginToWait a0 a1 b1 h) K = some res) (kk : ∀ (h2 : mb_AH), K h2 = some res → mb_Ev l G RX5 cc nL ret d pn lv st h2 res) : mb_Ev l G RX5 cc nL ret d pc lv (mb_F 3 a1 b1 :: mb_F 1 a0 0 :: st) h res := mb_kVV (as := [mb_F 3 a1 b1]) (n := 1) (d2 := 2) (ci := 2) (fun _ hf => C_X2_beginToWait hst hg hf) (mb_gV wl_X5_235 mi_X2_beginToWait ms_X2_beginToWait mn_X2 mc_X2_beginToWait) (by decide +kernel) rfl rfl rfl hd2 (by decide) hs4 rfl dg hn hr kk
set_option maxRecDepth 100000 in
set_option maxHeartbeats 4000000 in
theorem cl_X5_239 {l : Launch} {G : mb_G} {cc : ByteArray} {nL : Nat} {ret : Option FieldType} {d pc pn : Nat} {lv : List (Nat × mb_AV)} {st : List mb_AV} {h : mb_AH} {res : mb_RS} (hst : l.stackTraces = false) (hg : mb_gok G) {a0 : Nat} {a1 : Nat} {b1 : Nat} {K : Int32 → mb_AH → Option mb_RS} (hd2 : 2 + 1 ≤ d) (hs4 : st.length ≤ 4) (dg : decode cc pc = .ok (.invokevirtual 239, 3)) (hn : pc + 3 = pn) (hr : mb_cI (F_X2_countAheadOf a0 a1 b1 h) K = some res) (kk : ∀ (x : Int32) (h2 : mb_AH), K x h2 = some res → mb_Ev l G RX5 cc nL ret d pn lv (.inl x :: st) h2 res) : mb_Ev l G RX5 cc nL ret d pc lv (mb_F 3 a1 b1 :: mb_F 1 a0 0 :: st) h res := mb_kVI (as := [mb_F 3 a1 b1]) (n := 1) (d2 := 2) (ci := 2) (fun _ hf => C_X2_countAheadOf hst hg hf) (mb_gV wl_X5_239 mi_X2_countAheadOf ms_X2_countAheadOf mn_X2 mc_X2_countAheadOf) (by decide +kernel) rfl rfl rfl hd2 (by decide) hs4 rfl dg hn hr kk
def F_X5_await (x1 : Int32) (h : mb_AH) : Option mb_RS := (mb_cV (F_X5_checkBoat x1 h) fun h101 => (mb_gB x1 20 (if (h101.1 3 0 x1.toNatClampNeg 3) = 0 then (mb_cV (F_X5_remember h101) fun h102 => (mb_cV (F_X2_beginToWait 0 0 x1.toNatClampNeg h102) fun h103 => (mb_cI (F_X2_countAheadOf 0 0 x1.toNatClampNeg h103) fun y105 h104 => (some (.inl (some (.inl y105)), h104))))) else (some (.inr "java/lang/IllegalStateException", h101)))))
set_option maxRecDepth 100000 in
set_option maxHeartbeats 4000000 in
theorem C_X5_await {l : Launch} {G : mb_G} (hst : l.stackTraces = false) (hg : mb_gok G) {x1 : Int32} {h : mb_AH} {res : mb_RS} (hr : F_X5_await x1 h = some res) : mb_Mt l G yX5_await cX5_await 3 (some .int) 4 [mb_F 0 0 0, .inl x1] h res := by
  refine mb_entry (own := RX5) (lv := [(0, mb_F 0 0 0), (1, .inl x1)]) (by decide +kernel) rfl (Nat.le_of_ble_eq_true rfl) rfl rfl (fun _ => ?_) hst hg
  unfold F_X5_await at hr
  refine mb_aload_n (pn := 1) 0 dX5_await_0 rfl rfl rfl ?_
  refine mb_iload_n (pn := 2) 1 dX5_await_1 rfl rfl rfl ?_
  refine cl_X5_161 (pn := 5) hst hg (Nat.le_of_ble_eq_true rfl) (Nat.le_of_ble_eq_true rfl) dX5_await_2 rfl hr (fun h101 hr => ?_)
  refine mb_aload_n (pn := 6) 0 dX5_await_5 rfl rfl rfl ?_
  refine gf_X5_10 (pn := 9) dX5_await_6 rfl ?_
  refine gf_X5_100 (pn := 12) dX5_await_9 rfl ?_
  refine mb_iload_n (pn := 13) 1 dX5_await_12 rfl rfl rfl ?_
  refine mb_aald11 (pn := 14) dX5_await_13 rfl hr (fun hr => ?_)
  refine mb_astore_n (pn := 15) (lv2 := [(2, mb_F 3 0 x1.toNatClampNeg), (0, mb_F 0 0 0), (1, .inl x1)]) dX5_await_14 rfl (by decide) rfl rfl ?_
  refine mb_aload_n (pn := 16) 0 dX5_await_15 rfl rfl rfl ?_
  refine gf_X5_171 (pn := 19) dX5_await_16 rfl ?_
  refine mb_if_eq (tgt := 32) (pn := 22) dX5_await_19 (by decide) rfl hr (fun hr => ?_) (fun hr => ?_)
  · refine mb_aload_n (pn := 33) 1 dX5_await_32 rfl rfl rfl ?_
    refine cl_X5_48 (pn := 36) hst hg (Nat.le_of_ble_eq_true rfl) (Nat.le_of_ble_eq_true rfl) dX5_await_33 rfl hr (fun h102 hr => ?_)
    refine mb_aload_n (pn := 37) 1 dX5_await_36 rfl rfl rfl ?_
    refine gf_X5_10 (pn := 40) dX5_await_37 rfl ?_
    refine mb_aload_n (pn := 41) 0 dX5_await_40 rfl rfl rfl ?_
    refine cl_X5_235 (pn := 44) hst hg (Nat.le_of_ble_eq_true rfl) (Nat.le_of_ble_eq_true rfl) dX5_await_41 rfl hr (fun h103 hr => ?_)
    refine mb_aload_n (pn := 45) 1 dX5_await_44 rfl rfl rfl ?_
    refine gf_X5_10 (pn := 48) dX5_await_45 rfl ?_
    refine mb_aload_n (pn := 49) 0 dX5_await_48 rfl rfl rfl ?_
    refine cl_X5_239 (pn := 52) hst hg (Nat.le_of_ble_eq_true rfl) (Nat.le_of_ble_eq_true rfl) dX5_await_49 rfl hr (fun y105 h104 hr => ?_)
    cases hr
    exact mb_iret dX5_await_52
  · cases hr
    exact mb_throw (ik := 78) (is := 233) (ic := 82) (cls := "java/lang/IllegalStateException") (text := "the boat is not away") (names := ["java/lang/RuntimeException", "java/lang/Exception"]) rfl (by decide +kernel) fn_X5_82 (by decide) wc_X5_78 mn_ISE (by decide +kernel) at_X5_82 (Nat.le_of_ble_eq_true rfl) dX5_await_22 dX5_await_25 dX5_await_26 dX5_await_28 dX5_await_31
set_option maxRecDepth 100000 in
set_option maxHeartbeats 4000000 in
theorem cl_X5_244 {l : Launch} {G : mb_G} {cc : ByteArray} {nL : Nat} {ret : Option FieldType} {d pc pn : Nat} {lv : List (Nat × mb_AV)} {st : List mb_AV} {h : mb_AH} {res : mb_RS} (hst : l.stackTraces = false) (hg : mb_gok G) {a0 : Nat} {a1 : Nat} {b1 : Nat} {K : Int32 → mb_AH → Option mb_RS} (hd2 : 2 + 1 ≤ d) (hs4 : st.length ≤ 4) (dg : decode cc pc = .ok (.invokevirtual 244, 3)) (hn : pc + 3 = pn) (hr : mb_cI (F_X2_firstWaitingFor a0 a1 b1 h) K = some res) (kk : ∀ (x : Int32) (h2 : mb_AH), K x h2 = some res → mb_Ev l G RX5 cc nL ret d pn lv (.inl x :: st) h2 res) : mb_Ev l G RX5 cc nL ret d pc lv (mb_F 2 a1 b1 :: mb_F 1 a0 0 :: st) h res := mb_kVI (as := [mb_F 2 a1 b1]) (n := 1) (d2 := 2) (ci := 2) (fun _ hf => C_X2_firstWaitingFor hst hg hf) (mb_gV wl_X5_244 mi_X2_firstWaitingFor ms_X2_firstWaitingFor mn_X2 mc_X2_firstWaitingFor) (by decide +kernel) rfl rfl rfl hd2 (by decide) hs4 rfl dg hn hr kk
def F_X5_offer (x1 : Int32) (h : mb_AH) : Option mb_RS := (mb_cV (F_X5_checkBerth x1 h) fun h101 => (mb_cI (F_X2_isOpen 0 x1 h101) fun y103 h102 => (if y103 = 0 then (some (.inr "java/lang/IllegalStateException", h102)) else (mb_cV (F_X5_remember h102) fun h104 => (mb_gB x1 16 (mb_cI (F_X2_firstWaitingFor 0 0 x1.toNatClampNeg h104) fun y106 h105 => (if y106 = (-1) then (some (.inl (some (.inl y106)), h105)) else (mb_gB y106 20 (mb_cV (F_X1_moveForGood 0 y106.toNatClampNeg (1 : Int32) x1 h105) fun h107 => (some (.inl (some (.inl y106)), h107)))))))))))
set_option maxRecDepth 100000 in
set_option maxHeartbeats 4000000 in
theorem C_X5_offer {l : Launch} {G : mb_G} (hst : l.stackTraces = false) (hg : mb_gok G) {x1 : Int32} {h : mb_AH} {res : mb_RS} (hr : F_X5_offer x1 h = some res) : mb_Mt l G yX5_offer cX5_offer 3 (some .int) 4 [mb_F 0 0 0, .inl x1] h res := by
  refine mb_entry (own := RX5) (lv := [(0, mb_F 0 0 0), (1, .inl x1)]) (by decide +kernel) rfl (Nat.le_of_ble_eq_true rfl) rfl rfl (fun _ => ?_) hst hg
  unfold F_X5_offer at hr
  refine mb_aload_n (pn := 1) 0 dX5_offer_0 rfl rfl rfl ?_
  refine mb_iload_n (pn := 2) 1 dX5_offer_1 rfl rfl rfl ?_
  refine cl_X5_130 (pn := 5) hst hg (Nat.le_of_ble_eq_true rfl) (Nat.le_of_ble_eq_true rfl) dX5_offer_2 rfl hr (fun h101 hr => ?_)
  refine mb_aload_n (pn := 6) 0 dX5_offer_5 rfl rfl rfl ?_
  refine gf_X5_10 (pn := 9) dX5_offer_6 rfl ?_
  refine mb_iload_n (pn := 10) 1 dX5_offer_9 rfl rfl rfl ?_
  refine cl_X5_214 (pn := 13) hst hg (Nat.le_of_ble_eq_true rfl) (Nat.le_of_ble_eq_true rfl) dX5_offer_10 rfl hr (fun y103 h102 hr => ?_)
  refine mb_if_ne (tgt := 26) (pn := 16) dX5_offer_13 (by decide) rfl hr (fun hr => ?_) (fun hr => ?_)
  · refine mb_aload_n (pn := 27) 0 dX5_offer_26 rfl rfl rfl ?_
    refine cl_X5_48 (pn := 30) hst hg (Nat.le_of_ble_eq_true rfl) (Nat.le_of_ble_eq_true rfl) dX5_offer_27 rfl hr (fun h104 hr => ?_)
    refine mb_aload_n (pn := 31) 0 dX5_offer_30 rfl rfl rfl ?_
    refine gf_X5_10 (pn := 34) dX5_offer_31 rfl ?_
    refine mb_aload_n (pn := 35) 0 dX5_offer_34 rfl rfl rfl ?_
    refine gf_X5_10 (pn := 38) dX5_offer_35 rfl ?_
    refine gf_X5_83 (pn := 41) dX5_offer_38 rfl ?_
    refine mb_iload_n (pn := 42) 1 dX5_offer_41 rfl rfl rfl ?_
    refine mb_aald10 (pn := 43) dX5_offer_42 rfl hr (fun hr => ?_)
    refine cl_X5_244 (pn := 46) hst hg (Nat.le_of_ble_eq_true rfl) (Nat.le_of_ble_eq_true rfl) dX5_offer_43 rfl hr (fun y106 h105 hr => ?_)
    refine mb_istore_n (pn := 47) (lv2 := [(2, .inl y106), (0, mb_F 0 0 0), (1, .inl x1)]) dX5_offer_46 rfl (by decide) rfl rfl ?_
    refine mb_iload_n (pn := 48) 0 dX5_offer_47 rfl rfl rfl ?_
    refine mb_iconst (v := (-1)) (pn := 49) dX5_offer_48 (by decide) rfl ?_
    refine mb_ic_eq (tgt := 66) (pn := 52) dX5_offer_49 (by decide) rfl hr (fun hr => ?_) (fun hr => ?_)
    · refine mb_iload_n (pn := 67) 0 dX5_offer_66 rfl rfl rfl ?_
      cases hr
      exact mb_iret dX5_offer_67
    · refine mb_aload_n (pn := 53) 1 dX5_offer_52 rfl rfl rfl ?_
      refine gf_X5_10 (pn := 56) dX5_offer_53 rfl ?_
      refine gf_X5_100 (pn := 59) dX5_offer_56 rfl ?_
      refine mb_iload_n (pn := 60) 0 dX5_offer_59 rfl rfl rfl ?_
      refine mb_aald11 (pn := 61) dX5_offer_60 rfl hr (fun hr => ?_)
      refine mb_iconst (v := 1) (pn := 62) dX5_offer_61 (by decide) rfl ?_
      refine mb_iload_n (pn := 63) 2 dX5_offer_62 rfl rfl rfl ?_
      refine cl_X5_219 (pn := 66) hst hg (Nat.le_of_ble_eq_true rfl) (Nat.le_of_ble_eq_true rfl) dX5_offer_63 rfl hr (fun h107 hr => ?_)
      refine mb_iload_n (pn := 67) 0 dX5_offer_66 rfl rfl rfl ?_
      cases hr
      exact mb_iret dX5_offer_67
  · cases hr
    exact mb_throw (ik := 78) (is := 242) (ic := 82) (cls := "java/lang/IllegalStateException") (text := "the berth is not free, or exposed in winter") (names := ["java/lang/RuntimeException", "java/lang/Exception"]) rfl (by decide +kernel) fn_X5_82 (by decide) wc_X5_78 mn_ISE (by decide +kernel) at_X5_82 (Nat.le_of_ble_eq_true rfl) dX5_offer_16 dX5_offer_19 dX5_offer_20 dX5_offer_22 dX5_offer_25
set_option maxRecDepth 100000 in
set_option maxHeartbeats 4000000 in
theorem cl_X5_247 {l : Launch} {G : mb_G} {cc : ByteArray} {nL : Nat} {ret : Option FieldType} {d pc pn : Nat} {lv : List (Nat × mb_AV)} {st : List mb_AV} {h : mb_AH} {res : mb_RS} (hst : l.stackTraces = false) (hg : mb_gok G) {a0 : Nat} {x1 : Int32} {K : Int32 → mb_AH → Option mb_RS} (hd2 : 3 + 1 ≤ d) (hs4 : st.length ≤ 4) (dg : decode cc pc = .ok (.invokevirtual 247, 3)) (hn : pc + 3 = pn) (hr : mb_cI (F_X2_waitingAt a0 x1 h) K = some res) (kk : ∀ (x : Int32) (h2 : mb_AH), K x h2 = some res → mb_Ev l G RX5 cc nL ret d pn lv (.inl x :: st) h2 res) : mb_Ev l G RX5 cc nL ret d pc lv (.inl x1 :: mb_F 1 a0 0 :: st) h res := mb_kVI (as := [.inl x1]) (n := 1) (d2 := 3) (ci := 2) (fun _ hf => C_X2_waitingAt hst hg hf) (mb_gV wl_X5_247 mi_X2_waitingAt ms_X2_waitingAt mn_X2 mc_X2_waitingAt) (by decide +kernel) rfl rfl rfl hd2 (by decide) hs4 rfl dg hn hr kk
def F_X5_waiting (x1 : Int32) (h : mb_AH) : Option mb_RS := (mb_cI (F_X2_waitingAt 0 x1 h) fun y102 h101 => (some (.inl (some (.inl y102)), h101)))
set_option maxRecDepth 100000 in
set_option maxHeartbeats 4000000 in
theorem C_X5_waiting {l : Launch} {G : mb_G} (hst : l.stackTraces = false) (hg : mb_gok G) {x1 : Int32} {h : mb_AH} {res : mb_RS} (hr : F_X5_waiting x1 h = some res) : mb_Mt l G yX5_waiting cX5_waiting 2 (some .int) 4 [mb_F 0 0 0, .inl x1] h res := by
  refine mb_entry (own := RX5) (lv := [(0, mb_F 0 0 0), (1, .inl x1)]) (by decide +kernel) rfl (Nat.le_of_ble_eq_true rfl) rfl rfl (fun _ => ?_) hst hg
  unfold F_X5_waiting at hr
  refine mb_aload_n (pn := 1) 0 dX5_waiting_0 rfl rfl rfl ?_
  refine gf_X5_10 (pn := 4) dX5_waiting_1 rfl ?_
  refine mb_iload_n (pn := 5) 1 dX5_waiting_4 rfl rfl rfl ?_
  refine cl_X5_247 (pn := 8) hst hg (Nat.le_of_ble_eq_true rfl) (Nat.le_of_ble_eq_true rfl) dX5_waiting_5 rfl hr (fun y102 h101 hr => ?_)
  cases hr
  exact mb_iret dX5_waiting_8
set_option maxRecDepth 100000 in
set_option maxHeartbeats 4000000 in
theorem cl_X5_250 {l : Launch} {G : mb_G} {cc : ByteArray} {nL : Nat} {ret : Option FieldType} {d pc pn : Nat} {lv : List (Nat × mb_AV)} {st : List mb_AV} {h : mb_AH} {res : mb_RS} (hst : l.stackTraces = false) (hg : mb_gok G) {a0 : Nat} {a1 : Nat} {b1 : Nat} {K : Int32 → mb_AH → Option mb_RS} (hd2 : 2 + 1 ≤ d) (hs4 : st.length ≤ 4) (dg : decode cc pc = .ok (.invokevirtual 250, 3)) (hn : pc + 3 = pn) (hr : mb_cI (F_X2_bestBerthFor a0 a1 b1 h) K = some res) (kk : ∀ (x : Int32) (h2 : mb_AH), K x h2 = some res → mb_Ev l G RX5 cc nL ret d pn lv (.inl x :: st) h2 res) : mb_Ev l G RX5 cc nL ret d pc lv (mb_F 3 a1 b1 :: mb_F 1 a0 0 :: st) h res := mb_kVI (as := [mb_F 3 a1 b1]) (n := 1) (d2 := 2) (ci := 2) (fun _ hf => C_X2_bestBerthFor hst hg hf) (mb_gV wl_X5_250 mi_X2_bestBerthFor ms_X2_bestBerthFor mn_X2 mc_X2_bestBerthFor) (by decide +kernel) rfl rfl rfl hd2 (by decide) hs4 rfl dg hn hr kk
def F_X5_bestBerth (x1 : Int32) (h : mb_AH) : Option mb_RS := (mb_cV (F_X5_checkBoat x1 h) fun h101 => (mb_gB x1 20 (mb_cI (F_X2_bestBerthFor 0 0 x1.toNatClampNeg h101) fun y103 h102 => (some (.inl (some (.inl y103)), h102)))))
set_option maxRecDepth 100000 in
set_option maxHeartbeats 4000000 in
theorem C_X5_bestBerth {l : Launch} {G : mb_G} (hst : l.stackTraces = false) (hg : mb_gok G) {x1 : Int32} {h : mb_AH} {res : mb_RS} (hr : F_X5_bestBerth x1 h = some res) : mb_Mt l G yX5_bestBerth cX5_bestBerth 2 (some .int) 3 [mb_F 0 0 0, .inl x1] h res := by
  refine mb_entry (own := RX5) (lv := [(0, mb_F 0 0 0), (1, .inl x1)]) (by decide +kernel) rfl (Nat.le_of_ble_eq_true rfl) rfl rfl (fun _ => ?_) hst hg
  unfold F_X5_bestBerth at hr
  refine mb_aload_n (pn := 1) 0 dX5_bestBerth_0 rfl rfl rfl ?_
  refine mb_iload_n (pn := 2) 1 dX5_bestBerth_1 rfl rfl rfl ?_
  refine cl_X5_161 (pn := 5) hst hg (Nat.le_of_ble_eq_true rfl) (Nat.le_of_ble_eq_true rfl) dX5_bestBerth_2 rfl hr (fun h101 hr => ?_)
  refine mb_aload_n (pn := 6) 0 dX5_bestBerth_5 rfl rfl rfl ?_
  refine gf_X5_10 (pn := 9) dX5_bestBerth_6 rfl ?_
  refine mb_aload_n (pn := 10) 0 dX5_bestBerth_9 rfl rfl rfl ?_
  refine gf_X5_10 (pn := 13) dX5_bestBerth_10 rfl ?_
  refine gf_X5_100 (pn := 16) dX5_bestBerth_13 rfl ?_
  refine mb_iload_n (pn := 17) 1 dX5_bestBerth_16 rfl rfl rfl ?_
  refine mb_aald11 (pn := 18) dX5_bestBerth_17 rfl hr (fun hr => ?_)
  refine cl_X5_250 (pn := 21) hst hg (Nat.le_of_ble_eq_true rfl) (Nat.le_of_ble_eq_true rfl) dX5_bestBerth_18 rfl hr (fun y103 h102 hr => ?_)
  cases hr
  exact mb_iret dX5_bestBerth_21
def F_X5_checkDays (x1 : Int32) (h : mb_AH) : Option mb_RS := (mb_cI (F_X5_isWithin x1 (1 : Int32) (400 : Int32) h) fun y102 h101 => (if y102 = 0 then (some (.inr "java/lang/IllegalArgumentException", h101)) else (some (.inl none, h101))))
set_option maxRecDepth 100000 in
set_option maxHeartbeats 4000000 in
theorem C_X5_checkDays {l : Launch} {G : mb_G} (hst : l.stackTraces = false) (hg : mb_gok G) {x1 : Int32} {h : mb_AH} {res : mb_RS} (hr : F_X5_checkDays x1 h = some res) : mb_Mt l G yX5_checkDays cX5_checkDays 1 none 1 [.inl x1] h res := by
  refine mb_entry (own := RX5) (lv := [(0, .inl x1)]) (by decide +kernel) rfl (Nat.le_of_ble_eq_true rfl) rfl rfl (fun _ => ?_) hst hg
  unfold F_X5_checkDays at hr
  refine mb_iload_n (pn := 1) 0 dX5_checkDays_0 rfl rfl rfl ?_
  refine mb_iconst (v := 1) (pn := 2) dX5_checkDays_1 (by decide) rfl ?_
  refine mb_sipush (v := 400) (pn := 5) dX5_checkDays_2 (by decide) rfl ?_
  refine cl_X5_65 (pn := 8) hst hg (Nat.le_of_ble_eq_true rfl) (Nat.le_of_ble_eq_true rfl) dX5_checkDays_5 rfl hr (fun y102 h101 hr => ?_)
  refine mb_if_ne (tgt := 22) (pn := 11) dX5_checkDays_8 (by decide) rfl hr (fun hr => ?_) (fun hr => ?_)
  · cases hr
    exact mb_vret dX5_checkDays_22
  · cases hr
    exact mb_throwW (ik := 41) (is := 349) (ic := 45) (cls := "java/lang/IllegalArgumentException") (text := "the number of days is not 1 to 400") (names := ["java/lang/RuntimeException", "java/lang/Exception"]) rfl (by decide +kernel) fn_X5_45 (by decide) wc_X5_41 mn_IAE (by decide +kernel) at_X5_45 (Nat.le_of_ble_eq_true rfl) dX5_checkDays_11 dX5_checkDays_14 dX5_checkDays_15 dX5_checkDays_18 dX5_checkDays_21
set_option maxRecDepth 100000 in
set_option maxHeartbeats 4000000 in
theorem cl_X5_253 {l : Launch} {G : mb_G} {cc : ByteArray} {nL : Nat} {ret : Option FieldType} {d pc pn : Nat} {lv : List (Nat × mb_AV)} {st : List mb_AV} {h : mb_AH} {res : mb_RS} (hst : l.stackTraces = false) (hg : mb_gok G) {x1 : Int32} {K : mb_AH → Option mb_RS} (hd2 : 1 + 1 ≤ d) (hs4 : st.length ≤ 4) (dg : decode cc pc = .ok (.invokestatic 253, 3)) (hn : pc + 3 = pn) (hr : mb_cV (F_X5_checkDays x1 h) K = some res) (kk : ∀ (h2 : mb_AH), K h2 = some res → mb_Ev l G RX5 cc nL ret d pn lv st h2 res) : mb_Ev l G RX5 cc nL ret d pc lv (.inl x1 :: st) h res := mb_kSV (as := [.inl x1]) (n := 1) (d2 := 1) (fun _ hf => C_X5_checkDays hst hg hf) (mb_gS wl_X5_253 mt_X5_checkDays mn_X5 mc_X5_checkDays) (by decide +kernel) rfl hd2 (by decide) hs4 rfl dg hn hr kk
set_option maxRecDepth 100000 in
set_option maxHeartbeats 4000000 in
theorem cl_X5_260 {l : Launch} {G : mb_G} {cc : ByteArray} {nL : Nat} {ret : Option FieldType} {d pc pn : Nat} {lv : List (Nat × mb_AV)} {st : List mb_AV} {h : mb_AH} {res : mb_RS} (hst : l.stackTraces = false) (hg : mb_gok G) {a0 : Nat} {x1 : Int32} {K : Int32 → mb_AH → Option mb_RS} (hd2 : 24 + 1 ≤ d) (hs4 : st.length ≤ 4) (dg : decode cc pc = .ok (.invokevirtual 260, 3)) (hn : pc + 3 = pn) (hr : mb_cI (F_X2_letPass a0 x1 h) K = some res) (kk : ∀ (x : Int32) (h2 : mb_AH), K x h2 = some res → mb_Ev l G RX5 cc nL ret d pn lv (.inl x :: st) h2 res) : mb_Ev l G RX5 cc nL ret d pc lv (mb_F 4 0 0 :: .inl x1 :: mb_F 1 a0 0 :: st) h res := mb_kVI (as := [.inl x1, mb_F 4 0 0]) (n := 2) (d2 := 24) (ci := 2) (fun _ hf => C_X2_letPass hst hg hf) (mb_gV wl_X5_260 mi_X2_letPass ms_X2_letPass mn_X2 mc_X2_letPass) (by decide +kernel) rfl rfl rfl hd2 (by decide) hs4 rfl dg hn hr kk
def F_X5_pass (x1 : Int32) (h : mb_AH) : Option mb_RS := (mb_cV (F_X5_checkDays x1 h) fun h101 => (mb_cV (F_X2_copyFrom 1 0 h101) fun h102 => (mb_cI (F_X2_letPass 1 x1 h102) fun y104 h103 => (if y104 = (-1) then (some (.inr "java/lang/IllegalStateException", h103)) else (mb_cV (F_X5_remember h103) fun h105 => (mb_cV (F_X2_copyFrom 0 1 h105) fun h106 => (some (.inl (some (.inl y104)), h106))))))))
set_option maxRecDepth 100000 in
set_option maxHeartbeats 4000000 in
theorem C_X5_pass {l : Launch} {G : mb_G} (hst : l.stackTraces = false) (hg : mb_gok G) {x1 : Int32} {h : mb_AH} {res : mb_RS} (hr : F_X5_pass x1 h = some res) : mb_Mt l G yX5_pass cX5_pass 3 (some .int) 25 [mb_F 0 0 0, .inl x1] h res := by
  refine mb_entry (own := RX5) (lv := [(0, mb_F 0 0 0), (1, .inl x1)]) (by decide +kernel) rfl (Nat.le_of_ble_eq_true rfl) rfl rfl (fun _ => ?_) hst hg
  unfold F_X5_pass at hr
  refine mb_iload_n (pn := 1) 1 dX5_pass_0 rfl rfl rfl ?_
  refine cl_X5_253 (pn := 4) hst hg (Nat.le_of_ble_eq_true rfl) (Nat.le_of_ble_eq_true rfl) dX5_pass_1 rfl hr (fun h101 hr => ?_)
  refine mb_aload_n (pn := 5) 0 dX5_pass_4 rfl rfl rfl ?_
  refine gf_X5_16 (pn := 8) dX5_pass_5 rfl ?_
  refine mb_aload_n (pn := 9) 0 dX5_pass_8 rfl rfl rfl ?_
  refine gf_X5_10 (pn := 12) dX5_pass_9 rfl ?_
  refine cl_X5_256 (pn := 15) hst hg (Nat.le_of_ble_eq_true rfl) (Nat.le_of_ble_eq_true rfl) dX5_pass_12 rfl hr (fun h102 hr => ?_)
  refine mb_aload_n (pn := 16) 0 dX5_pass_15 rfl rfl rfl ?_
  refine gf_X5_16 (pn := 19) dX5_pass_16 rfl ?_
  refine mb_iload_n (pn := 20) 1 dX5_pass_19 rfl rfl rfl ?_
  refine mb_aload_n (pn := 21) 0 dX5_pass_20 rfl rfl rfl ?_
  refine gf_X5_26 (pn := 24) dX5_pass_21 rfl ?_
  refine cl_X5_260 (pn := 27) hst hg (Nat.le_of_ble_eq_true rfl) (Nat.le_of_ble_eq_true rfl) dX5_pass_24 rfl hr (fun y104 h103 hr => ?_)
  refine mb_istore_n (pn := 28) (lv2 := [(2, .inl y104), (0, mb_F 0 0 0), (1, .inl x1)]) dX5_pass_27 rfl (by decide) rfl rfl ?_
  refine mb_iload_n (pn := 29) 0 dX5_pass_28 rfl rfl rfl ?_
  refine mb_iconst (v := (-1)) (pn := 30) dX5_pass_29 (by decide) rfl ?_
  refine mb_ic_ne (tgt := 44) (pn := 33) dX5_pass_30 (by decide) rfl hr (fun hr => ?_) (fun hr => ?_)
  · refine mb_aload_n (pn := 45) 1 dX5_pass_44 rfl rfl rfl ?_
    refine cl_X5_48 (pn := 48) hst hg (Nat.le_of_ble_eq_true rfl) (Nat.le_of_ble_eq_true rfl) dX5_pass_45 rfl hr (fun h105 hr => ?_)
    refine mb_aload_n (pn := 49) 1 dX5_pass_48 rfl rfl rfl ?_
    refine gf_X5_10 (pn := 52) dX5_pass_49 rfl ?_
    refine mb_aload_n (pn := 53) 1 dX5_pass_52 rfl rfl rfl ?_
    refine gf_X5_16 (pn := 56) dX5_pass_53 rfl ?_
    refine cl_X5_256 (pn := 59) hst hg (Nat.le_of_ble_eq_true rfl) (Nat.le_of_ble_eq_true rfl) dX5_pass_56 rfl hr (fun h106 hr => ?_)
    refine mb_iload_n (pn := 60) 0 dX5_pass_59 rfl rfl rfl ?_
    cases hr
    exact mb_iret dX5_pass_60
  · cases hr
    exact mb_throwW (ik := 78) (is := 264) (ic := 82) (cls := "java/lang/IllegalStateException") (text := "a boat would owe too much") (names := ["java/lang/RuntimeException", "java/lang/Exception"]) rfl (by decide +kernel) fn_X5_82 (by decide) wc_X5_78 mn_ISE (by decide +kernel) at_X5_82 (Nat.le_of_ble_eq_true rfl) dX5_pass_33 dX5_pass_36 dX5_pass_37 dX5_pass_40 dX5_pass_43
def F_X5_pay (x1 : Int32) (x2 : Int32) (h : mb_AH) : Option mb_RS := (mb_cV (F_X5_checkBoat x1 h) fun h101 => (mb_gB x1 20 (mb_cI (F_X5_isWithin x2 (1 : Int32) (h101.1 3 0 x1.toNatClampNeg 6) h101) fun y103 h102 => (if y103 = 0 then (some (.inr "java/lang/IllegalArgumentException", h102)) else (mb_cV (F_X5_remember h102) fun h104 => (mb_up (mb_sI h104 3 0 x1.toNatClampNeg 6 ((h104.1 3 0 x1.toNatClampNeg 6) - x2)) fun h105 => (mb_up (mb_sL h105 1 0 0 13 ((h105.2.1 1 0 0 13) + x2.toInt64)) fun h106 => (some (.inl (some (.inl (h106.1 3 0 x1.toNatClampNeg 6))), h106)))))))))
set_option maxRecDepth 100000 in
set_option maxHeartbeats 4000000 in
theorem C_X5_pay {l : Launch} {G : mb_G} (hst : l.stackTraces = false) (hg : mb_gok G) {x1 : Int32} {x2 : Int32} {h : mb_AH} {res : mb_RS} (hr : F_X5_pay x1 x2 h = some res) : mb_Mt l G yX5_pay cX5_pay 4 (some .int) 4 [mb_F 0 0 0, .inl x1, .inl x2] h res := by
  refine mb_entry (own := RX5) (lv := [(0, mb_F 0 0 0), (1, .inl x1), (2, .inl x2)]) (by decide +kernel) rfl (Nat.le_of_ble_eq_true rfl) rfl rfl (fun _ => ?_) hst hg
  unfold F_X5_pay at hr
  refine mb_aload_n (pn := 1) 0 dX5_pay_0 rfl rfl rfl ?_
  refine mb_iload_n (pn := 2) 1 dX5_pay_1 rfl rfl rfl ?_
  refine cl_X5_161 (pn := 5) hst hg (Nat.le_of_ble_eq_true rfl) (Nat.le_of_ble_eq_true rfl) dX5_pay_2 rfl hr (fun h101 hr => ?_)
  refine mb_aload_n (pn := 6) 0 dX5_pay_5 rfl rfl rfl ?_
  refine gf_X5_10 (pn := 9) dX5_pay_6 rfl ?_
  refine gf_X5_100 (pn := 12) dX5_pay_9 rfl ?_
  refine mb_iload_n (pn := 13) 1 dX5_pay_12 rfl rfl rfl ?_
  refine mb_aald11 (pn := 14) dX5_pay_13 rfl hr (fun hr => ?_)
  refine mb_astore_n (pn := 15) (lv2 := [(3, mb_F 3 0 x1.toNatClampNeg), (0, mb_F 0 0 0), (1, .inl x1), (2, .inl x2)]) dX5_pay_14 rfl (by decide) rfl rfl ?_
  refine mb_iload_n (pn := 16) 3 dX5_pay_15 rfl rfl rfl ?_
  refine mb_iconst (v := 1) (pn := 17) dX5_pay_16 (by decide) rfl ?_
  refine mb_aload_n (pn := 18) 0 dX5_pay_17 rfl rfl rfl ?_
  refine gf_X5_184 (pn := 21) dX5_pay_18 rfl ?_
  refine cl_X5_65 (pn := 24) hst hg (Nat.le_of_ble_eq_true rfl) (Nat.le_of_ble_eq_true rfl) dX5_pay_21 rfl hr (fun y103 h102 hr => ?_)
  refine mb_if_ne (tgt := 38) (pn := 27) dX5_pay_24 (by decide) rfl hr (fun hr => ?_) (fun hr => ?_)
  · refine mb_aload_n (pn := 39) 1 dX5_pay_38 rfl rfl rfl ?_
    refine cl_X5_48 (pn := 42) hst hg (Nat.le_of_ble_eq_true rfl) (Nat.le_of_ble_eq_true rfl) dX5_pay_39 rfl hr (fun h104 hr => ?_)
    refine mb_aload_n (pn := 43) 0 dX5_pay_42 rfl rfl rfl ?_
    refine mb_dup (pn := 44) rfl dX5_pay_43 rfl ?_
    refine gf_X5_184 (pn := 47) dX5_pay_44 rfl ?_
    refine mb_iload_n (pn := 48) 3 dX5_pay_47 rfl rfl rfl ?_
    refine mb_isub (pn := 49) dX5_pay_48 rfl ?_
    refine pf_X5_184 (pn := 52) dX5_pay_49 rfl hr (fun h105 hr => ?_)
    refine mb_aload_n (pn := 53) 1 dX5_pay_52 rfl rfl rfl ?_
    refine gf_X5_10 (pn := 56) dX5_pay_53 rfl ?_
    refine mb_dup (pn := 57) rfl dX5_pay_56 rfl ?_
    refine gf_X5_268 (pn := 60) dX5_pay_57 rfl ?_
    refine mb_iload_n (pn := 61) 3 dX5_pay_60 rfl rfl rfl ?_
    refine mb_i2l (pn := 62) dX5_pay_61 rfl ?_
    refine mb_ladd (pn := 63) dX5_pay_62 rfl ?_
    refine pf_X5_268 (pn := 66) dX5_pay_63 rfl hr (fun h106 hr => ?_)
    refine mb_aload_n (pn := 67) 0 dX5_pay_66 rfl rfl rfl ?_
    refine gf_X5_184 (pn := 70) dX5_pay_67 rfl ?_
    cases hr
    exact mb_iret dX5_pay_70
  · cases hr
    exact mb_throwW (ik := 41) (is := 266) (ic := 45) (cls := "java/lang/IllegalArgumentException") (text := "the amount is not from 1 to what the boat owes") (names := ["java/lang/RuntimeException", "java/lang/Exception"]) rfl (by decide +kernel) fn_X5_45 (by decide) wc_X5_41 mn_IAE (by decide +kernel) at_X5_45 (Nat.le_of_ble_eq_true rfl) dX5_pay_27 dX5_pay_30 dX5_pay_31 dX5_pay_34 dX5_pay_37
set_option maxRecDepth 100000 in
set_option maxHeartbeats 4000000 in
theorem cl_X5_274 {l : Launch} {G : mb_G} {cc : ByteArray} {nL : Nat} {ret : Option FieldType} {d pc pn : Nat} {lv : List (Nat × mb_AV)} {st : List mb_AV} {h : mb_AH} {res : mb_RS} (hst : l.stackTraces = false) (hg : mb_gok G) {a0 : Nat} {b0 : Nat} {x1 : Int64} {K : Int32 → mb_AH → Option mb_RS} (hd2 : 0 + 1 ≤ d) (hs4 : st.length ≤ 4) (dg : decode cc pc = .ok (.invokevirtual 274, 3)) (hn : pc + 3 = pn) (hr : mb_cI (F_X1_canOweMore a0 b0 x1 h) K = some res) (kk : ∀ (x : Int32) (h2 : mb_AH), K x h2 = some res → mb_Ev l G RX5 cc nL ret d pn lv (.inl x :: st) h2 res) : mb_Ev l G RX5 cc nL ret d pc lv (.inr (.inl x1) :: mb_F 3 a0 b0 :: st) h res := mb_kVI (as := [.inr (.inl x1)]) (n := 1) (d2 := 0) (ci := 1) (fun _ hf => C_X1_canOweMore hst hg hf) (mb_gV wl_X5_274 mi_X1_canOweMore ms_X1_canOweMore mn_X1 mc_X1_canOweMore) (by decide +kernel) rfl rfl rfl hd2 (by decide) hs4 rfl dg hn hr kk
def F_X5_charge (x1 : Int32) (x2 : Int32) (h : mb_AH) : Option mb_RS := (mb_cV (F_X5_checkBoat x1 h) fun h101 => (if 0 ≤ x2 then (mb_gB x1 20 (mb_cI (F_X1_canOweMore 0 x1.toNatClampNeg x2.toInt64 h101) fun y103 h102 => (if y103 = 0 then (some (.inr "java/lang/IllegalStateException", h102)) else (mb_cV (F_X5_remember h102) fun h104 => (mb_up (mb_sI h104 3 0 x1.toNatClampNeg 6 ((h104.1 3 0 x1.toNatClampNeg 6) + x2)) fun h105 => (some (.inl (some (.inl (h105.1 3 0 x1.toNatClampNeg 6))), h105))))))) else (some (.inr "java/lang/IllegalArgumentException", h101))))
set_option maxRecDepth 100000 in
set_option maxHeartbeats 4000000 in
theorem C_X5_charge {l : Launch} {G : mb_G} (hst : l.stackTraces = false) (hg : mb_gok G) {x1 : Int32} {x2 : Int32} {h : mb_AH} {res : mb_RS} (hr : F_X5_charge x1 x2 h = some res) : mb_Mt l G yX5_charge cX5_charge 4 (some .int) 4 [mb_F 0 0 0, .inl x1, .inl x2] h res := by
  refine mb_entry (own := RX5) (lv := [(0, mb_F 0 0 0), (1, .inl x1), (2, .inl x2)]) (by decide +kernel) rfl (Nat.le_of_ble_eq_true rfl) rfl rfl (fun _ => ?_) hst hg
  unfold F_X5_charge at hr
  refine mb_aload_n (pn := 1) 0 dX5_charge_0 rfl rfl rfl ?_
  refine mb_iload_n (pn := 2) 1 dX5_charge_1 rfl rfl rfl ?_
  refine cl_X5_161 (pn := 5) hst hg (Nat.le_of_ble_eq_true rfl) (Nat.le_of_ble_eq_true rfl) dX5_charge_2 rfl hr (fun h101 hr => ?_)
  refine mb_iload_n (pn := 6) 2 dX5_charge_5 rfl rfl rfl ?_
  refine mb_if_ge (tgt := 20) (pn := 9) dX5_charge_6 (by decide) rfl hr (fun hr => ?_) (fun hr => ?_)
  · refine mb_aload_n (pn := 21) 0 dX5_charge_20 rfl rfl rfl ?_
    refine gf_X5_10 (pn := 24) dX5_charge_21 rfl ?_
    refine gf_X5_100 (pn := 27) dX5_charge_24 rfl ?_
    refine mb_iload_n (pn := 28) 1 dX5_charge_27 rfl rfl rfl ?_
    refine mb_aald11 (pn := 29) dX5_charge_28 rfl hr (fun hr => ?_)
    refine mb_astore_n (pn := 30) (lv2 := [(3, mb_F 3 0 x1.toNatClampNeg), (0, mb_F 0 0 0), (1, .inl x1), (2, .inl x2)]) dX5_charge_29 rfl (by decide) rfl rfl ?_
    refine mb_aload_n (pn := 31) 0 dX5_charge_30 rfl rfl rfl ?_
    refine mb_iload_n (pn := 32) 3 dX5_charge_31 rfl rfl rfl ?_
    refine mb_i2l (pn := 33) dX5_charge_32 rfl ?_
    refine cl_X5_274 (pn := 36) hst hg (Nat.le_of_ble_eq_true rfl) (Nat.le_of_ble_eq_true rfl) dX5_charge_33 rfl hr (fun y103 h102 hr => ?_)
    refine mb_if_ne (tgt := 50) (pn := 39) dX5_charge_36 (by decide) rfl hr (fun hr => ?_) (fun hr => ?_)
    · refine mb_aload_n (pn := 51) 1 dX5_charge_50 rfl rfl rfl ?_
      refine cl_X5_48 (pn := 54) hst hg (Nat.le_of_ble_eq_true rfl) (Nat.le_of_ble_eq_true rfl) dX5_charge_51 rfl hr (fun h104 hr => ?_)
      refine mb_aload_n (pn := 55) 0 dX5_charge_54 rfl rfl rfl ?_
      refine mb_dup (pn := 56) rfl dX5_charge_55 rfl ?_
      refine gf_X5_184 (pn := 59) dX5_charge_56 rfl ?_
      refine mb_iload_n (pn := 60) 3 dX5_charge_59 rfl rfl rfl ?_
      refine mb_iadd (pn := 61) dX5_charge_60 rfl ?_
      refine pf_X5_184 (pn := 64) dX5_charge_61 rfl hr (fun h105 hr => ?_)
      refine mb_aload_n (pn := 65) 0 dX5_charge_64 rfl rfl rfl ?_
      refine gf_X5_184 (pn := 68) dX5_charge_65 rfl ?_
      cases hr
      exact mb_iret dX5_charge_68
    · cases hr
      exact mb_throwW (ik := 78) (is := 278) (ic := 82) (cls := "java/lang/IllegalStateException") (text := "the boat would owe too much") (names := ["java/lang/RuntimeException", "java/lang/Exception"]) rfl (by decide +kernel) fn_X5_82 (by decide) wc_X5_78 mn_ISE (by decide +kernel) at_X5_82 (Nat.le_of_ble_eq_true rfl) dX5_charge_39 dX5_charge_42 dX5_charge_43 dX5_charge_46 dX5_charge_49
  · cases hr
    exact mb_throwW (ik := 41) (is := 272) (ic := 45) (cls := "java/lang/IllegalArgumentException") (text := "the amount is negative") (names := ["java/lang/RuntimeException", "java/lang/Exception"]) rfl (by decide +kernel) fn_X5_45 (by decide) wc_X5_41 mn_IAE (by decide +kernel) at_X5_45 (Nat.le_of_ble_eq_true rfl) dX5_charge_9 dX5_charge_12 dX5_charge_13 dX5_charge_16 dX5_charge_19
set_option maxRecDepth 100000 in
set_option maxHeartbeats 4000000 in
theorem cl_X5_280 {l : Launch} {G : mb_G} {cc : ByteArray} {nL : Nat} {ret : Option FieldType} {d pc pn : Nat} {lv : List (Nat × mb_AV)} {st : List mb_AV} {h : mb_AH} {res : mb_RS} (hst : l.stackTraces = false) (hg : mb_gok G) {a0 : Nat} {K : Int64 → mb_AH → Option mb_RS} (hd2 : 0 + 1 ≤ d) (hs4 : st.length ≤ 4) (dg : decode cc pc = .ok (.invokevirtual 280, 3)) (hn : pc + 3 = pn) (hr : mb_cL (F_X2_owedInAll a0 h) K = some res) (kk : ∀ (x : Int64) (h2 : mb_AH), K x h2 = some res → mb_Ev l G RX5 cc nL ret d pn lv (.inr (.inl x) :: st) h2 res) : mb_Ev l G RX5 cc nL ret d pc lv (mb_F 1 a0 0 :: st) h res := mb_kVL (as := []) (n := 0) (d2 := 0) (ci := 2) (fun _ hf => C_X2_owedInAll hst hg hf) (mb_gV wl_X5_280 mi_X2_owedInAll ms_X2_owedInAll mn_X2 mc_X2_owedInAll) (by decide +kernel) rfl rfl rfl hd2 (by decide) hs4 rfl dg hn hr kk
def F_X5_owed  (h : mb_AH) : Option mb_RS := (mb_cL (F_X2_owedInAll 0 h) fun y102 h101 => (some (.inl (some (.inr (.inl y102))), h101)))
set_option maxRecDepth 100000 in
set_option maxHeartbeats 4000000 in
theorem C_X5_owed {l : Launch} {G : mb_G} (hst : l.stackTraces = false) (hg : mb_gok G)  {h : mb_AH} {res : mb_RS} (hr : F_X5_owed  h = some res) : mb_Mt l G yX5_owed cX5_owed 1 (some .long) 1 [mb_F 0 0 0] h res := by
  refine mb_entry (own := RX5) (lv := [(0, mb_F 0 0 0)]) (by decide +kernel) rfl (Nat.le_of_ble_eq_true rfl) rfl rfl (fun _ => ?_) hst hg
  unfold F_X5_owed at hr
  refine mb_aload_n (pn := 1) 0 dX5_owed_0 rfl rfl rfl ?_
  refine gf_X5_10 (pn := 4) dX5_owed_1 rfl ?_
  refine cl_X5_280 (pn := 7) hst hg (Nat.le_of_ble_eq_true rfl) (Nat.le_of_ble_eq_true rfl) dX5_owed_4 rfl hr (fun y102 h101 hr => ?_)
  cases hr
  exact mb_lret dX5_owed_7
def F_X5_paid  (h : mb_AH) : Option mb_RS := (some (.inl (some (.inr (.inl (h.2.1 1 0 0 13)))), h))
set_option maxRecDepth 100000 in
set_option maxHeartbeats 4000000 in
theorem C_X5_paid {l : Launch} {G : mb_G} (hst : l.stackTraces = false) (hg : mb_gok G)  {h : mb_AH} {res : mb_RS} (hr : F_X5_paid  h = some res) : mb_Mt l G yX5_paid cX5_paid 1 (some .long) 0 [mb_F 0 0 0] h res := by
  refine mb_entry (own := RX5) (lv := [(0, mb_F 0 0 0)]) (by decide +kernel) rfl (Nat.le_of_ble_eq_true rfl) rfl rfl (fun _ => ?_) hst hg
  unfold F_X5_paid at hr
  refine mb_aload_n (pn := 1) 0 dX5_paid_0 rfl rfl rfl ?_
  refine gf_X5_10 (pn := 4) dX5_paid_1 rfl ?_
  refine gf_X5_268 (pn := 7) dX5_paid_4 rfl ?_
  cases hr
  exact mb_lret dX5_paid_7
def F_X5_owesAfter (x1 : Int32) (x2 : Int32) (h : mb_AH) : Option mb_RS := (mb_cV (F_X5_checkBoat x1 h) fun h101 => (mb_cV (F_X5_checkDays x2 h101) fun h102 => (mb_cV (F_X2_copyFrom 1 0 h102) fun h103 => (mb_cI (F_X2_letPass 1 x2 h103) fun y105 h104 => (if y105 = (-1) then (some (.inl (some (.inl (-1))), h104)) else (mb_gB x1 20 (some (.inl (some (.inl (h104.1 3 1 x1.toNatClampNeg 6))), h104))))))))
set_option maxRecDepth 100000 in
set_option maxHeartbeats 4000000 in
theorem C_X5_owesAfter {l : Launch} {G : mb_G} (hst : l.stackTraces = false) (hg : mb_gok G) {x1 : Int32} {x2 : Int32} {h : mb_AH} {res : mb_RS} (hr : F_X5_owesAfter x1 x2 h = some res) : mb_Mt l G yX5_owesAfter cX5_owesAfter 3 (some .int) 25 [mb_F 0 0 0, .inl x1, .inl x2] h res := by
  refine mb_entry (own := RX5) (lv := [(0, mb_F 0 0 0), (1, .inl x1), (2, .inl x2)]) (by decide +kernel) rfl (Nat.le_of_ble_eq_true rfl) rfl rfl (fun _ => ?_) hst hg
  unfold F_X5_owesAfter at hr
  refine mb_aload_n (pn := 1) 0 dX5_owesAfter_0 rfl rfl rfl ?_
  refine mb_iload_n (pn := 2) 1 dX5_owesAfter_1 rfl rfl rfl ?_
  refine cl_X5_161 (pn := 5) hst hg (Nat.le_of_ble_eq_true rfl) (Nat.le_of_ble_eq_true rfl) dX5_owesAfter_2 rfl hr (fun h101 hr => ?_)
  refine mb_iload_n (pn := 6) 2 dX5_owesAfter_5 rfl rfl rfl ?_
  refine cl_X5_253 (pn := 9) hst hg (Nat.le_of_ble_eq_true rfl) (Nat.le_of_ble_eq_true rfl) dX5_owesAfter_6 rfl hr (fun h102 hr => ?_)
  refine mb_aload_n (pn := 10) 0 dX5_owesAfter_9 rfl rfl rfl ?_
  refine gf_X5_16 (pn := 13) dX5_owesAfter_10 rfl ?_
  refine mb_aload_n (pn := 14) 0 dX5_owesAfter_13 rfl rfl rfl ?_
  refine gf_X5_10 (pn := 17) dX5_owesAfter_14 rfl ?_
  refine cl_X5_256 (pn := 20) hst hg (Nat.le_of_ble_eq_true rfl) (Nat.le_of_ble_eq_true rfl) dX5_owesAfter_17 rfl hr (fun h103 hr => ?_)
  refine mb_aload_n (pn := 21) 0 dX5_owesAfter_20 rfl rfl rfl ?_
  refine gf_X5_16 (pn := 24) dX5_owesAfter_21 rfl ?_
  refine mb_iload_n (pn := 25) 2 dX5_owesAfter_24 rfl rfl rfl ?_
  refine mb_aload_n (pn := 26) 0 dX5_owesAfter_25 rfl rfl rfl ?_
  refine gf_X5_26 (pn := 29) dX5_owesAfter_26 rfl ?_
  refine cl_X5_260 (pn := 32) hst hg (Nat.le_of_ble_eq_true rfl) (Nat.le_of_ble_eq_true rfl) dX5_owesAfter_29 rfl hr (fun y105 h104 hr => ?_)
  refine mb_iconst (v := (-1)) (pn := 33) dX5_owesAfter_32 (by decide) rfl ?_
  refine mb_ic_ne (tgt := 40) (pn := 36) dX5_owesAfter_33 (by decide) rfl hr (fun hr => ?_) (fun hr => ?_)
  · refine mb_aload_n (pn := 41) 0 dX5_owesAfter_40 rfl rfl rfl ?_
    refine gf_X5_16 (pn := 44) dX5_owesAfter_41 rfl ?_
    refine gf_X5_100 (pn := 47) dX5_owesAfter_44 rfl ?_
    refine mb_iload_n (pn := 48) 1 dX5_owesAfter_47 rfl rfl rfl ?_
    refine mb_aald11 (pn := 49) dX5_owesAfter_48 rfl hr (fun hr => ?_)
    refine gf_X5_184 (pn := 52) dX5_owesAfter_49 rfl ?_
    cases hr
    exact mb_iret dX5_owesAfter_52
  · refine mb_iconst (v := (-1)) (pn := 37) dX5_owesAfter_36 (by decide) rfl ?_
    refine mb_goto (tgt := 52) dX5_owesAfter_37 (by decide) ?_
    cases hr
    exact mb_iret dX5_owesAfter_52
set_option maxRecDepth 100000 in
set_option maxHeartbeats 4000000 in
theorem cl_X5_284 {l : Launch} {G : mb_G} {cc : ByteArray} {nL : Nat} {ret : Option FieldType} {d pc pn : Nat} {lv : List (Nat × mb_AV)} {st : List mb_AV} {h : mb_AH} {res : mb_RS} (hst : l.stackTraces = false) (hg : mb_gok G) {a0 : Nat} {a1 : Nat} {b1 : Nat} {K : Int32 → mb_AH → Option mb_RS} (hd2 : 2 + 1 ≤ d) (hs4 : st.length ≤ 4) (dg : decode cc pc = .ok (.invokevirtual 284, 3)) (hn : pc + 3 = pn) (hr : mb_cI (F_X2_daysUntilAground a0 a1 b1 h) K = some res) (kk : ∀ (x : Int32) (h2 : mb_AH), K x h2 = some res → mb_Ev l G RX5 cc nL ret d pn lv (.inl x :: st) h2 res) : mb_Ev l G RX5 cc nL ret d pc lv (mb_F 3 a1 b1 :: mb_F 1 a0 0 :: st) h res := mb_kVI (as := [mb_F 3 a1 b1]) (n := 1) (d2 := 2) (ci := 2) (fun _ hf => C_X2_daysUntilAground hst hg hf) (mb_gV wl_X5_284 mi_X2_daysUntilAground ms_X2_daysUntilAground mn_X2 mc_X2_daysUntilAground) (by decide +kernel) rfl rfl rfl hd2 (by decide) hs4 rfl dg hn hr kk
def F_X5_groundsIn (x1 : Int32) (h : mb_AH) : Option mb_RS := (mb_cV (F_X5_checkBoat x1 h) fun h101 => (mb_gB x1 20 (mb_cI (F_X2_daysUntilAground 0 0 x1.toNatClampNeg h101) fun y103 h102 => (some (.inl (some (.inl y103)), h102)))))
set_option maxRecDepth 100000 in
set_option maxHeartbeats 4000000 in
theorem C_X5_groundsIn {l : Launch} {G : mb_G} (hst : l.stackTraces = false) (hg : mb_gok G) {x1 : Int32} {h : mb_AH} {res : mb_RS} (hr : F_X5_groundsIn x1 h = some res) : mb_Mt l G yX5_groundsIn cX5_groundsIn 2 (some .int) 3 [mb_F 0 0 0, .inl x1] h res := by
  refine mb_entry (own := RX5) (lv := [(0, mb_F 0 0 0), (1, .inl x1)]) (by decide +kernel) rfl (Nat.le_of_ble_eq_true rfl) rfl rfl (fun _ => ?_) hst hg
  unfold F_X5_groundsIn at hr
  refine mb_aload_n (pn := 1) 0 dX5_groundsIn_0 rfl rfl rfl ?_
  refine mb_iload_n (pn := 2) 1 dX5_groundsIn_1 rfl rfl rfl ?_
  refine cl_X5_161 (pn := 5) hst hg (Nat.le_of_ble_eq_true rfl) (Nat.le_of_ble_eq_true rfl) dX5_groundsIn_2 rfl hr (fun h101 hr => ?_)
  refine mb_aload_n (pn := 6) 0 dX5_groundsIn_5 rfl rfl rfl ?_
  refine gf_X5_10 (pn := 9) dX5_groundsIn_6 rfl ?_
  refine mb_aload_n (pn := 10) 0 dX5_groundsIn_9 rfl rfl rfl ?_
  refine gf_X5_10 (pn := 13) dX5_groundsIn_10 rfl ?_
  refine gf_X5_100 (pn := 16) dX5_groundsIn_13 rfl ?_
  refine mb_iload_n (pn := 17) 1 dX5_groundsIn_16 rfl rfl rfl ?_
  refine mb_aald11 (pn := 18) dX5_groundsIn_17 rfl hr (fun hr => ?_)
  refine cl_X5_284 (pn := 21) hst hg (Nat.le_of_ble_eq_true rfl) (Nat.le_of_ble_eq_true rfl) dX5_groundsIn_18 rfl hr (fun y103 h102 hr => ?_)
  cases hr
  exact mb_iret dX5_groundsIn_21
set_option maxRecDepth 100000 in
set_option maxHeartbeats 4000000 in
theorem cl_X5_338 {l : Launch} {G : mb_G} {cc : ByteArray} {nL : Nat} {ret : Option FieldType} {d pc pn : Nat} {lv : List (Nat × mb_AV)} {st : List mb_AV} {h : mb_AH} {res : mb_RS} (hst : l.stackTraces = false) (hg : mb_gok G) {a0 : Nat} {K : mb_AH → Option mb_RS} (hd2 : 23 + 1 ≤ d) (hs4 : st.length ≤ 4) (dg : decode cc pc = .ok (.invokevirtual 338, 3)) (hn : pc + 3 = pn) (hr : mb_cV (F_X2_beginWinter a0 h) K = some res) (kk : ∀ (h2 : mb_AH), K h2 = some res → mb_Ev l G RX5 cc nL ret d pn lv st h2 res) : mb_Ev l G RX5 cc nL ret d pc lv (mb_F 4 0 0 :: mb_F 1 a0 0 :: st) h res := mb_kVV (as := [mb_F 4 0 0]) (n := 1) (d2 := 23) (ci := 2) (fun _ hf => C_X2_beginWinter hst hg hf) (mb_gV wl_X5_338 mi_X2_beginWinter ms_X2_beginWinter mn_X2 mc_X2_beginWinter) (by decide +kernel) rfl rfl rfl hd2 (by decide) hs4 rfl dg hn hr kk
def F_X5_thinkOfWinter  (h : mb_AH) : Option mb_RS := (if (h.1 1 0 0 12) = 0 then (mb_cV (F_X2_copyFrom 1 0 h) fun h101 => (mb_cV (F_X2_beginWinter 1 h101) fun h102 => (some (.inl none, h102)))) else (some (.inr "java/lang/IllegalStateException", h)))
set_option maxRecDepth 100000 in
set_option maxHeartbeats 4000000 in
theorem C_X5_thinkOfWinter {l : Launch} {G : mb_G} (hst : l.stackTraces = false) (hg : mb_gok G)  {h : mb_AH} {res : mb_RS} (hr : F_X5_thinkOfWinter  h = some res) : mb_Mt l G yX5_thinkOfWinter cX5_thinkOfWinter 1 none 24 [mb_F 0 0 0] h res := by
  refine mb_entry (own := RX5) (lv := [(0, mb_F 0 0 0)]) (by decide +kernel) rfl (Nat.le_of_ble_eq_true rfl) rfl rfl (fun _ => ?_) hst hg
  unfold F_X5_thinkOfWinter at hr
  refine mb_aload_n (pn := 1) 0 dX5_thinkOfWinter_0 rfl rfl rfl ?_
  refine gf_X5_10 (pn := 4) dX5_thinkOfWinter_1 rfl ?_
  refine gf_X5_203 (pn := 7) dX5_thinkOfWinter_4 rfl ?_
  refine mb_if_eq (tgt := 21) (pn := 10) dX5_thinkOfWinter_7 (by decide) rfl hr (fun hr => ?_) (fun hr => ?_)
  · refine mb_aload_n (pn := 22) 0 dX5_thinkOfWinter_21 rfl rfl rfl ?_
    refine gf_X5_16 (pn := 25) dX5_thinkOfWinter_22 rfl ?_
    refine mb_aload_n (pn := 26) 0 dX5_thinkOfWinter_25 rfl rfl rfl ?_
    refine gf_X5_10 (pn := 29) dX5_thinkOfWinter_26 rfl ?_
    refine cl_X5_256 (pn := 32) hst hg (Nat.le_of_ble_eq_true rfl) (Nat.le_of_ble_eq_true rfl) dX5_thinkOfWinter_29 rfl hr (fun h101 hr => ?_)
    refine mb_aload_n (pn := 33) 0 dX5_thinkOfWinter_32 rfl rfl rfl ?_
    refine gf_X5_16 (pn := 36) dX5_thinkOfWinter_33 rfl ?_
    refine mb_aload_n (pn := 37) 0 dX5_thinkOfWinter_36 rfl rfl rfl ?_
    refine gf_X5_26 (pn := 40) dX5_thinkOfWinter_37 rfl ?_
    refine cl_X5_338 (pn := 43) hst hg (Nat.le_of_ble_eq_true rfl) (Nat.le_of_ble_eq_true rfl) dX5_thinkOfWinter_40 rfl hr (fun h102 hr => ?_)
    cases hr
    exact mb_vret dX5_thinkOfWinter_43
  · cases hr
    exact mb_throwW (ik := 78) (is := 336) (ic := 82) (cls := "java/lang/IllegalStateException") (text := "it is winter") (names := ["java/lang/RuntimeException", "java/lang/Exception"]) rfl (by decide +kernel) fn_X5_82 (by decide) wc_X5_78 mn_ISE (by decide +kernel) at_X5_82 (Nat.le_of_ble_eq_true rfl) dX5_thinkOfWinter_10 dX5_thinkOfWinter_13 dX5_thinkOfWinter_14 dX5_thinkOfWinter_17 dX5_thinkOfWinter_20
set_option maxRecDepth 100000 in
set_option maxHeartbeats 4000000 in
theorem cl_X5_287 {l : Launch} {G : mb_G} {cc : ByteArray} {nL : Nat} {ret : Option FieldType} {d pc pn : Nat} {lv : List (Nat × mb_AV)} {st : List mb_AV} {h : mb_AH} {res : mb_RS} (hst : l.stackTraces = false) (hg : mb_gok G)  {K : mb_AH → Option mb_RS} (hd2 : 24 + 1 ≤ d) (hs4 : st.length ≤ 4) (dg : decode cc pc = .ok (.invokevirtual 287, 3)) (hn : pc + 3 = pn) (hr : mb_cV (F_X5_thinkOfWinter  h) K = some res) (kk : ∀ (h2 : mb_AH), K h2 = some res → mb_Ev l G RX5 cc nL ret d pn lv st h2 res) : mb_Ev l G RX5 cc nL ret d pc lv (mb_F 0 0 0 :: st) h res := mb_kVV (as := []) (n := 0) (d2 := 24) (ci := 5) (fun _ hf => C_X5_thinkOfWinter hst hg hf) (mb_gV wl_X5_287 mi_X5_thinkOfWinter ms_X5_thinkOfWinter mn_X5 mc_X5_thinkOfWinter) (by decide +kernel) rfl rfl rfl hd2 (by decide) hs4 rfl dg hn hr kk
def F_X5_winterBerth (x1 : Int32) (h : mb_AH) : Option mb_RS := (mb_cV (F_X5_checkBoat x1 h) fun h101 => (mb_cV (F_X5_thinkOfWinter h101) fun h102 => (mb_gB x1 20 (some (.inl (some (.inl (h102.1 3 1 x1.toNatClampNeg 4))), h102)))))
set_option maxRecDepth 100000 in
set_option maxHeartbeats 4000000 in
theorem C_X5_winterBerth {l : Launch} {G : mb_G} (hst : l.stackTraces = false) (hg : mb_gok G) {x1 : Int32} {h : mb_AH} {res : mb_RS} (hr : F_X5_winterBerth x1 h = some res) : mb_Mt l G yX5_winterBerth cX5_winterBerth 2 (some .int) 25 [mb_F 0 0 0, .inl x1] h res := by
  refine mb_entry (own := RX5) (lv := [(0, mb_F 0 0 0), (1, .inl x1)]) (by decide +kernel) rfl (Nat.le_of_ble_eq_true rfl) rfl rfl (fun _ => ?_) hst hg
  unfold F_X5_winterBerth at hr
  refine mb_aload_n (pn := 1) 0 dX5_winterBerth_0 rfl rfl rfl ?_
  refine mb_iload_n (pn := 2) 1 dX5_winterBerth_1 rfl rfl rfl ?_
  refine cl_X5_161 (pn := 5) hst hg (Nat.le_of_ble_eq_true rfl) (Nat.le_of_ble_eq_true rfl) dX5_winterBerth_2 rfl hr (fun h101 hr => ?_)
  refine mb_aload_n (pn := 6) 0 dX5_winterBerth_5 rfl rfl rfl ?_
  refine cl_X5_287 (pn := 9) hst hg (Nat.le_of_ble_eq_true rfl) (Nat.le_of_ble_eq_true rfl) dX5_winterBerth_6 rfl hr (fun h102 hr => ?_)
  refine mb_aload_n (pn := 10) 0 dX5_winterBerth_9 rfl rfl rfl ?_
  refine gf_X5_16 (pn := 13) dX5_winterBerth_10 rfl ?_
  refine gf_X5_100 (pn := 16) dX5_winterBerth_13 rfl ?_
  refine mb_iload_n (pn := 17) 1 dX5_winterBerth_16 rfl rfl rfl ?_
  refine mb_aald11 (pn := 18) dX5_winterBerth_17 rfl hr (fun hr => ?_)
  refine gf_X5_174 (pn := 21) dX5_winterBerth_18 rfl ?_
  cases hr
  exact mb_iret dX5_winterBerth_21
def F_X5_wouldGoAshore  (h : mb_AH) : Option mb_RS := (mb_cV (F_X5_thinkOfWinter h) fun h101 => (mb_cI (F_X2_countIn 1 (3 : Int32) h101) fun y103 h102 => (some (.inl (some (.inl y103)), h102))))
set_option maxRecDepth 100000 in
set_option maxHeartbeats 4000000 in
theorem C_X5_wouldGoAshore {l : Launch} {G : mb_G} (hst : l.stackTraces = false) (hg : mb_gok G)  {h : mb_AH} {res : mb_RS} (hr : F_X5_wouldGoAshore  h = some res) : mb_Mt l G yX5_wouldGoAshore cX5_wouldGoAshore 1 (some .int) 25 [mb_F 0 0 0] h res := by
  refine mb_entry (own := RX5) (lv := [(0, mb_F 0 0 0)]) (by decide +kernel) rfl (Nat.le_of_ble_eq_true rfl) rfl rfl (fun _ => ?_) hst hg
  unfold F_X5_wouldGoAshore at hr
  refine mb_aload_n (pn := 1) 0 dX5_wouldGoAshore_0 rfl rfl rfl ?_
  refine cl_X5_287 (pn := 4) hst hg (Nat.le_of_ble_eq_true rfl) (Nat.le_of_ble_eq_true rfl) dX5_wouldGoAshore_1 rfl hr (fun h101 hr => ?_)
  refine mb_aload_n (pn := 5) 0 dX5_wouldGoAshore_4 rfl rfl rfl ?_
  refine gf_X5_16 (pn := 8) dX5_wouldGoAshore_5 rfl ?_
  refine mb_iconst (v := 3) (pn := 9) dX5_wouldGoAshore_8 (by decide) rfl ?_
  refine cl_X5_206 (pn := 12) hst hg (Nat.le_of_ble_eq_true rfl) (Nat.le_of_ble_eq_true rfl) dX5_wouldGoAshore_9 rfl hr (fun y103 h102 hr => ?_)
  cases hr
  exact mb_iret dX5_wouldGoAshore_12
set_option maxRecDepth 100000 in
set_option maxHeartbeats 4000000 in
theorem cl_X5_290 {l : Launch} {G : mb_G} {cc : ByteArray} {nL : Nat} {ret : Option FieldType} {d pc pn : Nat} {lv : List (Nat × mb_AV)} {st : List mb_AV} {h : mb_AH} {res : mb_RS} (hst : l.stackTraces = false) (hg : mb_gok G) {a0 : Nat} {K : Int32 → mb_AH → Option mb_RS} (hd2 : 1 + 1 ≤ d) (hs4 : st.length ≤ 4) (dg : decode cc pc = .ok (.invokevirtual 290, 3)) (hn : pc + 3 = pn) (hr : mb_cI (F_X2_clearanceForAll a0 h) K = some res) (kk : ∀ (x : Int32) (h2 : mb_AH), K x h2 = some res → mb_Ev l G RX5 cc nL ret d pn lv (.inl x :: st) h2 res) : mb_Ev l G RX5 cc nL ret d pc lv (mb_F 1 a0 0 :: st) h res := mb_kVI (as := []) (n := 0) (d2 := 1) (ci := 2) (fun _ hf => C_X2_clearanceForAll hst hg hf) (mb_gV wl_X5_290 mi_X2_clearanceForAll ms_X2_clearanceForAll mn_X2 mc_X2_clearanceForAll) (by decide +kernel) rfl rfl rfl hd2 (by decide) hs4 rfl dg hn hr kk
def F_X5_greatestClearance  (h : mb_AH) : Option mb_RS := (mb_cI (F_X2_clearanceForAll 0 h) fun y102 h101 => (some (.inl (some (.inl y102)), h101)))
set_option maxRecDepth 100000 in
set_option maxHeartbeats 4000000 in
theorem C_X5_greatestClearance {l : Launch} {G : mb_G} (hst : l.stackTraces = false) (hg : mb_gok G)  {h : mb_AH} {res : mb_RS} (hr : F_X5_greatestClearance  h = some res) : mb_Mt l G yX5_greatestClearance cX5_greatestClearance 1 (some .int) 2 [mb_F 0 0 0] h res := by
  refine mb_entry (own := RX5) (lv := [(0, mb_F 0 0 0)]) (by decide +kernel) rfl (Nat.le_of_ble_eq_true rfl) rfl rfl (fun _ => ?_) hst hg
  unfold F_X5_greatestClearance at hr
  refine mb_aload_n (pn := 1) 0 dX5_greatestClearance_0 rfl rfl rfl ?_
  refine gf_X5_10 (pn := 4) dX5_greatestClearance_1 rfl ?_
  refine cl_X5_290 (pn := 7) hst hg (Nat.le_of_ble_eq_true rfl) (Nat.le_of_ble_eq_true rfl) dX5_greatestClearance_4 rfl hr (fun y102 h101 hr => ?_)
  cases hr
  exact mb_iret dX5_greatestClearance_7
set_option maxRecDepth 100000 in
set_option maxHeartbeats 4000000 in
theorem cl_X5_293 {l : Launch} {G : mb_G} {cc : ByteArray} {nL : Nat} {ret : Option FieldType} {d pc pn : Nat} {lv : List (Nat × mb_AV)} {st : List mb_AV} {h : mb_AH} {res : mb_RS} (hst : l.stackTraces = false) (hg : mb_gok G) {a0 : Nat} {a1 : Nat} {b1 : Nat} {a2 : Nat} {b2 : Nat} {K : Int32 → mb_AH → Option mb_RS} (hd2 : 0 + 1 ≤ d) (hs4 : st.length ≤ 4) (dg : decode cc pc = .ok (.invokevirtual 293, 3)) (hn : pc + 3 = pn) (hr : mb_cI (F_X2_lackOfWater a0 a1 b1 a2 b2 h) K = some res) (kk : ∀ (x : Int32) (h2 : mb_AH), K x h2 = some res → mb_Ev l G RX5 cc nL ret d pn lv (.inl x :: st) h2 res) : mb_Ev l G RX5 cc nL ret d pc lv (mb_F 2 a2 b2 :: mb_F 3 a1 b1 :: mb_F 1 a0 0 :: st) h res := mb_kVI (as := [mb_F 3 a1 b1, mb_F 2 a2 b2]) (n := 2) (d2 := 0) (ci := 2) (fun _ hf => C_X2_lackOfWater hst hg hf) (mb_gV wl_X5_293 mi_X2_lackOfWater ms_X2_lackOfWater mn_X2 mc_X2_lackOfWater) (by decide +kernel) rfl rfl rfl hd2 (by decide) hs4 rfl dg hn hr kk
def F_X5_missingDepth (x1 : Int32) (x2 : Int32) (h : mb_AH) : Option mb_RS := (mb_cV (F_X5_checkBoat x1 h) fun h101 => (mb_cV (F_X5_checkBerth x2 h101) fun h102 => (mb_gB x1 20 (mb_gB x2 16 (if (h102.1 3 0 x1.toNatClampNeg 0) ≤ (h102.1 2 0 x2.toNatClampNeg 1) then (mb_cI (F_X2_lackOfWater 0 0 x1.toNatClampNeg 0 x2.toNatClampNeg h102) fun y104 h103 => (some (.inl (some (.inl (if 0 < y104 then y104 else 0))), h103))) else (some (.inl (some (.inl (-1))), h102)))))))
set_option maxRecDepth 100000 in
set_option maxHeartbeats 4000000 in
theorem C_X5_missingDepth {l : Launch} {G : mb_G} (hst : l.stackTraces = false) (hg : mb_gok G) {x1 : Int32} {x2 : Int32} {h : mb_AH} {res : mb_RS} (hr : F_X5_missingDepth x1 x2 h = some res) : mb_Mt l G yX5_missingDepth cX5_missingDepth 5 (some .int) 1 [mb_F 0 0 0, .inl x1, .inl x2] h res := by
  refine mb_entry (own := RX5) (lv := [(0, mb_F 0 0 0), (1, .inl x1), (2, .inl x2)]) (by decide +kernel) rfl (Nat.le_of_ble_eq_true rfl) rfl rfl (fun _ => ?_) hst hg
  unfold F_X5_missingDepth at hr
  refine mb_aload_n (pn := 1) 0 dX5_missingDepth_0 rfl rfl rfl ?_
  refine mb_iload_n (pn := 2) 1 dX5_missingDepth_1 rfl rfl rfl ?_
  refine cl_X5_161 (pn := 5) hst hg (Nat.le_of_ble_eq_true rfl) (Nat.le_of_ble_eq_true rfl) dX5_missingDepth_2 rfl hr (fun h101 hr => ?_)
  refine mb_aload_n (pn := 6) 0 dX5_missingDepth_5 rfl rfl rfl ?_
  refine mb_iload_n (pn := 7) 2 dX5_missingDepth_6 rfl rfl rfl ?_
  refine cl_X5_130 (pn := 10) hst hg (Nat.le_of_ble_eq_true rfl) (Nat.le_of_ble_eq_true rfl) dX5_missingDepth_7 rfl hr (fun h102 hr => ?_)
  refine mb_aload_n (pn := 11) 0 dX5_missingDepth_10 rfl rfl rfl ?_
  refine gf_X5_10 (pn := 14) dX5_missingDepth_11 rfl ?_
  refine gf_X5_100 (pn := 17) dX5_missingDepth_14 rfl ?_
  refine mb_iload_n (pn := 18) 1 dX5_missingDepth_17 rfl rfl rfl ?_
  refine mb_aald11 (pn := 19) dX5_missingDepth_18 rfl hr (fun hr => ?_)
  refine mb_astore_n (pn := 20) (lv2 := [(3, mb_F 3 0 x1.toNatClampNeg), (0, mb_F 0 0 0), (1, .inl x1), (2, .inl x2)]) dX5_missingDepth_19 rfl (by decide) rfl rfl ?_
  refine mb_aload_n (pn := 21) 1 dX5_missingDepth_20 rfl rfl rfl ?_
  refine gf_X5_10 (pn := 24) dX5_missingDepth_21 rfl ?_
  refine gf_X5_83 (pn := 27) dX5_missingDepth_24 rfl ?_
  refine mb_iload_n (pn := 28) 3 dX5_missingDepth_27 rfl rfl rfl ?_
  refine mb_aald10 (pn := 29) dX5_missingDepth_28 rfl hr (fun hr => ?_)
  refine mb_astore (pn := 31) (lv2 := [(4, mb_F 2 0 x2.toNatClampNeg), (3, mb_F 3 0 x1.toNatClampNeg), (0, mb_F 0 0 0), (1, .inl x1), (2, .inl x2)]) dX5_missingDepth_29 (by decide) rfl rfl ?_
  refine mb_aload_n (pn := 32) 1 dX5_missingDepth_31 rfl rfl rfl ?_
  refine gf_X5_164 (pn := 35) dX5_missingDepth_32 rfl ?_
  refine mb_aload (pn := 37) 0 dX5_missingDepth_35 rfl rfl ?_
  refine gf_X5_142 (pn := 40) dX5_missingDepth_37 rfl ?_
  refine mb_ic_le (tgt := 47) (pn := 43) dX5_missingDepth_40 (by decide) rfl hr (fun hr => ?_) (fun hr => ?_)
  · refine mb_iconst (v := 0) (pn := 48) dX5_missingDepth_47 (by decide) rfl ?_
    refine mb_aload_n (pn := 49) 2 dX5_missingDepth_48 rfl rfl rfl ?_
    refine gf_X5_10 (pn := 52) dX5_missingDepth_49 rfl ?_
    refine mb_aload_n (pn := 53) 1 dX5_missingDepth_52 rfl rfl rfl ?_
    refine mb_aload (pn := 55) 0 dX5_missingDepth_53 rfl rfl ?_
    refine cl_X5_293 (pn := 58) hst hg (Nat.le_of_ble_eq_true rfl) (Nat.le_of_ble_eq_true rfl) dX5_missingDepth_55 rfl hr (fun y104 h103 hr => ?_)
    refine mb_max (pn := 61) wl_X5_297 mM_max_s mM_i mM_max_c (Nat.le_of_ble_eq_true rfl) dX5_missingDepth_58 rfl ?_
    cases hr
    exact mb_iret dX5_missingDepth_61
  · refine mb_iconst (v := (-1)) (pn := 44) dX5_missingDepth_43 (by decide) rfl ?_
    refine mb_goto (tgt := 61) dX5_missingDepth_44 (by decide) ?_
    cases hr
    exact mb_iret dX5_missingDepth_61
set_option maxRecDepth 100000 in
set_option maxHeartbeats 4000000 in
theorem cl_X5_308 {l : Launch} {G : mb_G} {cc : ByteArray} {nL : Nat} {ret : Option FieldType} {d pc pn : Nat} {lv : List (Nat × mb_AV)} {st : List mb_AV} {h : mb_AH} {res : mb_RS} (hst : l.stackTraces = false) (hg : mb_gok G) {x1 : Int32} {K : mb_AH → Option mb_RS} (hd2 : 0 + 1 ≤ d) (hs4 : st.length ≤ 4) (dg : decode cc pc = .ok (.invokevirtual 308, 3)) (hn : pc + 3 = pn) (hr : mb_cV (F_X3_append x1 h) K = some res) (kk : ∀ (h2 : mb_AH), K h2 = some res → mb_Ev l G RX5 cc nL ret d pn lv st h2 res) : mb_Ev l G RX5 cc nL ret d pc lv (.inl x1 :: mb_F 5 0 0 :: st) h res := mb_kVV (as := [.inl x1]) (n := 1) (d2 := 0) (ci := 3) (fun _ hf => C_X3_append hst hg hf) (mb_gV wl_X5_308 mi_X3_append ms_X3_append mn_X3 mc_X3_append) (by decide +kernel) rfl rfl rfl hd2 (by decide) hs4 rfl dg hn hr kk
def F_X5_type (x1 : Int32) (h : mb_AH) : Option mb_RS := (mb_cI (F_X5_isWithin x1 (32 : Int32) (126 : Int32) h) fun y102 h101 => (if y102 = 0 then (some (.inr "java/lang/IllegalArgumentException", h101)) else (if (h101.1 5 0 0 1) < 70 then (mb_cV (F_X3_append ((x1.toUInt32 % 65536).toInt32) h101) fun h103 => (some (.inl (some (.inl (h103.1 5 0 0 1))), h103))) else (some (.inr "java/lang/IllegalStateException", h101)))))
set_option maxRecDepth 100000 in
set_option maxHeartbeats 4000000 in
theorem C_X5_type {l : Launch} {G : mb_G} (hst : l.stackTraces = false) (hg : mb_gok G) {x1 : Int32} {h : mb_AH} {res : mb_RS} (hr : F_X5_type x1 h = some res) : mb_Mt l G yX5_type cX5_type 2 (some .int) 1 [mb_F 0 0 0, .inl x1] h res := by
  refine mb_entry (own := RX5) (lv := [(0, mb_F 0 0 0), (1, .inl x1)]) (by decide +kernel) rfl (Nat.le_of_ble_eq_true rfl) rfl rfl (fun _ => ?_) hst hg
  unfold F_X5_type at hr
  refine mb_iload_n (pn := 1) 1 dX5_type_0 rfl rfl rfl ?_
  refine mb_bipush (v := 32) (pn := 3) dX5_type_1 (by decide) rfl ?_
  refine mb_bipush (v := 126) (pn := 5) dX5_type_3 (by decide) rfl ?_
  refine cl_X5_65 (pn := 8) hst hg (Nat.le_of_ble_eq_true rfl) (Nat.le_of_ble_eq_true rfl) dX5_type_5 rfl hr (fun y102 h101 hr => ?_)
  refine mb_if_ne (tgt := 22) (pn := 11) dX5_type_8 (by decide) rfl hr (fun hr => ?_) (fun hr => ?_)
  · refine mb_aload_n (pn := 23) 0 dX5_type_22 rfl rfl rfl ?_
    refine gf_X5_33 (pn := 26) dX5_type_23 rfl ?_
    refine gf_X5_305 (pn := 29) dX5_type_26 rfl ?_
    refine mb_bipush (v := 70) (pn := 31) dX5_type_29 (by decide) rfl ?_
    refine mb_ic_lt (tgt := 45) (pn := 34) dX5_type_31 (by decide) rfl hr (fun hr => ?_) (fun hr => ?_)
    · refine mb_aload_n (pn := 46) 0 dX5_type_45 rfl rfl rfl ?_
      refine gf_X5_33 (pn := 49) dX5_type_46 rfl ?_
      refine mb_iload_n (pn := 50) 1 dX5_type_49 rfl rfl rfl ?_
      refine mb_i2c (pn := 51) dX5_type_50 rfl ?_
      refine cl_X5_308 (pn := 54) hst hg (Nat.le_of_ble_eq_true rfl) (Nat.le_of_ble_eq_true rfl) dX5_type_51 rfl hr (fun h103 hr => ?_)
      refine mb_aload_n (pn := 55) 0 dX5_type_54 rfl rfl rfl ?_
      refine gf_X5_33 (pn := 58) dX5_type_55 rfl ?_
      refine gf_X5_305 (pn := 61) dX5_type_58 rfl ?_
      cases hr
      exact mb_iret dX5_type_61
    · cases hr
      exact mb_throwW (ik := 78) (is := 306) (ic := 82) (cls := "java/lang/IllegalStateException") (text := "the text has 70 characters") (names := ["java/lang/RuntimeException", "java/lang/Exception"]) rfl (by decide +kernel) fn_X5_82 (by decide) wc_X5_78 mn_ISE (by decide +kernel) at_X5_82 (Nat.le_of_ble_eq_true rfl) dX5_type_34 dX5_type_37 dX5_type_38 dX5_type_41 dX5_type_44
  · cases hr
    exact mb_throwW (ik := 41) (is := 303) (ic := 45) (cls := "java/lang/IllegalArgumentException") (text := "the code is not 32 to 126") (names := ["java/lang/RuntimeException", "java/lang/Exception"]) rfl (by decide +kernel) fn_X5_45 (by decide) wc_X5_41 mn_IAE (by decide +kernel) at_X5_45 (Nat.le_of_ble_eq_true rfl) dX5_type_11 dX5_type_14 dX5_type_15 dX5_type_18 dX5_type_21
def F_X5_clearText  (h : mb_AH) : Option mb_RS := (mb_lI (h.1 5 0 0 1) fun y101 => (mb_up (mb_sI h 5 0 0 1 0) fun h102 => (some (.inl (some (.inl y101)), h102))))
set_option maxRecDepth 100000 in
set_option maxHeartbeats 4000000 in
theorem C_X5_clearText {l : Launch} {G : mb_G} (hst : l.stackTraces = false) (hg : mb_gok G)  {h : mb_AH} {res : mb_RS} (hr : F_X5_clearText  h = some res) : mb_Mt l G yX5_clearText cX5_clearText 2 (some .int) 0 [mb_F 0 0 0] h res := by
  refine mb_entry (own := RX5) (lv := [(0, mb_F 0 0 0)]) (by decide +kernel) rfl (Nat.le_of_ble_eq_true rfl) rfl rfl (fun _ => ?_) hst hg
  unfold F_X5_clearText at hr
  refine mb_aload_n (pn := 1) 0 dX5_clearText_0 rfl rfl rfl ?_
  refine gf_X5_33 (pn := 4) dX5_clearText_1 rfl ?_
  refine gf_X5_305 (pn := 7) dX5_clearText_4 rfl ?_
  refine mb_nmI hr (fun y101 hr => ?_)
  refine mb_istore_n (pn := 8) (lv2 := [(1, .inl y101), (0, mb_F 0 0 0)]) dX5_clearText_7 rfl (by decide) rfl rfl ?_
  refine mb_aload_n (pn := 9) 1 dX5_clearText_8 rfl rfl rfl ?_
  refine gf_X5_33 (pn := 12) dX5_clearText_9 rfl ?_
  refine mb_iconst (v := 0) (pn := 13) dX5_clearText_12 (by decide) rfl ?_
  refine pf_X5_305 (pn := 16) dX5_clearText_13 rfl hr (fun h102 hr => ?_)
  refine mb_iload_n (pn := 17) 0 dX5_clearText_16 rfl rfl rfl ?_
  cases hr
  exact mb_iret dX5_clearText_17
def F_X5_fault  (h : mb_AH) : Option mb_RS := (mb_cI (F_X3_findFault h) fun y102 h101 => (some (.inl (some (.inl y102)), h101)))
set_option maxRecDepth 100000 in
set_option maxHeartbeats 4000000 in
theorem C_X5_fault {l : Launch} {G : mb_G} (hst : l.stackTraces = false) (hg : mb_gok G)  {h : mb_AH} {res : mb_RS} (hr : F_X5_fault  h = some res) : mb_Mt l G yX5_fault cX5_fault 1 (some .int) 2 [mb_F 0 0 0] h res := by
  refine mb_entry (own := RX5) (lv := [(0, mb_F 0 0 0)]) (by decide +kernel) rfl (Nat.le_of_ble_eq_true rfl) rfl rfl (fun _ => ?_) hst hg
  unfold F_X5_fault at hr
  refine mb_aload_n (pn := 1) 0 dX5_fault_0 rfl rfl rfl ?_
  refine gf_X5_33 (pn := 4) dX5_fault_1 rfl ?_
  refine cl_X5_37 (pn := 7) hst hg (Nat.le_of_ble_eq_true rfl) (Nat.le_of_ble_eq_true rfl) dX5_fault_4 rfl hr (fun y102 h101 hr => ?_)
  cases hr
  exact mb_iret dX5_fault_7
def F_X5_undo  (h : mb_AH) : Option mb_RS := (if 1 ≤ (h.1 0 0 0 3) then (mb_up (mb_sI h 0 0 0 3 ((h.1 0 0 0 3) - 1)) fun h101 => (mb_gB (h101.1 0 0 0 3) 4 (mb_cV (F_X2_copyFrom 0 (h101.2.2 (h101.1 0 0 0 3).toNatClampNeg) h101) fun h102 => (some (.inl (some (.inl (h102.1 0 0 0 3))), h102))))) else (some (.inr "java/lang/IllegalStateException", h)))
set_option maxRecDepth 100000 in
set_option maxHeartbeats 4000000 in
theorem C_X5_undo {l : Launch} {G : mb_G} (hst : l.stackTraces = false) (hg : mb_gok G)  {h : mb_AH} {res : mb_RS} (hr : F_X5_undo  h = some res) : mb_Mt l G yX5_undo cX5_undo 1 (some .int) 3 [mb_F 0 0 0] h res := by
  refine mb_entry (own := RX5) (lv := [(0, mb_F 0 0 0)]) (by decide +kernel) rfl (Nat.le_of_ble_eq_true rfl) rfl rfl (fun _ => ?_) hst hg
  unfold F_X5_undo at hr
  refine mb_aload_n (pn := 1) 0 dX5_undo_0 rfl rfl rfl ?_
  refine gf_X5_312 (pn := 4) dX5_undo_1 rfl ?_
  refine mb_iconst (v := 1) (pn := 5) dX5_undo_4 (by decide) rfl ?_
  refine mb_ic_ge (tgt := 19) (pn := 8) dX5_undo_5 (by decide) rfl hr (fun hr => ?_) (fun hr => ?_)
  · refine mb_aload_n (pn := 20) 0 dX5_undo_19 rfl rfl rfl ?_
    refine mb_dup (pn := 21) rfl dX5_undo_20 rfl ?_
    refine gf_X5_312 (pn := 24) dX5_undo_21 rfl ?_
    refine mb_iconst (v := 1) (pn := 25) dX5_undo_24 (by decide) rfl ?_
    refine mb_isub (pn := 26) dX5_undo_25 rfl ?_
    refine pf_X5_312 (pn := 29) dX5_undo_26 rfl hr (fun h101 hr => ?_)
    refine mb_aload_n (pn := 30) 0 dX5_undo_29 rfl rfl rfl ?_
    refine gf_X5_10 (pn := 33) dX5_undo_30 rfl ?_
    refine mb_aload_n (pn := 34) 0 dX5_undo_33 rfl rfl rfl ?_
    refine gf_X5_19 (pn := 37) dX5_undo_34 rfl ?_
    refine mb_aload_n (pn := 38) 0 dX5_undo_37 rfl rfl rfl ?_
    refine gf_X5_312 (pn := 41) dX5_undo_38 rfl ?_
    refine mb_aald13 (pn := 42) dX5_undo_41 rfl hr (fun hr => ?_)
    refine cl_X5_256 (pn := 45) hst hg (Nat.le_of_ble_eq_true rfl) (Nat.le_of_ble_eq_true rfl) dX5_undo_42 rfl hr (fun h102 hr => ?_)
    refine mb_aload_n (pn := 46) 0 dX5_undo_45 rfl rfl rfl ?_
    refine gf_X5_312 (pn := 49) dX5_undo_46 rfl ?_
    cases hr
    exact mb_iret dX5_undo_49
  · cases hr
    exact mb_throwW (ik := 78) (is := 315) (ic := 82) (cls := "java/lang/IllegalStateException") (text := "there is no record") (names := ["java/lang/RuntimeException", "java/lang/Exception"]) rfl (by decide +kernel) fn_X5_82 (by decide) wc_X5_78 mn_ISE (by decide +kernel) at_X5_82 (Nat.le_of_ble_eq_true rfl) dX5_undo_8 dX5_undo_11 dX5_undo_12 dX5_undo_15 dX5_undo_18
set_option maxRecDepth 100000 in
set_option maxHeartbeats 4000000 in
theorem cl_X5_328 {l : Launch} {G : mb_G} {cc : ByteArray} {nL : Nat} {ret : Option FieldType} {d pc pn : Nat} {lv : List (Nat × mb_AV)} {st : List mb_AV} {h : mb_AH} {res : mb_RS} (hst : l.stackTraces = false) (hg : mb_gok G) {x1 : Int32} {x2 : Int32} {K : Int32 → mb_AH → Option mb_RS} (hd2 : 3 + 1 ≤ d) (hs4 : st.length ≤ 4) (dg : decode cc pc = .ok (.invokevirtual 328, 3)) (hn : pc + 3 = pn) (hr : mb_cI (F_X5_berth x1 x2 h) K = some res) (kk : ∀ (x : Int32) (h2 : mb_AH), K x h2 = some res → mb_Ev l G RX5 cc nL ret d pn lv (.inl x :: st) h2 res) : mb_Ev l G RX5 cc nL ret d pc lv (.inl x2 :: .inl x1 :: mb_F 0 0 0 :: st) h res := mb_kVI (as := [.inl x1, .inl x2]) (n := 2) (d2 := 3) (ci := 5) (fun _ hf => C_X5_berth hst hg hf) (mb_gV wl_X5_328 mi_X5_berth ms_X5_berth mn_X5 mc_X5_berth) (by decide +kernel) rfl rfl rfl hd2 (by decide) hs4 rfl dg hn hr kk
def B_X5_withBerths_20 (K5 : Int64 → Int32 → mb_AH → Option mb_RS) : Nat → Int64 → Int32 → Int32 → mb_AH → Option mb_RS
  | 0, _, _, _, _ => none
  | n + 1, v3, v5, v6, h => (if 6 < v6 then (mb_lI (v5 + 1) fun y101 => (K5 v3 y101 h)) else (mb_cI (F_X5_berth v5 v6 h) fun y103 h102 => (mb_lL (((31 : Int64) * v3) + y103.toInt64) fun y104 => (mb_lI (v6 + 1) fun y105 => ((B_X5_withBerths_20 K5 n) y104 v5 y105 h102)))))
set_option maxRecDepth 100000 in
set_option maxHeartbeats 4000000 in
theorem T_X5_withBerths_20 {l : Launch} {G : mb_G} {res : mb_RS} (hst : l.stackTraces = false) (hg : mb_gok G) {K5 : Int64 → Int32 → mb_AH → Option mb_RS} (hK5 : ∀ (v3z : Int64) (v5z : Int32) (hz : mb_AH), K5 v3z v5z hz = some res → mb_Ev l G RX5 cX5_withBerths 7 (some .long) 4 5 [(0, mb_F 0 0 0), (3, .inr (.inl v3z)), (5, .inl v5z)] [] hz res) : ∀ (n : Nat) (v3 : Int64) (v5 : Int32) (v6 : Int32) (h : mb_AH), B_X5_withBerths_20 K5 n v3 v5 v6 h = some res → mb_Ev l G RX5 cX5_withBerths 7 (some .long) 4 20 [(0, mb_F 0 0 0), (3, .inr (.inl v3)), (5, .inl v5), (6, .inl v6)] [] h res := by
  intro n
  induction n with
  | zero => intro v3 v5 v6 h hr; cases hr
  | succ n ih =>
    intro v3 v5 v6 h hr
    rw [B_X5_withBerths_20] at hr
    refine mb_iload (pn := 22) 3 dX5_withBerths_20 rfl rfl ?_
    refine mb_bipush (v := 6) (pn := 24) dX5_withBerths_22 (by decide) rfl ?_
    refine mb_ic_gt (tgt := 49) (pn := 27) dX5_withBerths_24 (by decide) rfl hr (fun hr => ?_) (fun hr => ?_)
    · refine mb_nmx hr (fun y101 qy101 hr => ?_)
      refine mb_iinc (v := y101) (pn := 52) (lv2 := [(5, .inl y101), (0, mb_F 0 0 0), (3, .inr (.inl v3)), (6, .inl v6)]) 2 dX5_withBerths_49 rfl (by rw [qy101]; rfl) (by decide) rfl rfl ?_
      refine mb_goto (tgt := 5) dX5_withBerths_52 (by decide) ?_
      exact mb_lvs [1, 2, 0] rfl (hK5 _ _ _ hr)
    · refine mb_ldc2 (v := 31) (pn := 30) wk_X5_319 dX5_withBerths_27 rfl ?_
      refine mb_lload_n (pn := 31) 1 dX5_withBerths_30 rfl rfl rfl ?_
      refine mb_lmul (pn := 32) dX5_withBerths_31 rfl ?_
      refine mb_aload_n (pn := 33) 0 dX5_withBerths_32 rfl rfl rfl ?_
      refine mb_iload (pn := 35) 2 dX5_withBerths_33 rfl rfl ?_
      refine mb_iload (pn := 37) 3 dX5_withBerths_35 rfl rfl ?_
      refine cl_X5_328 (pn := 40) hst hg (Nat.le_of_ble_eq_true rfl) (Nat.le_of_ble_eq_true rfl) dX5_withBerths_37 rfl hr (fun y103 h102 hr => ?_)
      refine mb_i2l (pn := 41) dX5_withBerths_40 rfl ?_
      refine mb_ladd (pn := 42) dX5_withBerths_41 rfl ?_
      refine mb_nmL hr (fun y104 hr => ?_)
      refine mb_lstore_n (pn := 43) (lv2 := [(3, .inr (.inl y104)), (0, mb_F 0 0 0), (5, .inl v5), (6, .inl v6)]) dX5_withBerths_42 rfl (by decide) rfl rfl ?_
      refine mb_nmx hr (fun y105 qy105 hr => ?_)
      refine mb_iinc (v := y105) (pn := 46) (lv2 := [(6, .inl y105), (3, .inr (.inl y104)), (0, mb_F 0 0 0), (5, .inl v5)]) 3 dX5_withBerths_43 rfl (by rw [qy105]; rfl) (by decide) rfl rfl ?_
      refine mb_goto (tgt := 20) dX5_withBerths_46 (by decide) ?_
      exact mb_lvs [2, 1, 3, 0] rfl (ih _ _ _ _ hr)
def B_X5_withBerths_5  : Nat → Int64 → Int32 → mb_AH → Option mb_RS
  | 0, _, _, _ => none
  | n + 1, v3, v5, h => (if (h.1 1 0 0 1) ≤ v5 then (some (.inl (some (.inr (.inl v3))), h)) else (B_X5_withBerths_20 (B_X5_withBerths_5  n) mb_fu v3 v5 0 h))
set_option maxRecDepth 100000 in
set_option maxHeartbeats 4000000 in
theorem T_X5_withBerths_5 {l : Launch} {G : mb_G} {res : mb_RS} (hst : l.stackTraces = false) (hg : mb_gok G)   : ∀ (n : Nat) (v3 : Int64) (v5 : Int32) (h : mb_AH), B_X5_withBerths_5  n v3 v5 h = some res → mb_Ev l G RX5 cX5_withBerths 7 (some .long) 4 5 [(0, mb_F 0 0 0), (3, .inr (.inl v3)), (5, .inl v5)] [] h res := by
  intro n
  induction n with
  | zero => intro v3 v5 h hr; cases hr
  | succ n ih =>
    intro v3 v5 h hr
    rw [B_X5_withBerths_5] at hr
    refine mb_iload (pn := 7) 2 dX5_withBerths_5 rfl rfl ?_
    refine mb_aload_n (pn := 8) 0 dX5_withBerths_7 rfl rfl rfl ?_
    refine gf_X5_10 (pn := 11) dX5_withBerths_8 rfl ?_
    refine gf_X5_75 (pn := 14) dX5_withBerths_11 rfl ?_
    refine mb_ic_ge (tgt := 55) (pn := 17) dX5_withBerths_14 (by decide) rfl hr (fun hr => ?_) (fun hr => ?_)
    · refine mb_lload_n (pn := 56) 1 dX5_withBerths_55 rfl rfl rfl ?_
      cases hr
      exact mb_lret dX5_withBerths_56
    · refine mb_iconst (v := 0) (pn := 18) dX5_withBerths_17 (by decide) rfl ?_
      refine mb_istore (pn := 20) (lv2 := [(6, .inl 0), (0, mb_F 0 0 0), (3, .inr (.inl v3)), (5, .inl v5)]) dX5_withBerths_18 (by decide) rfl rfl ?_
      exact mb_lvs [1, 2, 3, 0] rfl (T_X5_withBerths_20 hst hg ih mb_fu _ _ _ _ hr)
def F_X5_withBerths (x1 : Int64) (h : mb_AH) : Option mb_RS := (B_X5_withBerths_5  mb_fu x1 0 h)
set_option maxRecDepth 100000 in
set_option maxHeartbeats 4000000 in
theorem C_X5_withBerths {l : Launch} {G : mb_G} (hst : l.stackTraces = false) (hg : mb_gok G) {x1 : Int64} {h : mb_AH} {res : mb_RS} (hr : F_X5_withBerths x1 h = some res) : mb_Mt l G yX5_withBerths cX5_withBerths 7 (some .long) 4 [mb_F 0 0 0, .inr (.inl x1)] h res := by
  refine mb_entry (own := RX5) (lv := [(0, mb_F 0 0 0), (1, .inr (.inl x1))]) (by decide +kernel) rfl (Nat.le_of_ble_eq_true rfl) rfl rfl (fun _ => ?_) hst hg
  unfold F_X5_withBerths at hr
  refine mb_lload_n (pn := 1) 1 dX5_withBerths_0 rfl rfl rfl ?_
  refine mb_lstore_n (pn := 2) (lv2 := [(3, .inr (.inl x1)), (0, mb_F 0 0 0), (1, .inr (.inl x1))]) dX5_withBerths_1 rfl (by decide) rfl rfl ?_
  refine mb_iconst (v := 0) (pn := 3) dX5_withBerths_2 (by decide) rfl ?_
  refine mb_istore (pn := 5) (lv2 := [(5, .inl 0), (3, .inr (.inl x1)), (0, mb_F 0 0 0), (1, .inr (.inl x1))]) dX5_withBerths_3 (by decide) rfl rfl ?_
  exact mb_lvs [2, 1, 0] rfl (T_X5_withBerths_5 hst hg  mb_fu _ _ _ hr)
set_option maxRecDepth 100000 in
set_option maxHeartbeats 4000000 in
theorem cl_X5_321 {l : Launch} {G : mb_G} {cc : ByteArray} {nL : Nat} {ret : Option FieldType} {d pc pn : Nat} {lv : List (Nat × mb_AV)} {st : List mb_AV} {h : mb_AH} {res : mb_RS} (hst : l.stackTraces = false) (hg : mb_gok G) {x1 : Int64} {K : Int64 → mb_AH → Option mb_RS} (hd2 : 4 + 1 ≤ d) (hs4 : st.length ≤ 4) (dg : decode cc pc = .ok (.invokevirtual 321, 3)) (hn : pc + 3 = pn) (hr : mb_cL (F_X5_withBerths x1 h) K = some res) (kk : ∀ (x : Int64) (h2 : mb_AH), K x h2 = some res → mb_Ev l G RX5 cc nL ret d pn lv (.inr (.inl x) :: st) h2 res) : mb_Ev l G RX5 cc nL ret d pc lv (.inr (.inl x1) :: mb_F 0 0 0 :: st) h res := mb_kVL (as := [.inr (.inl x1)]) (n := 1) (d2 := 4) (ci := 5) (fun _ hf => C_X5_withBerths hst hg hf) (mb_gV wl_X5_321 mi_X5_withBerths ms_X5_withBerths mn_X5 mc_X5_withBerths) (by decide +kernel) rfl rfl rfl hd2 (by decide) hs4 rfl dg hn hr kk
set_option maxRecDepth 100000 in
set_option maxHeartbeats 4000000 in
theorem cl_X5_330 {l : Launch} {G : mb_G} {cc : ByteArray} {nL : Nat} {ret : Option FieldType} {d pc pn : Nat} {lv : List (Nat × mb_AV)} {st : List mb_AV} {h : mb_AH} {res : mb_RS} (hst : l.stackTraces = false) (hg : mb_gok G) {x1 : Int32} {x2 : Int32} {K : Int32 → mb_AH → Option mb_RS} (hd2 : 3 + 1 ≤ d) (hs4 : st.length ≤ 4) (dg : decode cc pc = .ok (.invokevirtual 330, 3)) (hn : pc + 3 = pn) (hr : mb_cI (F_X5_boat x1 x2 h) K = some res) (kk : ∀ (x : Int32) (h2 : mb_AH), K x h2 = some res → mb_Ev l G RX5 cc nL ret d pn lv (.inl x :: st) h2 res) : mb_Ev l G RX5 cc nL ret d pc lv (.inl x2 :: .inl x1 :: mb_F 0 0 0 :: st) h res := mb_kVI (as := [.inl x1, .inl x2]) (n := 2) (d2 := 3) (ci := 5) (fun _ hf => C_X5_boat hst hg hf) (mb_gV wl_X5_330 mi_X5_boat ms_X5_boat mn_X5 mc_X5_boat) (by decide +kernel) rfl rfl rfl hd2 (by decide) hs4 rfl dg hn hr kk
def B_X5_withBoats_20 (K5 : Int64 → Int32 → mb_AH → Option mb_RS) : Nat → Int64 → Int32 → Int32 → mb_AH → Option mb_RS
  | 0, _, _, _, _ => none
  | n + 1, v3, v5, v6, h => (if 9 < v6 then (mb_gB v5 20 (mb_cI (F_X2_bestBerthFor 0 0 v5.toNatClampNeg h) fun y102 h101 => (mb_lL (((31 : Int64) * v3) + y102.toInt64) fun y103 => (mb_gB v5 20 (mb_cI (F_X2_daysUntilAground 0 0 v5.toNatClampNeg h101) fun y105 h104 => (mb_lL (((31 : Int64) * y103) + y105.toInt64) fun y106 => (mb_lI (v5 + 1) fun y107 => (K5 y106 y107 h104)))))))) else (mb_cI (F_X5_boat v5 v6 h) fun y109 h108 => (mb_lL (((31 : Int64) * v3) + y109.toInt64) fun y110 => (mb_lI (v6 + 1) fun y111 => ((B_X5_withBoats_20 K5 n) y110 v5 y111 h108)))))
set_option maxRecDepth 100000 in
set_option maxHeartbeats 4000000 in
theorem T_X5_withBoats_20 {l : Launch} {G : mb_G} {res : mb_RS} (hst : l.stackTraces = false) (hg : mb_gok G) {K5 : Int64 → Int32 → mb_AH → Option mb_RS} (hK5 : ∀ (v3z : Int64) (v5z : Int32) (hz : mb_AH), K5 v3z v5z hz = some res → mb_Ev l G RX5 cX5_withBoats 7 (some .long) 4 5 [(0, mb_F 0 0 0), (3, .inr (.inl v3z)), (5, .inl v5z)] [] hz res) : ∀ (n : Nat) (v3 : Int64) (v5 : Int32) (v6 : Int32) (h : mb_AH), B_X5_withBoats_20 K5 n v3 v5 v6 h = some res → mb_Ev l G RX5 cX5_withBoats 7 (some .long) 4 20 [(0, mb_F 0 0 0), (3, .inr (.inl v3)), (5, .inl v5), (6, .inl v6)] [] h res := by
  intro n
  induction n with
  | zero => intro v3 v5 v6 h hr; cases hr
  | succ n ih =>
    intro v3 v5 v6 h hr
    rw [B_X5_withBoats_20] at hr
    refine mb_iload (pn := 22) 3 dX5_withBoats_20 rfl rfl ?_
    refine mb_bipush (v := 9) (pn := 24) dX5_withBoats_22 (by decide) rfl ?_
    refine mb_ic_gt (tgt := 49) (pn := 27) dX5_withBoats_24 (by decide) rfl hr (fun hr => ?_) (fun hr => ?_)
    · refine mb_ldc2 (v := 31) (pn := 52) wk_X5_319 dX5_withBoats_49 rfl ?_
      refine mb_lload_n (pn := 53) 1 dX5_withBoats_52 rfl rfl rfl ?_
      refine mb_lmul (pn := 54) dX5_withBoats_53 rfl ?_
      refine mb_aload_n (pn := 55) 0 dX5_withBoats_54 rfl rfl rfl ?_
      refine gf_X5_10 (pn := 58) dX5_withBoats_55 rfl ?_
      refine mb_aload_n (pn := 59) 0 dX5_withBoats_58 rfl rfl rfl ?_
      refine gf_X5_10 (pn := 62) dX5_withBoats_59 rfl ?_
      refine gf_X5_100 (pn := 65) dX5_withBoats_62 rfl ?_
      refine mb_iload (pn := 67) 2 dX5_withBoats_65 rfl rfl ?_
      refine mb_aald11 (pn := 68) dX5_withBoats_67 rfl hr (fun hr => ?_)
      refine cl_X5_250 (pn := 71) hst hg (Nat.le_of_ble_eq_true rfl) (Nat.le_of_ble_eq_true rfl) dX5_withBoats_68 rfl hr (fun y102 h101 hr => ?_)
      refine mb_i2l (pn := 72) dX5_withBoats_71 rfl ?_
      refine mb_ladd (pn := 73) dX5_withBoats_72 rfl ?_
      refine mb_nmL hr (fun y103 hr => ?_)
      refine mb_lstore_n (pn := 74) (lv2 := [(3, .inr (.inl y103)), (0, mb_F 0 0 0), (5, .inl v5), (6, .inl v6)]) dX5_withBoats_73 rfl (by decide) rfl rfl ?_
      refine mb_ldc2 (v := 31) (pn := 77) wk_X5_319 dX5_withBoats_74 rfl ?_
      refine mb_lload_n (pn := 78) 0 dX5_withBoats_77 rfl rfl rfl ?_
      refine mb_lmul (pn := 79) dX5_withBoats_78 rfl ?_
      refine mb_aload_n (pn := 80) 1 dX5_withBoats_79 rfl rfl rfl ?_
      refine gf_X5_10 (pn := 83) dX5_withBoats_80 rfl ?_
      refine mb_aload_n (pn := 84) 1 dX5_withBoats_83 rfl rfl rfl ?_
      refine gf_X5_10 (pn := 87) dX5_withBoats_84 rfl ?_
      refine gf_X5_100 (pn := 90) dX5_withBoats_87 rfl ?_
      refine mb_iload (pn := 92) 2 dX5_withBoats_90 rfl rfl ?_
      refine mb_aald11 (pn := 93) dX5_withBoats_92 rfl hr (fun hr => ?_)
      refine cl_X5_284 (pn := 96) hst hg (Nat.le_of_ble_eq_true rfl) (Nat.le_of_ble_eq_true rfl) dX5_withBoats_93 rfl hr (fun y105 h104 hr => ?_)
      refine mb_i2l (pn := 97) dX5_withBoats_96 rfl ?_
      refine mb_ladd (pn := 98) dX5_withBoats_97 rfl ?_
      refine mb_nmL hr (fun y106 hr => ?_)
      refine mb_lstore_n (pn := 99) (lv2 := [(3, .inr (.inl y106)), (0, mb_F 0 0 0), (5, .inl v5), (6, .inl v6)]) dX5_withBoats_98 rfl (by decide) rfl rfl ?_
      refine mb_nmx hr (fun y107 qy107 hr => ?_)
      refine mb_iinc (v := y107) (pn := 102) (lv2 := [(5, .inl y107), (3, .inr (.inl y106)), (0, mb_F 0 0 0), (6, .inl v6)]) 2 dX5_withBoats_99 rfl (by rw [qy107]; rfl) (by decide) rfl rfl ?_
      refine mb_goto (tgt := 5) dX5_withBoats_102 (by decide) ?_
      exact mb_lvs [2, 1, 0] rfl (hK5 _ _ _ hr)
    · refine mb_ldc2 (v := 31) (pn := 30) wk_X5_319 dX5_withBoats_27 rfl ?_
      refine mb_lload_n (pn := 31) 1 dX5_withBoats_30 rfl rfl rfl ?_
      refine mb_lmul (pn := 32) dX5_withBoats_31 rfl ?_
      refine mb_aload_n (pn := 33) 0 dX5_withBoats_32 rfl rfl rfl ?_
      refine mb_iload (pn := 35) 2 dX5_withBoats_33 rfl rfl ?_
      refine mb_iload (pn := 37) 3 dX5_withBoats_35 rfl rfl ?_
      refine cl_X5_330 (pn := 40) hst hg (Nat.le_of_ble_eq_true rfl) (Nat.le_of_ble_eq_true rfl) dX5_withBoats_37 rfl hr (fun y109 h108 hr => ?_)
      refine mb_i2l (pn := 41) dX5_withBoats_40 rfl ?_
      refine mb_ladd (pn := 42) dX5_withBoats_41 rfl ?_
      refine mb_nmL hr (fun y110 hr => ?_)
      refine mb_lstore_n (pn := 43) (lv2 := [(3, .inr (.inl y110)), (0, mb_F 0 0 0), (5, .inl v5), (6, .inl v6)]) dX5_withBoats_42 rfl (by decide) rfl rfl ?_
      refine mb_nmx hr (fun y111 qy111 hr => ?_)
      refine mb_iinc (v := y111) (pn := 46) (lv2 := [(6, .inl y111), (3, .inr (.inl y110)), (0, mb_F 0 0 0), (5, .inl v5)]) 3 dX5_withBoats_43 rfl (by rw [qy111]; rfl) (by decide) rfl rfl ?_
      refine mb_goto (tgt := 20) dX5_withBoats_46 (by decide) ?_
      exact mb_lvs [2, 1, 3, 0] rfl (ih _ _ _ _ hr)
def B_X5_withBoats_5  : Nat → Int64 → Int32 → mb_AH → Option mb_RS
  | 0, _, _, _ => none
  | n + 1, v3, v5, h => (if (h.1 1 0 0 3) ≤ v5 then (some (.inl (some (.inr (.inl v3))), h)) else (B_X5_withBoats_20 (B_X5_withBoats_5  n) mb_fu v3 v5 0 h))
set_option maxRecDepth 100000 in
set_option maxHeartbeats 4000000 in
theorem T_X5_withBoats_5 {l : Launch} {G : mb_G} {res : mb_RS} (hst : l.stackTraces = false) (hg : mb_gok G)   : ∀ (n : Nat) (v3 : Int64) (v5 : Int32) (h : mb_AH), B_X5_withBoats_5  n v3 v5 h = some res → mb_Ev l G RX5 cX5_withBoats 7 (some .long) 4 5 [(0, mb_F 0 0 0), (3, .inr (.inl v3)), (5, .inl v5)] [] h res := by
  intro n
  induction n with
  | zero => intro v3 v5 h hr; cases hr
  | succ n ih =>
    intro v3 v5 h hr
    rw [B_X5_withBoats_5] at hr
    refine mb_iload (pn := 7) 2 dX5_withBoats_5 rfl rfl ?_
    refine mb_aload_n (pn := 8) 0 dX5_withBoats_7 rfl rfl rfl ?_
    refine gf_X5_10 (pn := 11) dX5_withBoats_8 rfl ?_
    refine gf_X5_95 (pn := 14) dX5_withBoats_11 rfl ?_
    refine mb_ic_ge (tgt := 105) (pn := 17) dX5_withBoats_14 (by decide) rfl hr (fun hr => ?_) (fun hr => ?_)
    · refine mb_lload_n (pn := 106) 1 dX5_withBoats_105 rfl rfl rfl ?_
      cases hr
      exact mb_lret dX5_withBoats_106
    · refine mb_iconst (v := 0) (pn := 18) dX5_withBoats_17 (by decide) rfl ?_
      refine mb_istore (pn := 20) (lv2 := [(6, .inl 0), (0, mb_F 0 0 0), (3, .inr (.inl v3)), (5, .inl v5)]) dX5_withBoats_18 (by decide) rfl rfl ?_
      exact mb_lvs [1, 2, 3, 0] rfl (T_X5_withBoats_20 hst hg ih mb_fu _ _ _ _ hr)
def F_X5_withBoats (x1 : Int64) (h : mb_AH) : Option mb_RS := (B_X5_withBoats_5  mb_fu x1 0 h)
set_option maxRecDepth 100000 in
set_option maxHeartbeats 4000000 in
theorem C_X5_withBoats {l : Launch} {G : mb_G} (hst : l.stackTraces = false) (hg : mb_gok G) {x1 : Int64} {h : mb_AH} {res : mb_RS} (hr : F_X5_withBoats x1 h = some res) : mb_Mt l G yX5_withBoats cX5_withBoats 7 (some .long) 4 [mb_F 0 0 0, .inr (.inl x1)] h res := by
  refine mb_entry (own := RX5) (lv := [(0, mb_F 0 0 0), (1, .inr (.inl x1))]) (by decide +kernel) rfl (Nat.le_of_ble_eq_true rfl) rfl rfl (fun _ => ?_) hst hg
  unfold F_X5_withBoats at hr
  refine mb_lload_n (pn := 1) 1 dX5_withBoats_0 rfl rfl rfl ?_
  refine mb_lstore_n (pn := 2) (lv2 := [(3, .inr (.inl x1)), (0, mb_F 0 0 0), (1, .inr (.inl x1))]) dX5_withBoats_1 rfl (by decide) rfl rfl ?_
  refine mb_iconst (v := 0) (pn := 3) dX5_withBoats_2 (by decide) rfl ?_
  refine mb_istore (pn := 5) (lv2 := [(5, .inl 0), (3, .inr (.inl x1)), (0, mb_F 0 0 0), (1, .inr (.inl x1))]) dX5_withBoats_3 (by decide) rfl rfl ?_
  exact mb_lvs [2, 1, 0] rfl (T_X5_withBoats_5 hst hg  mb_fu _ _ _ hr)
set_option maxRecDepth 100000 in
set_option maxHeartbeats 4000000 in
theorem cl_X5_325 {l : Launch} {G : mb_G} {cc : ByteArray} {nL : Nat} {ret : Option FieldType} {d pc pn : Nat} {lv : List (Nat × mb_AV)} {st : List mb_AV} {h : mb_AH} {res : mb_RS} (hst : l.stackTraces = false) (hg : mb_gok G) {x1 : Int64} {K : Int64 → mb_AH → Option mb_RS} (hd2 : 4 + 1 ≤ d) (hs4 : st.length ≤ 4) (dg : decode cc pc = .ok (.invokevirtual 325, 3)) (hn : pc + 3 = pn) (hr : mb_cL (F_X5_withBoats x1 h) K = some res) (kk : ∀ (x : Int64) (h2 : mb_AH), K x h2 = some res → mb_Ev l G RX5 cc nL ret d pn lv (.inr (.inl x) :: st) h2 res) : mb_Ev l G RX5 cc nL ret d pc lv (.inr (.inl x1) :: mb_F 0 0 0 :: st) h res := mb_kVL (as := [.inr (.inl x1)]) (n := 1) (d2 := 4) (ci := 5) (fun _ hf => C_X5_withBoats hst hg hf) (mb_gV wl_X5_325 mi_X5_withBoats ms_X5_withBoats mn_X5 mc_X5_withBoats) (by decide +kernel) rfl rfl rfl hd2 (by decide) hs4 rfl dg hn hr kk
def B_X5_checksum_90  : Nat → Int64 → Int32 → Int32 → mb_AH → Option mb_RS
  | 0, _, _, _, _ => none
  | n + 1, v1, v3, v4, h => (if v3 ≤ v4 then (mb_cL (F_X2_owedInAll 0 h) fun y108 h107 => (mb_lL (((31 : Int64) * v1) + y108) fun y109 => (mb_lL (((31 : Int64) * y109) + (h107.2.1 1 0 0 13)) fun y110 => (mb_lL (((31 : Int64) * y110) + ((h107.1 5 0 0 1).toInt64)) fun y111 => (some (.inl (some (.inr (.inl (((31 : Int64) * y111) + ((h107.1 0 0 0 3).toInt64))))), h107)))))) else (mb_cI (F_X2_waitingAt 0 v4 h) fun y113 h112 => (mb_lL (((31 : Int64) * v1) + y113.toInt64) fun y114 => (mb_lI (v4 + 1) fun y115 => ((B_X5_checksum_90  n) y114 v3 y115 h112)))))
set_option maxRecDepth 100000 in
set_option maxHeartbeats 4000000 in
theorem T_X5_checksum_90 {l : Launch} {G : mb_G} {res : mb_RS} (hst : l.stackTraces = false) (hg : mb_gok G)   : ∀ (n : Nat) (v1 : Int64) (v3 : Int32) (v4 : Int32) (h : mb_AH), B_X5_checksum_90  n v1 v3 v4 h = some res → mb_Ev l G RX5 cX5_checksum 5 (some .long) 5 90 [(0, mb_F 0 0 0), (1, .inr (.inl v1)), (3, .inl v3), (4, .inl v4)] [] h res := by
  intro n
  induction n with
  | zero => intro v1 v3 v4 h hr; cases hr
  | succ n ih =>
    intro v1 v3 v4 h hr
    rw [B_X5_checksum_90] at hr
    refine mb_iload (pn := 92) 3 dX5_checksum_90 rfl rfl ?_
    refine mb_iload_n (pn := 93) 2 dX5_checksum_92 rfl rfl rfl ?_
    refine mb_ic_ge (tgt := 119) (pn := 96) dX5_checksum_93 (by decide) rfl hr (fun hr => ?_) (fun hr => ?_)
    · refine mb_ldc2 (v := 31) (pn := 122) wk_X5_319 dX5_checksum_119 rfl ?_
      refine mb_lload_n (pn := 123) 1 dX5_checksum_122 rfl rfl rfl ?_
      refine mb_lmul (pn := 124) dX5_checksum_123 rfl ?_
      refine mb_aload_n (pn := 125) 0 dX5_checksum_124 rfl rfl rfl ?_
      refine gf_X5_10 (pn := 128) dX5_checksum_125 rfl ?_
      refine cl_X5_280 (pn := 131) hst hg (Nat.le_of_ble_eq_true rfl) (Nat.le_of_ble_eq_true rfl) dX5_checksum_128 rfl hr (fun y108 h107 hr => ?_)
      refine mb_ladd (pn := 132) dX5_checksum_131 rfl ?_
      refine mb_nmL hr (fun y109 hr => ?_)
      refine mb_lstore_n (pn := 133) (lv2 := [(1, .inr (.inl y109)), (0, mb_F 0 0 0), (3, .inl v3), (4, .inl v4)]) dX5_checksum_132 rfl (by decide) rfl rfl ?_
      refine mb_ldc2 (v := 31) (pn := 136) wk_X5_319 dX5_checksum_133 rfl ?_
      refine mb_lload_n (pn := 137) 0 dX5_checksum_136 rfl rfl rfl ?_
      refine mb_lmul (pn := 138) dX5_checksum_137 rfl ?_
      refine mb_aload_n (pn := 139) 1 dX5_checksum_138 rfl rfl rfl ?_
      refine gf_X5_10 (pn := 142) dX5_checksum_139 rfl ?_
      refine gf_X5_268 (pn := 145) dX5_checksum_142 rfl ?_
      refine mb_ladd (pn := 146) dX5_checksum_145 rfl ?_
      refine mb_nmL hr (fun y110 hr => ?_)
      refine mb_lstore_n (pn := 147) (lv2 := [(1, .inr (.inl y110)), (0, mb_F 0 0 0), (3, .inl v3), (4, .inl v4)]) dX5_checksum_146 rfl (by decide) rfl rfl ?_
      refine mb_ldc2 (v := 31) (pn := 150) wk_X5_319 dX5_checksum_147 rfl ?_
      refine mb_lload_n (pn := 151) 0 dX5_checksum_150 rfl rfl rfl ?_
      refine mb_lmul (pn := 152) dX5_checksum_151 rfl ?_
      refine mb_aload_n (pn := 153) 1 dX5_checksum_152 rfl rfl rfl ?_
      refine gf_X5_33 (pn := 156) dX5_checksum_153 rfl ?_
      refine gf_X5_305 (pn := 159) dX5_checksum_156 rfl ?_
      refine mb_i2l (pn := 160) dX5_checksum_159 rfl ?_
      refine mb_ladd (pn := 161) dX5_checksum_160 rfl ?_
      refine mb_nmL hr (fun y111 hr => ?_)
      refine mb_lstore_n (pn := 162) (lv2 := [(1, .inr (.inl y111)), (0, mb_F 0 0 0), (3, .inl v3), (4, .inl v4)]) dX5_checksum_161 rfl (by decide) rfl rfl ?_
      refine mb_ldc2 (v := 31) (pn := 165) wk_X5_319 dX5_checksum_162 rfl ?_
      refine mb_lload_n (pn := 166) 0 dX5_checksum_165 rfl rfl rfl ?_
      refine mb_lmul (pn := 167) dX5_checksum_166 rfl ?_
      refine mb_aload_n (pn := 168) 1 dX5_checksum_167 rfl rfl rfl ?_
      refine gf_X5_312 (pn := 171) dX5_checksum_168 rfl ?_
      refine mb_i2l (pn := 172) dX5_checksum_171 rfl ?_
      refine mb_ladd (pn := 173) dX5_checksum_172 rfl ?_
      cases hr
      exact mb_lret dX5_checksum_173
    · refine mb_ldc2 (v := 31) (pn := 99) wk_X5_319 dX5_checksum_96 rfl ?_
      refine mb_lload_n (pn := 100) 1 dX5_checksum_99 rfl rfl rfl ?_
      refine mb_lmul (pn := 101) dX5_checksum_100 rfl ?_
      refine mb_aload_n (pn := 102) 0 dX5_checksum_101 rfl rfl rfl ?_
      refine gf_X5_10 (pn := 105) dX5_checksum_102 rfl ?_
      refine mb_iload (pn := 107) 3 dX5_checksum_105 rfl rfl ?_
      refine cl_X5_247 (pn := 110) hst hg (Nat.le_of_ble_eq_true rfl) (Nat.le_of_ble_eq_true rfl) dX5_checksum_107 rfl hr (fun y113 h112 hr => ?_)
      refine mb_i2l (pn := 111) dX5_checksum_110 rfl ?_
      refine mb_ladd (pn := 112) dX5_checksum_111 rfl ?_
      refine mb_nmL hr (fun y114 hr => ?_)
      refine mb_lstore_n (pn := 113) (lv2 := [(1, .inr (.inl y114)), (0, mb_F 0 0 0), (3, .inl v3), (4, .inl v4)]) dX5_checksum_112 rfl (by decide) rfl rfl ?_
      refine mb_nmx hr (fun y115 qy115 hr => ?_)
      refine mb_iinc (v := y115) (pn := 116) (lv2 := [(4, .inl y115), (1, .inr (.inl y114)), (0, mb_F 0 0 0), (3, .inl v3)]) 3 dX5_checksum_113 rfl (by rw [qy115]; rfl) (by decide) rfl rfl ?_
      refine mb_goto (tgt := 90) dX5_checksum_116 (by decide) ?_
      exact mb_lvs [2, 1, 3, 0] rfl (ih _ _ _ _ hr)
def B_X5_checksum_33  : Nat → Int64 → Int32 → mb_AH → Option mb_RS
  | 0, _, _, _ => none
  | n + 1, v1, v3, h => (if (h.1 1 0 0 5) ≤ v3 then (mb_cL (F_X5_withBerths v1 h) fun y102 h101 => (mb_cL (F_X5_withBoats y102 h101) fun y104 h103 => (mb_cI (F_X2_countIn 0 (2 : Int32) h103) fun y106 h105 => (B_X5_checksum_90  mb_fu y104 y106 0 h105)))) else (mb_cI (F_X2_lowWater 0 v3 h) fun y117 h116 => (mb_lL (((31 : Int64) * v1) + y117.toInt64) fun y118 => (mb_lI (v3 + 1) fun y119 => ((B_X5_checksum_33  n) y118 y119 h116)))))
set_option maxRecDepth 100000 in
set_option maxHeartbeats 4000000 in
theorem T_X5_checksum_33 {l : Launch} {G : mb_G} {res : mb_RS} (hst : l.stackTraces = false) (hg : mb_gok G)   : ∀ (n : Nat) (v1 : Int64) (v3 : Int32) (h : mb_AH), B_X5_checksum_33  n v1 v3 h = some res → mb_Ev l G RX5 cX5_checksum 5 (some .long) 5 33 [(0, mb_F 0 0 0), (1, .inr (.inl v1)), (3, .inl v3)] [] h res := by
  intro n
  induction n with
  | zero => intro v1 v3 h hr; cases hr
  | succ n ih =>
    intro v1 v3 h hr
    rw [B_X5_checksum_33] at hr
    refine mb_iload_n (pn := 34) 2 dX5_checksum_33 rfl rfl rfl ?_
    refine mb_aload_n (pn := 35) 0 dX5_checksum_34 rfl rfl rfl ?_
    refine gf_X5_10 (pn := 38) dX5_checksum_35 rfl ?_
    refine gf_X5_55 (pn := 41) dX5_checksum_38 rfl ?_
    refine mb_ic_ge (tgt := 66) (pn := 44) dX5_checksum_41 (by decide) rfl hr (fun hr => ?_) (fun hr => ?_)
    · refine mb_aload_n (pn := 67) 0 dX5_checksum_66 rfl rfl rfl ?_
      refine mb_lload_n (pn := 68) 1 dX5_checksum_67 rfl rfl rfl ?_
      refine cl_X5_321 (pn := 71) hst hg (Nat.le_of_ble_eq_true rfl) (Nat.le_of_ble_eq_true rfl) dX5_checksum_68 rfl hr (fun y102 h101 hr => ?_)
      refine mb_lstore_n (pn := 72) (lv2 := [(1, .inr (.inl y102)), (0, mb_F 0 0 0), (3, .inl v3)]) dX5_checksum_71 rfl (by decide) rfl rfl ?_
      refine mb_aload_n (pn := 73) 1 dX5_checksum_72 rfl rfl rfl ?_
      refine mb_lload_n (pn := 74) 0 dX5_checksum_73 rfl rfl rfl ?_
      refine cl_X5_325 (pn := 77) hst hg (Nat.le_of_ble_eq_true rfl) (Nat.le_of_ble_eq_true rfl) dX5_checksum_74 rfl hr (fun y104 h103 hr => ?_)
      refine mb_lstore_n (pn := 78) (lv2 := [(1, .inr (.inl y104)), (0, mb_F 0 0 0), (3, .inl v3)]) dX5_checksum_77 rfl (by decide) rfl rfl ?_
      refine mb_aload_n (pn := 79) 1 dX5_checksum_78 rfl rfl rfl ?_
      refine gf_X5_10 (pn := 82) dX5_checksum_79 rfl ?_
      refine mb_iconst (v := 2) (pn := 83) dX5_checksum_82 (by decide) rfl ?_
      refine cl_X5_206 (pn := 86) hst hg (Nat.le_of_ble_eq_true rfl) (Nat.le_of_ble_eq_true rfl) dX5_checksum_83 rfl hr (fun y106 h105 hr => ?_)
      refine mb_istore_n (pn := 87) (lv2 := [(3, .inl y106), (1, .inr (.inl y104)), (0, mb_F 0 0 0)]) dX5_checksum_86 rfl (by decide) rfl rfl ?_
      refine mb_iconst (v := 0) (pn := 88) dX5_checksum_87 (by decide) rfl ?_
      refine mb_istore (pn := 90) (lv2 := [(4, .inl 0), (3, .inl y106), (1, .inr (.inl y104)), (0, mb_F 0 0 0)]) dX5_checksum_88 (by decide) rfl rfl ?_
      exact mb_lvs [3, 2, 1, 0] rfl (T_X5_checksum_90 hst hg  mb_fu _ _ _ _ hr)
    · refine mb_ldc2 (v := 31) (pn := 47) wk_X5_319 dX5_checksum_44 rfl ?_
      refine mb_lload_n (pn := 48) 1 dX5_checksum_47 rfl rfl rfl ?_
      refine mb_lmul (pn := 49) dX5_checksum_48 rfl ?_
      refine mb_aload_n (pn := 50) 0 dX5_checksum_49 rfl rfl rfl ?_
      refine gf_X5_10 (pn := 53) dX5_checksum_50 rfl ?_
      refine mb_iload_n (pn := 54) 2 dX5_checksum_53 rfl rfl rfl ?_
      refine cl_X5_61 (pn := 57) hst hg (Nat.le_of_ble_eq_true rfl) (Nat.le_of_ble_eq_true rfl) dX5_checksum_54 rfl hr (fun y117 h116 hr => ?_)
      refine mb_i2l (pn := 58) dX5_checksum_57 rfl ?_
      refine mb_ladd (pn := 59) dX5_checksum_58 rfl ?_
      refine mb_nmL hr (fun y118 hr => ?_)
      refine mb_lstore_n (pn := 60) (lv2 := [(1, .inr (.inl y118)), (0, mb_F 0 0 0), (3, .inl v3)]) dX5_checksum_59 rfl (by decide) rfl rfl ?_
      refine mb_nmx hr (fun y119 qy119 hr => ?_)
      refine mb_iinc (v := y119) (pn := 63) (lv2 := [(3, .inl y119), (1, .inr (.inl y118)), (0, mb_F 0 0 0)]) 2 dX5_checksum_60 rfl (by rw [qy119]; rfl) (by decide) rfl rfl ?_
      refine mb_goto (tgt := 33) dX5_checksum_63 (by decide) ?_
      exact mb_lvs [2, 1, 0] rfl (ih _ _ _ hr)
def B_X5_checksum_6  : Nat → Int64 → Int32 → mb_AH → Option mb_RS
  | 0, _, _, _ => none
  | n + 1, v1, v3, h => (if 13 < v3 then (B_X5_checksum_33  mb_fu v1 0 h) else (mb_cI (F_X5_info v3 h) fun y121 h120 => (mb_lL (((31 : Int64) * v1) + y121.toInt64) fun y122 => (mb_lI (v3 + 1) fun y123 => ((B_X5_checksum_6  n) y122 y123 h120)))))
set_option maxRecDepth 100000 in
set_option maxHeartbeats 4000000 in
theorem T_X5_checksum_6 {l : Launch} {G : mb_G} {res : mb_RS} (hst : l.stackTraces = false) (hg : mb_gok G)   : ∀ (n : Nat) (v1 : Int64) (v3 : Int32) (h : mb_AH), B_X5_checksum_6  n v1 v3 h = some res → mb_Ev l G RX5 cX5_checksum 5 (some .long) 5 6 [(0, mb_F 0 0 0), (1, .inr (.inl v1)), (3, .inl v3)] [] h res := by
  intro n
  induction n with
  | zero => intro v1 v3 h hr; cases hr
  | succ n ih =>
    intro v1 v3 h hr
    rw [B_X5_checksum_6] at hr
    refine mb_iload_n (pn := 7) 2 dX5_checksum_6 rfl rfl rfl ?_
    refine mb_bipush (v := 13) (pn := 9) dX5_checksum_7 (by decide) rfl ?_
    refine mb_ic_gt (tgt := 31) (pn := 12) dX5_checksum_9 (by decide) rfl hr (fun hr => ?_) (fun hr => ?_)
    · refine mb_iconst (v := 0) (pn := 32) dX5_checksum_31 (by decide) rfl ?_
      refine mb_istore_n (pn := 33) (lv2 := [(3, .inl 0), (0, mb_F 0 0 0), (1, .inr (.inl v1))]) dX5_checksum_32 rfl (by decide) rfl rfl ?_
      exact mb_lvs [1, 2, 0] rfl (T_X5_checksum_33 hst hg  mb_fu _ _ _ hr)
    · refine mb_ldc2 (v := 31) (pn := 15) wk_X5_319 dX5_checksum_12 rfl ?_
      refine mb_lload_n (pn := 16) 1 dX5_checksum_15 rfl rfl rfl ?_
      refine mb_lmul (pn := 17) dX5_checksum_16 rfl ?_
      refine mb_aload_n (pn := 18) 0 dX5_checksum_17 rfl rfl rfl ?_
      refine mb_iload_n (pn := 19) 2 dX5_checksum_18 rfl rfl rfl ?_
      refine cl_X5_115 (pn := 22) hst hg (Nat.le_of_ble_eq_true rfl) (Nat.le_of_ble_eq_true rfl) dX5_checksum_19 rfl hr (fun y121 h120 hr => ?_)
      refine mb_i2l (pn := 23) dX5_checksum_22 rfl ?_
      refine mb_ladd (pn := 24) dX5_checksum_23 rfl ?_
      refine mb_nmL hr (fun y122 hr => ?_)
      refine mb_lstore_n (pn := 25) (lv2 := [(1, .inr (.inl y122)), (0, mb_F 0 0 0), (3, .inl v3)]) dX5_checksum_24 rfl (by decide) rfl rfl ?_
      refine mb_nmx hr (fun y123 qy123 hr => ?_)
      refine mb_iinc (v := y123) (pn := 28) (lv2 := [(3, .inl y123), (1, .inr (.inl y122)), (0, mb_F 0 0 0)]) 2 dX5_checksum_25 rfl (by rw [qy123]; rfl) (by decide) rfl rfl ?_
      refine mb_goto (tgt := 6) dX5_checksum_28 (by decide) ?_
      exact mb_lvs [2, 1, 0] rfl (ih _ _ _ hr)
def F_X5_checksum  (h : mb_AH) : Option mb_RS := (B_X5_checksum_6  mb_fu 43079 0 h)
set_option maxRecDepth 100000 in
set_option maxHeartbeats 4000000 in
theorem C_X5_checksum {l : Launch} {G : mb_G} (hst : l.stackTraces = false) (hg : mb_gok G)  {h : mb_AH} {res : mb_RS} (hr : F_X5_checksum  h = some res) : mb_Mt l G yX5_checksum cX5_checksum 5 (some .long) 5 [mb_F 0 0 0] h res := by
  refine mb_entry (own := RX5) (lv := [(0, mb_F 0 0 0)]) (by decide +kernel) rfl (Nat.le_of_ble_eq_true rfl) rfl rfl (fun _ => ?_) hst hg
  unfold F_X5_checksum at hr
  refine mb_ldc2 (v := 43079) (pn := 3) wk_X5_317 dX5_checksum_0 rfl ?_
  refine mb_lstore_n (pn := 4) (lv2 := [(1, .inr (.inl 43079)), (0, mb_F 0 0 0)]) dX5_checksum_3 rfl (by decide) rfl rfl ?_
  refine mb_iconst (v := 0) (pn := 5) dX5_checksum_4 (by decide) rfl ?_
  refine mb_istore_n (pn := 6) (lv2 := [(3, .inl 0), (1, .inr (.inl 43079)), (0, mb_F 0 0 0)]) dX5_checksum_5 rfl (by decide) rfl rfl ?_
  exact mb_lvs [2, 1, 0] rfl (T_X5_checksum_6 hst hg  mb_fu _ _ _ hr)
