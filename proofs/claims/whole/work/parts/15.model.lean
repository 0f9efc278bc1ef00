def F_X6_thrown  (h : mb_AH) : Option mb_RS := (some (.inl (some (.inl (h.1 6 0 0 4))), h))
set_option maxRecDepth 100000 in
set_option maxHeartbeats 4000000 in
theorem C_X6_thrown {l : Launch} {G : mb_G} (hst : l.stackTraces = false) (hg : mb_gok G)  {h : mb_AH} {res : mb_RS} (hr : F_X6_thrown  h = some res) : mb_Mt l G yX6_thrown cX6_thrown 1 (some .int) 0 [mb_F 6 0 0] h res := by
  refine mb_entry (own := RX6) (lv := [(0, mb_F 6 0 0)]) (by decide +kernel) rfl (Nat.le_of_ble_eq_true rfl) rfl rfl (fun _ => ?_) hst hg
  unfold F_X6_thrown at hr
  refine mb_aload_n (pn := 1) 0 dX6_thrown_0 rfl rfl rfl ?_
  refine gf_X6_35 (pn := 4) dX6_thrown_1 rfl ?_
  cases hr
  exact mb_iret dX6_thrown_4
def F_X6_refused (x1 : Int32) (h : mb_AH) : Option mb_RS := (mb_up (mb_sI h 6 0 0 4 x1) fun h101 => (if x1 ≤ 0 then (some (.inl (some (.inl 0)), h101)) else (some (.inl (some (.inl 1)), h101))))
set_option maxRecDepth 100000 in
set_option maxHeartbeats 4000000 in
theorem C_X6_refused {l : Launch} {G : mb_G} (hst : l.stackTraces = false) (hg : mb_gok G) {x1 : Int32} {h : mb_AH} {res : mb_RS} (hr : F_X6_refused x1 h = some res) : mb_Mt l G yX6_refused cX6_refused 2 (some .boolean) 0 [mb_F 6 0 0, .inl x1] h res := by
  refine mb_entry (own := RX6) (lv := [(0, mb_F 6 0 0), (1, .inl x1)]) (by decide +kernel) rfl (Nat.le_of_ble_eq_true rfl) rfl rfl (fun _ => ?_) hst hg
  unfold F_X6_refused at hr
  refine mb_aload_n (pn := 1) 0 dX6_refused_0 rfl rfl rfl ?_
  refine mb_iload_n (pn := 2) 1 dX6_refused_1 rfl rfl rfl ?_
  refine pf_X6_35 (pn := 5) dX6_refused_2 rfl hr (fun h101 hr => ?_)
  refine mb_iload_n (pn := 6) 1 dX6_refused_5 rfl rfl rfl ?_
  refine mb_if_le (tgt := 13) (pn := 9) dX6_refused_6 (by decide) rfl hr (fun hr => ?_) (fun hr => ?_)
  · refine mb_iconst (v := 0) (pn := 14) dX6_refused_13 (by decide) rfl ?_
    cases hr
    exact mb_zret0 dX6_refused_14
  · refine mb_iconst (v := 1) (pn := 10) dX6_refused_9 (by decide) rfl ?_
    refine mb_goto (tgt := 14) dX6_refused_10 (by decide) ?_
    cases hr
    exact mb_zret1 dX6_refused_14
def F_X6_within (x1 : Int32) (x2 : Int32) (x3 : Int32) (h : mb_AH) : Option mb_RS := (if x1 < x2 then (some (.inl (some (.inl 0)), h)) else (if x3 < x1 then (some (.inl (some (.inl 0)), h)) else (some (.inl (some (.inl 1)), h))))
set_option maxRecDepth 100000 in
set_option maxHeartbeats 4000000 in
theorem C_X6_within {l : Launch} {G : mb_G} (hst : l.stackTraces = false) (hg : mb_gok G) {x1 : Int32} {x2 : Int32} {x3 : Int32} {h : mb_AH} {res : mb_RS} (hr : F_X6_within x1 x2 x3 h = some res) : mb_Mt l G yX6_within cX6_within 3 (some .boolean) 0 [.inl x1, .inl x2, .inl x3] h res := by
  refine mb_entry (own := RX6) (lv := [(0, .inl x1), (1, .inl x2), (2, .inl x3)]) (by decide +kernel) rfl (Nat.le_of_ble_eq_true rfl) rfl rfl (fun _ => ?_) hst hg
  unfold F_X6_within at hr
  refine mb_iload_n (pn := 1) 0 dX6_within_0 rfl rfl rfl ?_
  refine mb_iload_n (pn := 2) 1 dX6_within_1 rfl rfl rfl ?_
  refine mb_ic_lt (tgt := 14) (pn := 5) dX6_within_2 (by decide) rfl hr (fun hr => ?_) (fun hr => ?_)
  · refine mb_iconst (v := 0) (pn := 15) dX6_within_14 (by decide) rfl ?_
    cases hr
    exact mb_zret0 dX6_within_15
  · refine mb_iload_n (pn := 6) 0 dX6_within_5 rfl rfl rfl ?_
    refine mb_iload_n (pn := 7) 2 dX6_within_6 rfl rfl rfl ?_
    refine mb_ic_gt (tgt := 14) (pn := 10) dX6_within_7 (by decide) rfl hr (fun hr => ?_) (fun hr => ?_)
    · refine mb_iconst (v := 0) (pn := 15) dX6_within_14 (by decide) rfl ?_
      cases hr
      exact mb_zret0 dX6_within_15
    · refine mb_iconst (v := 1) (pn := 11) dX6_within_10 (by decide) rfl ?_
      refine mb_goto (tgt := 15) dX6_within_11 (by decide) ?_
      cases hr
      exact mb_zret1 dX6_within_15
def B_X6_saves_51  : Nat → Int32 → mb_AH → Option mb_RS
  | 0, _, _ => none
  | n + 1, v1, h => (if 270 ≤ v1 then (mb_up (mb_sI h 6 0 0 3 ((h.1 6 0 0 3) + 1)) fun h101 => (some (.inl none, h101))) else (mb_gB v1 270 (mb_gB (((270 : Int32) * (h.1 6 0 0 3)) + v1) 1080 (mb_up (mb_sI h 21 0 0 (((270 : Int32) * (h.1 6 0 0 3)) + v1).toNatClampNeg (h.1 20 0 0 v1.toNatClampNeg)) fun h102 => (mb_lI (v1 + 1) fun y103 => ((B_X6_saves_51  n) y103 h102))))))
set_option maxRecDepth 100000 in
set_option maxHeartbeats 4000000 in
theorem T_X6_saves_51 {l : Launch} {G : mb_G} {res : mb_RS} (hst : l.stackTraces = false) (hg : mb_gok G)   : ∀ (n : Nat) (v1 : Int32) (h : mb_AH), B_X6_saves_51  n v1 h = some res → mb_Ev l G RX6 cX6_saves 2 none 0 51 [(0, mb_F 6 0 0), (1, .inl v1)] [] h res := by
  intro n
  induction n with
  | zero => intro v1 h hr; cases hr
  | succ n ih =>
    intro v1 h hr
    rw [B_X6_saves_51] at hr
    refine mb_iload_n (pn := 52) 1 dX6_saves_51 rfl rfl rfl ?_
    refine mb_sipush (v := 270) (pn := 55) dX6_saves_52 (by decide) rfl ?_
    refine mb_ic_ge (tgt := 85) (pn := 58) dX6_saves_55 (by decide) rfl hr (fun hr => ?_) (fun hr => ?_)
    · refine mb_aload_n (pn := 86) 0 dX6_saves_85 rfl rfl rfl ?_
      refine mb_dup (pn := 87) rfl dX6_saves_86 rfl ?_
      refine gf_X6_39 (pn := 90) dX6_saves_87 rfl ?_
      refine mb_iconst (v := 1) (pn := 91) dX6_saves_90 (by decide) rfl ?_
      refine mb_iadd (pn := 92) dX6_saves_91 rfl ?_
      refine pf_X6_39 (pn := 95) dX6_saves_92 rfl hr (fun h101 hr => ?_)
      cases hr
      exact mb_vret dX6_saves_95
    · refine mb_aload_n (pn := 59) 0 dX6_saves_58 rfl rfl rfl ?_
      refine gf_X6_13 (pn := 62) dX6_saves_59 rfl ?_
      refine mb_sipush (v := 270) (pn := 65) dX6_saves_62 (by decide) rfl ?_
      refine mb_aload_n (pn := 66) 0 dX6_saves_65 rfl rfl rfl ?_
      refine gf_X6_39 (pn := 69) dX6_saves_66 rfl ?_
      refine mb_imul (pn := 70) dX6_saves_69 rfl ?_
      refine mb_iload_n (pn := 71) 1 dX6_saves_70 rfl rfl rfl ?_
      refine mb_iadd (pn := 72) dX6_saves_71 rfl ?_
      refine mb_aload_n (pn := 73) 0 dX6_saves_72 rfl rfl rfl ?_
      refine gf_X6_7 (pn := 76) dX6_saves_73 rfl ?_
      refine mb_iload_n (pn := 77) 1 dX6_saves_76 rfl rfl rfl ?_
      refine mb_iald (pn := 78) (n := 270) rfl dX6_saves_77 rfl hr (fun hr => ?_)
      refine mb_iast (pn := 79) (n := 1080) rfl rfl dX6_saves_78 rfl hr (fun hr => ?_)
      refine mb_nmh hr (fun h102 hr => ?_)
      refine mb_nmx hr (fun y103 qy103 hr => ?_)
      refine mb_iinc (v := y103) (pn := 82) (lv2 := [(1, .inl y103), (0, mb_F 6 0 0)]) 1 dX6_saves_79 rfl (by rw [qy103]; rfl) (by decide) rfl rfl ?_
      refine mb_goto (tgt := 51) dX6_saves_82 (by decide) ?_
      exact mb_lvs [1, 0] rfl (ih _ _ hr)
def B_X6_saves_10  : Nat → Int32 → mb_AH → Option mb_RS
  | 0, _, _ => none
  | n + 1, v1, h => (if 810 ≤ v1 then (mb_up (mb_sI h 6 0 0 3 ((h.1 6 0 0 3) - 1)) fun h104 => (B_X6_saves_51  mb_fu 0 h104)) else (mb_gB (v1 + 270) 1080 (mb_gB v1 1080 (mb_up (mb_sI h 21 0 0 v1.toNatClampNeg (h.1 21 0 0 (v1 + 270).toNatClampNeg)) fun h105 => (mb_lI (v1 + 1) fun y106 => ((B_X6_saves_10  n) y106 h105))))))
set_option maxRecDepth 100000 in
set_option maxHeartbeats 4000000 in
theorem T_X6_saves_10 {l : Launch} {G : mb_G} {res : mb_RS} (hst : l.stackTraces = false) (hg : mb_gok G)   : ∀ (n : Nat) (v1 : Int32) (h : mb_AH), B_X6_saves_10  n v1 h = some res → mb_Ev l G RX6 cX6_saves 2 none 0 10 [(0, mb_F 6 0 0), (1, .inl v1)] [] h res := by
  intro n
  induction n with
  | zero => intro v1 h hr; cases hr
  | succ n ih =>
    intro v1 h hr
    rw [B_X6_saves_10] at hr
    refine mb_iload_n (pn := 11) 1 dX6_saves_10 rfl rfl rfl ?_
    refine mb_sipush (v := 810) (pn := 14) dX6_saves_11 (by decide) rfl ?_
    refine mb_ic_ge (tgt := 39) (pn := 17) dX6_saves_14 (by decide) rfl hr (fun hr => ?_) (fun hr => ?_)
    · refine mb_aload_n (pn := 40) 0 dX6_saves_39 rfl rfl rfl ?_
      refine mb_dup (pn := 41) rfl dX6_saves_40 rfl ?_
      refine gf_X6_39 (pn := 44) dX6_saves_41 rfl ?_
      refine mb_iconst (v := 1) (pn := 45) dX6_saves_44 (by decide) rfl ?_
      refine mb_isub (pn := 46) dX6_saves_45 rfl ?_
      refine pf_X6_39 (pn := 49) dX6_saves_46 rfl hr (fun h104 hr => ?_)
      refine mb_iconst (v := 0) (pn := 50) dX6_saves_49 (by decide) rfl ?_
      refine mb_istore_n (pn := 51) (lv2 := [(1, .inl 0), (0, mb_F 6 0 0)]) dX6_saves_50 rfl (by decide) rfl rfl ?_
      exact mb_lvs [1, 0] rfl (T_X6_saves_51 hst hg  mb_fu _ _ hr)
    · refine mb_aload_n (pn := 18) 0 dX6_saves_17 rfl rfl rfl ?_
      refine gf_X6_13 (pn := 21) dX6_saves_18 rfl ?_
      refine mb_iload_n (pn := 22) 1 dX6_saves_21 rfl rfl rfl ?_
      refine mb_aload_n (pn := 23) 0 dX6_saves_22 rfl rfl rfl ?_
      refine gf_X6_13 (pn := 26) dX6_saves_23 rfl ?_
      refine mb_iload_n (pn := 27) 1 dX6_saves_26 rfl rfl rfl ?_
      refine mb_sipush (v := 270) (pn := 30) dX6_saves_27 (by decide) rfl ?_
      refine mb_iadd (pn := 31) dX6_saves_30 rfl ?_
      refine mb_iald (pn := 32) (n := 1080) rfl dX6_saves_31 rfl hr (fun hr => ?_)
      refine mb_iast (pn := 33) (n := 1080) rfl rfl dX6_saves_32 rfl hr (fun hr => ?_)
      refine mb_nmh hr (fun h105 hr => ?_)
      refine mb_nmx hr (fun y106 qy106 hr => ?_)
      refine mb_iinc (v := y106) (pn := 36) (lv2 := [(1, .inl y106), (0, mb_F 6 0 0)]) 1 dX6_saves_33 rfl (by rw [qy106]; rfl) (by decide) rfl rfl ?_
      refine mb_goto (tgt := 10) dX6_saves_36 (by decide) ?_
      exact mb_lvs [1, 0] rfl (ih _ _ hr)
def F_X6_saves  (h : mb_AH) : Option mb_RS := (if (h.1 6 0 0 3) = 4 then (B_X6_saves_10  mb_fu 0 h) else (B_X6_saves_51  mb_fu 0 h))
set_option maxRecDepth 100000 in
set_option maxHeartbeats 4000000 in
theorem C_X6_saves {l : Launch} {G : mb_G} (hst : l.stackTraces = false) (hg : mb_gok G)  {h : mb_AH} {res : mb_RS} (hr : F_X6_saves  h = some res) : mb_Mt l G yX6_saves cX6_saves 2 none 0 [mb_F 6 0 0] h res := by
  refine mb_entry (own := RX6) (lv := [(0, mb_F 6 0 0)]) (by decide +kernel) rfl (Nat.le_of_ble_eq_true rfl) rfl rfl (fun _ => ?_) hst hg
  unfold F_X6_saves at hr
  refine mb_aload_n (pn := 1) 0 dX6_saves_0 rfl rfl rfl ?_
  refine gf_X6_39 (pn := 4) dX6_saves_1 rfl ?_
  refine mb_iconst (v := 4) (pn := 5) dX6_saves_4 (by decide) rfl ?_
  refine mb_ic_ne (tgt := 49) (pn := 8) dX6_saves_5 (by decide) rfl hr (fun hr => ?_) (fun hr => ?_)
  · refine mb_iconst (v := 0) (pn := 50) dX6_saves_49 (by decide) rfl ?_
    refine mb_istore_n (pn := 51) (lv2 := [(1, .inl 0), (0, mb_F 6 0 0)]) dX6_saves_50 rfl (by decide) rfl rfl ?_
    exact mb_lvs [1, 0] rfl (T_X6_saves_51 hst hg  mb_fu _ _ hr)
  · refine mb_iconst (v := 0) (pn := 9) dX6_saves_8 (by decide) rfl ?_
    refine mb_istore_n (pn := 10) (lv2 := [(1, .inl 0), (0, mb_F 6 0 0)]) dX6_saves_9 rfl (by decide) rfl rfl ?_
    exact mb_lvs [1, 0] rfl (T_X6_saves_10 hst hg  mb_fu _ _ hr)
set_option maxRecDepth 100000 in
set_option maxHeartbeats 4000000 in
theorem cl_X6_42 {l : Launch} {G : mb_G} {cc : ByteArray} {nL : Nat} {ret : Option FieldType} {d pc pn : Nat} {lv : List (Nat × mb_AV)} {st : List mb_AV} {h : mb_AH} {res : mb_RS} (hst : l.stackTraces = false) (hg : mb_gok G) {x1 : Int32} {K : Int32 → mb_AH → Option mb_RS} (hd2 : 0 + 1 ≤ d) (hs4 : st.length ≤ 4) (dg : decode cc pc = .ok (.invokevirtual 42, 3)) (hn : pc + 3 = pn) (hr : mb_cI (F_X6_refused x1 h) K = some res) (kk : ∀ (x : Int32) (h2 : mb_AH), K x h2 = some res → mb_Ev l G RX6 cc nL ret d pn lv (.inl x :: st) h2 res) : mb_Ev l G RX6 cc nL ret d pc lv (.inl x1 :: mb_F 6 0 0 :: st) h res := mb_kVI (as := [.inl x1]) (n := 1) (d2 := 0) (ci := 6) (fun _ hf => C_X6_refused hst hg hf) (mb_gV wl_X6_42 mi_X6_refused ms_X6_refused mn_X6 mc_X6_refused) (by decide +kernel) rfl rfl rfl hd2 (by decide) hs4 rfl dg hn hr kk
def B_X6_undo_33  : Nat → Int32 → mb_AH → Option mb_RS
  | 0, _, _ => none
  | n + 1, v1, h => (if 270 ≤ v1 then (some (.inl (some (.inl (h.1 6 0 0 3))), h)) else (mb_gB (((270 : Int32) * (h.1 6 0 0 3)) + v1) 1080 (mb_gB v1 270 (mb_up (mb_sI h 20 0 0 v1.toNatClampNeg (h.1 21 0 0 (((270 : Int32) * (h.1 6 0 0 3)) + v1).toNatClampNeg)) fun h104 => (mb_lI (v1 + 1) fun y105 => ((B_X6_undo_33  n) y105 h104))))))
set_option maxRecDepth 100000 in
set_option maxHeartbeats 4000000 in
theorem T_X6_undo_33 {l : Launch} {G : mb_G} {res : mb_RS} (hst : l.stackTraces = false) (hg : mb_gok G)   : ∀ (n : Nat) (v1 : Int32) (h : mb_AH), B_X6_undo_33  n v1 h = some res → mb_Ev l G RX6 cX6_undo 2 (some .int) 1 33 [(0, mb_F 6 0 0), (1, .inl v1)] [] h res := by
  intro n
  induction n with
  | zero => intro v1 h hr; cases hr
  | succ n ih =>
    intro v1 h hr
    rw [B_X6_undo_33] at hr
    refine mb_iload_n (pn := 34) 1 dX6_undo_33 rfl rfl rfl ?_
    refine mb_sipush (v := 270) (pn := 37) dX6_undo_34 (by decide) rfl ?_
    refine mb_ic_ge (tgt := 67) (pn := 40) dX6_undo_37 (by decide) rfl hr (fun hr => ?_) (fun hr => ?_)
    · refine mb_aload_n (pn := 68) 0 dX6_undo_67 rfl rfl rfl ?_
      refine gf_X6_39 (pn := 71) dX6_undo_68 rfl ?_
      cases hr
      exact mb_iret dX6_undo_71
    · refine mb_aload_n (pn := 41) 0 dX6_undo_40 rfl rfl rfl ?_
      refine gf_X6_7 (pn := 44) dX6_undo_41 rfl ?_
      refine mb_iload_n (pn := 45) 1 dX6_undo_44 rfl rfl rfl ?_
      refine mb_aload_n (pn := 46) 0 dX6_undo_45 rfl rfl rfl ?_
      refine gf_X6_13 (pn := 49) dX6_undo_46 rfl ?_
      refine mb_sipush (v := 270) (pn := 52) dX6_undo_49 (by decide) rfl ?_
      refine mb_aload_n (pn := 53) 0 dX6_undo_52 rfl rfl rfl ?_
      refine gf_X6_39 (pn := 56) dX6_undo_53 rfl ?_
      refine mb_imul (pn := 57) dX6_undo_56 rfl ?_
      refine mb_iload_n (pn := 58) 1 dX6_undo_57 rfl rfl rfl ?_
      refine mb_iadd (pn := 59) dX6_undo_58 rfl ?_
      refine mb_iald (pn := 60) (n := 1080) rfl dX6_undo_59 rfl hr (fun hr => ?_)
      refine mb_iast (pn := 61) (n := 270) rfl rfl dX6_undo_60 rfl hr (fun hr => ?_)
      refine mb_nmh hr (fun h104 hr => ?_)
      refine mb_nmx hr (fun y105 qy105 hr => ?_)
      refine mb_iinc (v := y105) (pn := 64) (lv2 := [(1, .inl y105), (0, mb_F 6 0 0)]) 1 dX6_undo_61 rfl (by rw [qy105]; rfl) (by decide) rfl rfl ?_
      refine mb_goto (tgt := 33) dX6_undo_64 (by decide) ?_
      exact mb_lvs [1, 0] rfl (ih _ _ hr)
def B_X6_undo_13  (s0 : Int32) (h : mb_AH) : Option mb_RS := (mb_cI (F_X6_refused s0 h) fun y102 h101 => (if y102 = 0 then (mb_up (mb_sI h101 6 0 0 3 ((h101.1 6 0 0 3) - 1)) fun h103 => (B_X6_undo_33  mb_fu 0 h103)) else (some (.inl (some (.inl 0)), h101))))
set_option maxRecDepth 100000 in
set_option maxHeartbeats 4000000 in
theorem T_X6_undo_13 {l : Launch} {G : mb_G} {res : mb_RS} (hst : l.stackTraces = false) (hg : mb_gok G)   {s0 : Int32} {h : mb_AH} (hr : B_X6_undo_13  s0 h = some res) : mb_Ev l G RX6 cX6_undo 2 (some .int) 1 13 [(0, mb_F 6 0 0)] [.inl s0, mb_F 6 0 0] h res := by
  unfold B_X6_undo_13 at hr
  refine cl_X6_42 (pn := 16) hst hg (Nat.le_of_ble_eq_true rfl) (Nat.le_of_ble_eq_true rfl) dX6_undo_13 rfl hr (fun y102 h101 hr => ?_)
  refine mb_if_eq (tgt := 21) (pn := 19) dX6_undo_16 (by decide) rfl hr (fun hr => ?_) (fun hr => ?_)
  · refine mb_aload_n (pn := 22) 0 dX6_undo_21 rfl rfl rfl ?_
    refine mb_dup (pn := 23) rfl dX6_undo_22 rfl ?_
    refine gf_X6_39 (pn := 26) dX6_undo_23 rfl ?_
    refine mb_iconst (v := 1) (pn := 27) dX6_undo_26 (by decide) rfl ?_
    refine mb_isub (pn := 28) dX6_undo_27 rfl ?_
    refine pf_X6_39 (pn := 31) dX6_undo_28 rfl hr (fun h103 hr => ?_)
    refine mb_iconst (v := 0) (pn := 32) dX6_undo_31 (by decide) rfl ?_
    refine mb_istore_n (pn := 33) (lv2 := [(1, .inl 0), (0, mb_F 6 0 0)]) dX6_undo_32 rfl (by decide) rfl rfl ?_
    exact mb_lvs [1, 0] rfl (T_X6_undo_33 hst hg  mb_fu _ _ hr)
  · refine mb_iconst (v := 0) (pn := 20) dX6_undo_19 (by decide) rfl ?_
    cases hr
    exact mb_iret dX6_undo_20
def F_X6_undo  (h : mb_AH) : Option mb_RS := (if (h.1 6 0 0 3) = 0 then (B_X6_undo_13  1 h) else (B_X6_undo_13  0 h))
set_option maxRecDepth 100000 in
set_option maxHeartbeats 4000000 in
theorem C_X6_undo {l : Launch} {G : mb_G} (hst : l.stackTraces = false) (hg : mb_gok G)  {h : mb_AH} {res : mb_RS} (hr : F_X6_undo  h = some res) : mb_Mt l G yX6_undo cX6_undo 2 (some .int) 1 [mb_F 6 0 0] h res := by
  refine mb_entry (own := RX6) (lv := [(0, mb_F 6 0 0)]) (by decide +kernel) rfl (Nat.le_of_ble_eq_true rfl) rfl rfl (fun _ => ?_) hst hg
  unfold F_X6_undo at hr
  refine mb_aload_n (pn := 1) 0 dX6_undo_0 rfl rfl rfl ?_
  refine mb_aload_n (pn := 2) 0 dX6_undo_1 rfl rfl rfl ?_
  refine gf_X6_39 (pn := 5) dX6_undo_2 rfl ?_
  refine mb_if_ne (tgt := 12) (pn := 8) dX6_undo_5 (by decide) rfl hr (fun hr => ?_) (fun hr => ?_)
  · refine mb_iconst (v := 0) (pn := 13) dX6_undo_12 (by decide) rfl ?_
    exact mb_lvs [0] rfl (T_X6_undo_13 hst hg  hr)
  · refine mb_iconst (v := 1) (pn := 9) dX6_undo_8 (by decide) rfl ?_
    refine mb_goto (tgt := 13) dX6_undo_9 (by decide) ?_
    exact mb_lvs [0] rfl (T_X6_undo_13 hst hg  hr)
def B_X6_keeps_2  : Nat → Int32 → mb_AH → Option mb_RS
  | 0, _, _ => none
  | n + 1, v1, h => (if 270 ≤ v1 then (some (.inl none, h)) else (mb_gB v1 270 (mb_gB v1 270 (mb_up (mb_sI h 22 0 0 v1.toNatClampNeg (h.1 20 0 0 v1.toNatClampNeg)) fun h101 => (mb_lI (v1 + 1) fun y102 => ((B_X6_keeps_2  n) y102 h101))))))
set_option maxRecDepth 100000 in
set_option maxHeartbeats 4000000 in
theorem T_X6_keeps_2 {l : Launch} {G : mb_G} {res : mb_RS} (hst : l.stackTraces = false) (hg : mb_gok G)   : ∀ (n : Nat) (v1 : Int32) (h : mb_AH), B_X6_keeps_2  n v1 h = some res → mb_Ev l G RX6 cX6_keeps 2 none 0 2 [(0, mb_F 6 0 0), (1, .inl v1)] [] h res := by
  intro n
  induction n with
  | zero => intro v1 h hr; cases hr
  | succ n ih =>
    intro v1 h hr
    rw [B_X6_keeps_2] at hr
    refine mb_iload_n (pn := 3) 1 dX6_keeps_2 rfl rfl rfl ?_
    refine mb_sipush (v := 270) (pn := 6) dX6_keeps_3 (by decide) rfl ?_
    refine mb_ic_ge (tgt := 27) (pn := 9) dX6_keeps_6 (by decide) rfl hr (fun hr => ?_) (fun hr => ?_)
    · cases hr
      exact mb_vret dX6_keeps_27
    · refine mb_aload_n (pn := 10) 0 dX6_keeps_9 rfl rfl rfl ?_
      refine gf_X6_16 (pn := 13) dX6_keeps_10 rfl ?_
      refine mb_iload_n (pn := 14) 1 dX6_keeps_13 rfl rfl rfl ?_
      refine mb_aload_n (pn := 15) 0 dX6_keeps_14 rfl rfl rfl ?_
      refine gf_X6_7 (pn := 18) dX6_keeps_15 rfl ?_
      refine mb_iload_n (pn := 19) 1 dX6_keeps_18 rfl rfl rfl ?_
      refine mb_iald (pn := 20) (n := 270) rfl dX6_keeps_19 rfl hr (fun hr => ?_)
      refine mb_iast (pn := 21) (n := 270) rfl rfl dX6_keeps_20 rfl hr (fun hr => ?_)
      refine mb_nmh hr (fun h101 hr => ?_)
      refine mb_nmx hr (fun y102 qy102 hr => ?_)
      refine mb_iinc (v := y102) (pn := 24) (lv2 := [(1, .inl y102), (0, mb_F 6 0 0)]) 1 dX6_keeps_21 rfl (by rw [qy102]; rfl) (by decide) rfl rfl ?_
      refine mb_goto (tgt := 2) dX6_keeps_24 (by decide) ?_
      exact mb_lvs [1, 0] rfl (ih _ _ hr)
def F_X6_keeps  (h : mb_AH) : Option mb_RS := (B_X6_keeps_2  mb_fu 0 h)
set_option maxRecDepth 100000 in
set_option maxHeartbeats 4000000 in
theorem C_X6_keeps {l : Launch} {G : mb_G} (hst : l.stackTraces = false) (hg : mb_gok G)  {h : mb_AH} {res : mb_RS} (hr : F_X6_keeps  h = some res) : mb_Mt l G yX6_keeps cX6_keeps 2 none 0 [mb_F 6 0 0] h res := by
  refine mb_entry (own := RX6) (lv := [(0, mb_F 6 0 0)]) (by decide +kernel) rfl (Nat.le_of_ble_eq_true rfl) rfl rfl (fun _ => ?_) hst hg
  unfold F_X6_keeps at hr
  refine mb_iconst (v := 0) (pn := 1) dX6_keeps_0 (by decide) rfl ?_
  refine mb_istore_n (pn := 2) (lv2 := [(1, .inl 0), (0, mb_F 6 0 0)]) dX6_keeps_1 rfl (by decide) rfl rfl ?_
  exact mb_lvs [1, 0] rfl (T_X6_keeps_2 hst hg  mb_fu _ _ hr)
def B_X6_returns_2  : Nat → Int32 → mb_AH → Option mb_RS
  | 0, _, _ => none
  | n + 1, v1, h => (if 270 ≤ v1 then (some (.inl none, h)) else (mb_gB v1 270 (mb_gB v1 270 (mb_up (mb_sI h 20 0 0 v1.toNatClampNeg (h.1 22 0 0 v1.toNatClampNeg)) fun h101 => (mb_lI (v1 + 1) fun y102 => ((B_X6_returns_2  n) y102 h101))))))
set_option maxRecDepth 100000 in
set_option maxHeartbeats 4000000 in
theorem T_X6_returns_2 {l : Launch} {G : mb_G} {res : mb_RS} (hst : l.stackTraces = false) (hg : mb_gok G)   : ∀ (n : Nat) (v1 : Int32) (h : mb_AH), B_X6_returns_2  n v1 h = some res → mb_Ev l G RX6 cX6_returns 2 none 0 2 [(0, mb_F 6 0 0), (1, .inl v1)] [] h res := by
  intro n
  induction n with
  | zero => intro v1 h hr; cases hr
  | succ n ih =>
    intro v1 h hr
    rw [B_X6_returns_2] at hr
    refine mb_iload_n (pn := 3) 1 dX6_returns_2 rfl rfl rfl ?_
    refine mb_sipush (v := 270) (pn := 6) dX6_returns_3 (by decide) rfl ?_
    refine mb_ic_ge (tgt := 27) (pn := 9) dX6_returns_6 (by decide) rfl hr (fun hr => ?_) (fun hr => ?_)
    · cases hr
      exact mb_vret dX6_returns_27
    · refine mb_aload_n (pn := 10) 0 dX6_returns_9 rfl rfl rfl ?_
      refine gf_X6_7 (pn := 13) dX6_returns_10 rfl ?_
      refine mb_iload_n (pn := 14) 1 dX6_returns_13 rfl rfl rfl ?_
      refine mb_aload_n (pn := 15) 0 dX6_returns_14 rfl rfl rfl ?_
      refine gf_X6_16 (pn := 18) dX6_returns_15 rfl ?_
      refine mb_iload_n (pn := 19) 1 dX6_returns_18 rfl rfl rfl ?_
      refine mb_iald (pn := 20) (n := 270) rfl dX6_returns_19 rfl hr (fun hr => ?_)
      refine mb_iast (pn := 21) (n := 270) rfl rfl dX6_returns_20 rfl hr (fun hr => ?_)
      refine mb_nmh hr (fun h101 hr => ?_)
      refine mb_nmx hr (fun y102 qy102 hr => ?_)
      refine mb_iinc (v := y102) (pn := 24) (lv2 := [(1, .inl y102), (0, mb_F 6 0 0)]) 1 dX6_returns_21 rfl (by rw [qy102]; rfl) (by decide) rfl rfl ?_
      refine mb_goto (tgt := 2) dX6_returns_24 (by decide) ?_
      exact mb_lvs [1, 0] rfl (ih _ _ hr)
def F_X6_returns  (h : mb_AH) : Option mb_RS := (B_X6_returns_2  mb_fu 0 h)
set_option maxRecDepth 100000 in
set_option maxHeartbeats 4000000 in
theorem C_X6_returns {l : Launch} {G : mb_G} (hst : l.stackTraces = false) (hg : mb_gok G)  {h : mb_AH} {res : mb_RS} (hr : F_X6_returns  h = some res) : mb_Mt l G yX6_returns cX6_returns 2 none 0 [mb_F 6 0 0] h res := by
  refine mb_entry (own := RX6) (lv := [(0, mb_F 6 0 0)]) (by decide +kernel) rfl (Nat.le_of_ble_eq_true rfl) rfl rfl (fun _ => ?_) hst hg
  unfold F_X6_returns at hr
  refine mb_iconst (v := 0) (pn := 1) dX6_returns_0 (by decide) rfl ?_
  refine mb_istore_n (pn := 2) (lv2 := [(1, .inl 0), (0, mb_F 6 0 0)]) dX6_returns_1 rfl (by decide) rfl rfl ?_
  exact mb_lvs [1, 0] rfl (T_X6_returns_2 hst hg  mb_fu _ _ hr)
set_option maxRecDepth 100000 in
set_option maxHeartbeats 4000000 in
theorem cl_X6_46 {l : Launch} {G : mb_G} {cc : ByteArray} {nL : Nat} {ret : Option FieldType} {d pc pn : Nat} {lv : List (Nat × mb_AV)} {st : List mb_AV} {h : mb_AH} {res : mb_RS} (hst : l.stackTraces = false) (hg : mb_gok G) {x1 : Int32} {x2 : Int32} {x3 : Int32} {K : Int32 → mb_AH → Option mb_RS} (hd2 : 0 + 1 ≤ d) (hs4 : st.length ≤ 4) (dg : decode cc pc = .ok (.invokestatic 46, 3)) (hn : pc + 3 = pn) (hr : mb_cI (F_X6_within x1 x2 x3 h) K = some res) (kk : ∀ (x : Int32) (h2 : mb_AH), K x h2 = some res → mb_Ev l G RX6 cc nL ret d pn lv (.inl x :: st) h2 res) : mb_Ev l G RX6 cc nL ret d pc lv (.inl x3 :: .inl x2 :: .inl x1 :: st) h res := mb_kSI (as := [.inl x1, .inl x2, .inl x3]) (n := 3) (d2 := 0) (fun _ hf => C_X6_within hst hg hf) (mb_gS wl_X6_46 mt_X6_within mn_X6 mc_X6_within) (by decide +kernel) rfl hd2 (by decide) hs4 rfl dg hn hr kk
def F_X6_isBerth (x1 : Int32) (h : mb_AH) : Option mb_RS := (mb_gB 6 270 (mb_cI (F_X6_within x1 (0 : Int32) ((h.1 20 0 0 (6 : Int32).toNatClampNeg) - 1) h) fun y102 h101 => (mb_gZ y102 (some (.inl (some (.inl y102)), h101)))))
set_option maxRecDepth 100000 in
set_option maxHeartbeats 4000000 in
theorem C_X6_isBerth {l : Launch} {G : mb_G} (hst : l.stackTraces = false) (hg : mb_gok G) {x1 : Int32} {h : mb_AH} {res : mb_RS} (hr : F_X6_isBerth x1 h = some res) : mb_Mt l G yX6_isBerth cX6_isBerth 2 (some .boolean) 1 [mb_F 6 0 0, .inl x1] h res := by
  refine mb_entry (own := RX6) (lv := [(0, mb_F 6 0 0), (1, .inl x1)]) (by decide +kernel) rfl (Nat.le_of_ble_eq_true rfl) rfl rfl (fun _ => ?_) hst hg
  unfold F_X6_isBerth at hr
  refine mb_iload_n (pn := 1) 1 dX6_isBerth_0 rfl rfl rfl ?_
  refine mb_iconst (v := 0) (pn := 2) dX6_isBerth_1 (by decide) rfl ?_
  refine mb_aload_n (pn := 3) 0 dX6_isBerth_2 rfl rfl rfl ?_
  refine gf_X6_7 (pn := 6) dX6_isBerth_3 rfl ?_
  refine mb_bipush (v := 6) (pn := 8) dX6_isBerth_6 (by decide) rfl ?_
  refine mb_iald (pn := 9) (n := 270) rfl dX6_isBerth_8 rfl hr (fun hr => ?_)
  refine mb_iconst (v := 1) (pn := 10) dX6_isBerth_9 (by decide) rfl ?_
  refine mb_isub (pn := 11) dX6_isBerth_10 rfl ?_
  refine cl_X6_46 (pn := 14) hst hg (Nat.le_of_ble_eq_true rfl) (Nat.le_of_ble_eq_true rfl) dX6_isBerth_11 rfl hr (fun y102 h101 hr => ?_)
  exact mb_zret dX6_isBerth_14 hr
def F_X6_isBoat (x1 : Int32) (h : mb_AH) : Option mb_RS := (mb_gB 7 270 (mb_cI (F_X6_within x1 (0 : Int32) ((h.1 20 0 0 (7 : Int32).toNatClampNeg) - 1) h) fun y102 h101 => (mb_gZ y102 (some (.inl (some (.inl y102)), h101)))))
set_option maxRecDepth 100000 in
set_option maxHeartbeats 4000000 in
theorem C_X6_isBoat {l : Launch} {G : mb_G} (hst : l.stackTraces = false) (hg : mb_gok G) {x1 : Int32} {h : mb_AH} {res : mb_RS} (hr : F_X6_isBoat x1 h = some res) : mb_Mt l G yX6_isBoat cX6_isBoat 2 (some .boolean) 1 [mb_F 6 0 0, .inl x1] h res := by
  refine mb_entry (own := RX6) (lv := [(0, mb_F 6 0 0), (1, .inl x1)]) (by decide +kernel) rfl (Nat.le_of_ble_eq_true rfl) rfl rfl (fun _ => ?_) hst hg
  unfold F_X6_isBoat at hr
  refine mb_iload_n (pn := 1) 1 dX6_isBoat_0 rfl rfl rfl ?_
  refine mb_iconst (v := 0) (pn := 2) dX6_isBoat_1 (by decide) rfl ?_
  refine mb_aload_n (pn := 3) 0 dX6_isBoat_2 rfl rfl rfl ?_
  refine gf_X6_7 (pn := 6) dX6_isBoat_3 rfl ?_
  refine mb_bipush (v := 7) (pn := 8) dX6_isBoat_6 (by decide) rfl ?_
  refine mb_iald (pn := 9) (n := 270) rfl dX6_isBoat_8 rfl hr (fun hr => ?_)
  refine mb_iconst (v := 1) (pn := 10) dX6_isBoat_9 (by decide) rfl ?_
  refine mb_isub (pn := 11) dX6_isBoat_10 rfl ?_
  refine cl_X6_46 (pn := 14) hst hg (Nat.le_of_ble_eq_true rfl) (Nat.le_of_ble_eq_true rfl) dX6_isBoat_11 rfl hr (fun y102 h101 hr => ?_)
  exact mb_zret dX6_isBoat_14 hr
def F_X6_ofBerth (x1 : Int32) (x2 : Int32) (h : mb_AH) : Option mb_RS := (mb_gB (((26 : Int32) + ((4 : Int32) * x1)) + x2) 270 (some (.inl (some (.inl (h.1 20 0 0 (((26 : Int32) + ((4 : Int32) * x1)) + x2).toNatClampNeg))), h)))
set_option maxRecDepth 100000 in
set_option maxHeartbeats 4000000 in
theorem C_X6_ofBerth {l : Launch} {G : mb_G} (hst : l.stackTraces = false) (hg : mb_gok G) {x1 : Int32} {x2 : Int32} {h : mb_AH} {res : mb_RS} (hr : F_X6_ofBerth x1 x2 h = some res) : mb_Mt l G yX6_ofBerth cX6_ofBerth 3 (some .int) 0 [mb_F 6 0 0, .inl x1, .inl x2] h res := by
  refine mb_entry (own := RX6) (lv := [(0, mb_F 6 0 0), (1, .inl x1), (2, .inl x2)]) (by decide +kernel) rfl (Nat.le_of_ble_eq_true rfl) rfl rfl (fun _ => ?_) hst hg
  unfold F_X6_ofBerth at hr
  refine mb_aload_n (pn := 1) 0 dX6_ofBerth_0 rfl rfl rfl ?_
  refine gf_X6_7 (pn := 4) dX6_ofBerth_1 rfl ?_
  refine mb_bipush (v := 26) (pn := 6) dX6_ofBerth_4 (by decide) rfl ?_
  refine mb_iconst (v := 4) (pn := 7) dX6_ofBerth_6 (by decide) rfl ?_
  refine mb_iload_n (pn := 8) 1 dX6_ofBerth_7 rfl rfl rfl ?_
  refine mb_imul (pn := 9) dX6_ofBerth_8 rfl ?_
  refine mb_iadd (pn := 10) dX6_ofBerth_9 rfl ?_
  refine mb_iload_n (pn := 11) 2 dX6_ofBerth_10 rfl rfl rfl ?_
  refine mb_iadd (pn := 12) dX6_ofBerth_11 rfl ?_
  refine mb_iald (pn := 13) (n := 270) rfl dX6_ofBerth_12 rfl hr (fun hr => ?_)
  cases hr
  exact mb_iret dX6_ofBerth_13
def F_X6_ofBoat (x1 : Int32) (x2 : Int32) (h : mb_AH) : Option mb_RS := (mb_gB (((90 : Int32) + ((9 : Int32) * x1)) + x2) 270 (some (.inl (some (.inl (h.1 20 0 0 (((90 : Int32) + ((9 : Int32) * x1)) + x2).toNatClampNeg))), h)))
set_option maxRecDepth 100000 in
set_option maxHeartbeats 4000000 in
theorem C_X6_ofBoat {l : Launch} {G : mb_G} (hst : l.stackTraces = false) (hg : mb_gok G) {x1 : Int32} {x2 : Int32} {h : mb_AH} {res : mb_RS} (hr : F_X6_ofBoat x1 x2 h = some res) : mb_Mt l G yX6_ofBoat cX6_ofBoat 3 (some .int) 0 [mb_F 6 0 0, .inl x1, .inl x2] h res := by
  refine mb_entry (own := RX6) (lv := [(0, mb_F 6 0 0), (1, .inl x1), (2, .inl x2)]) (by decide +kernel) rfl (Nat.le_of_ble_eq_true rfl) rfl rfl (fun _ => ?_) hst hg
  unfold F_X6_ofBoat at hr
  refine mb_aload_n (pn := 1) 0 dX6_ofBoat_0 rfl rfl rfl ?_
  refine gf_X6_7 (pn := 4) dX6_ofBoat_1 rfl ?_
  refine mb_bipush (v := 90) (pn := 6) dX6_ofBoat_4 (by decide) rfl ?_
  refine mb_bipush (v := 9) (pn := 8) dX6_ofBoat_6 (by decide) rfl ?_
  refine mb_iload_n (pn := 9) 1 dX6_ofBoat_8 rfl rfl rfl ?_
  refine mb_imul (pn := 10) dX6_ofBoat_9 rfl ?_
  refine mb_iadd (pn := 11) dX6_ofBoat_10 rfl ?_
  refine mb_iload_n (pn := 12) 2 dX6_ofBoat_11 rfl rfl rfl ?_
  refine mb_iadd (pn := 13) dX6_ofBoat_12 rfl ?_
  refine mb_iald (pn := 14) (n := 270) rfl dX6_ofBoat_13 rfl hr (fun hr => ?_)
  cases hr
  exact mb_iret dX6_ofBoat_14
def F_X6_sets (x1 : Int32) (x2 : Int32) (x3 : Int32) (h : mb_AH) : Option mb_RS := (mb_gB (((90 : Int32) + ((9 : Int32) * x1)) + x2) 270 (mb_up (mb_sI h 20 0 0 (((90 : Int32) + ((9 : Int32) * x1)) + x2).toNatClampNeg x3) fun h101 => (some (.inl none, h101))))
set_option maxRecDepth 100000 in
set_option maxHeartbeats 4000000 in
theorem C_X6_sets {l : Launch} {G : mb_G} (hst : l.stackTraces = false) (hg : mb_gok G) {x1 : Int32} {x2 : Int32} {x3 : Int32} {h : mb_AH} {res : mb_RS} (hr : F_X6_sets x1 x2 x3 h = some res) : mb_Mt l G yX6_sets cX6_sets 4 none 0 [mb_F 6 0 0, .inl x1, .inl x2, .inl x3] h res := by
  refine mb_entry (own := RX6) (lv := [(0, mb_F 6 0 0), (1, .inl x1), (2, .inl x2), (3, .inl x3)]) (by decide +kernel) rfl (Nat.le_of_ble_eq_true rfl) rfl rfl (fun _ => ?_) hst hg
  unfold F_X6_sets at hr
  refine mb_aload_n (pn := 1) 0 dX6_sets_0 rfl rfl rfl ?_
  refine gf_X6_7 (pn := 4) dX6_sets_1 rfl ?_
  refine mb_bipush (v := 90) (pn := 6) dX6_sets_4 (by decide) rfl ?_
  refine mb_bipush (v := 9) (pn := 8) dX6_sets_6 (by decide) rfl ?_
  refine mb_iload_n (pn := 9) 1 dX6_sets_8 rfl rfl rfl ?_
  refine mb_imul (pn := 10) dX6_sets_9 rfl ?_
  refine mb_iadd (pn := 11) dX6_sets_10 rfl ?_
  refine mb_iload_n (pn := 12) 2 dX6_sets_11 rfl rfl rfl ?_
  refine mb_iadd (pn := 13) dX6_sets_12 rfl ?_
  refine mb_iload_n (pn := 14) 3 dX6_sets_13 rfl rfl rfl ?_
  refine mb_iast (pn := 15) (n := 270) rfl rfl dX6_sets_14 rfl hr (fun hr => ?_)
  refine mb_nmh hr (fun h101 hr => ?_)
  cases hr
  exact mb_vret dX6_sets_15
def F_X6_lowOn (x1 : Int32) (h : mb_AH) : Option mb_RS := (mb_gB 8 270 (mb_g0 (h.1 20 0 0 (8 : Int32).toNatClampNeg) (mb_gB ((12 : Int32) + (x1 - x1 / (h.1 20 0 0 (8 : Int32).toNatClampNeg) * (h.1 20 0 0 (8 : Int32).toNatClampNeg))) 270 (some (.inl (some (.inl (h.1 20 0 0 ((12 : Int32) + (x1 - x1 / (h.1 20 0 0 (8 : Int32).toNatClampNeg) * (h.1 20 0 0 (8 : Int32).toNatClampNeg))).toNatClampNeg))), h)))))
set_option maxRecDepth 100000 in
set_option maxHeartbeats 4000000 in
theorem C_X6_lowOn {l : Launch} {G : mb_G} (hst : l.stackTraces = false) (hg : mb_gok G) {x1 : Int32} {h : mb_AH} {res : mb_RS} (hr : F_X6_lowOn x1 h = some res) : mb_Mt l G yX6_lowOn cX6_lowOn 2 (some .int) 0 [mb_F 6 0 0, .inl x1] h res := by
  refine mb_entry (own := RX6) (lv := [(0, mb_F 6 0 0), (1, .inl x1)]) (by decide +kernel) rfl (Nat.le_of_ble_eq_true rfl) rfl rfl (fun _ => ?_) hst hg
  unfold F_X6_lowOn at hr
  refine mb_aload_n (pn := 1) 0 dX6_lowOn_0 rfl rfl rfl ?_
  refine gf_X6_7 (pn := 4) dX6_lowOn_1 rfl ?_
  refine mb_bipush (v := 12) (pn := 6) dX6_lowOn_4 (by decide) rfl ?_
  refine mb_iload_n (pn := 7) 1 dX6_lowOn_6 rfl rfl rfl ?_
  refine mb_aload_n (pn := 8) 0 dX6_lowOn_7 rfl rfl rfl ?_
  refine gf_X6_7 (pn := 11) dX6_lowOn_8 rfl ?_
  refine mb_bipush (v := 8) (pn := 13) dX6_lowOn_11 (by decide) rfl ?_
  refine mb_iald (pn := 14) (n := 270) rfl dX6_lowOn_13 rfl hr (fun hr => ?_)
  refine mb_irem (pn := 15) dX6_lowOn_14 rfl hr (fun hr => ?_)
  refine mb_iadd (pn := 16) dX6_lowOn_15 rfl ?_
  refine mb_iald (pn := 17) (n := 270) rfl dX6_lowOn_16 rfl hr (fun hr => ?_)
  cases hr
  exact mb_iret dX6_lowOn_17
def B_X6_lowest_10  : Nat → Int32 → Int32 → mb_AH → Option mb_RS
  | 0, _, _, _ => none
  | n + 1, v1, v2, h => (mb_gB 8 270 (if (h.1 20 0 0 (8 : Int32).toNatClampNeg) ≤ v2 then (some (.inl (some (.inl v1)), h)) else (mb_gB ((12 : Int32) + v2) 270 (if v1 ≤ (h.1 20 0 0 ((12 : Int32) + v2).toNatClampNeg) then (mb_lI (v2 + 1) fun y102 => ((B_X6_lowest_10  n) v1 y102 h)) else (mb_gB ((12 : Int32) + v2) 270 (mb_lI (h.1 20 0 0 ((12 : Int32) + v2).toNatClampNeg) fun y103 => (mb_lI (v2 + 1) fun y104 => ((B_X6_lowest_10  n) y103 y104 h))))))))
set_option maxRecDepth 100000 in
set_option maxHeartbeats 4000000 in
theorem T_X6_lowest_10 {l : Launch} {G : mb_G} {res : mb_RS} (hst : l.stackTraces = false) (hg : mb_gok G)   : ∀ (n : Nat) (v1 : Int32) (v2 : Int32) (h : mb_AH), B_X6_lowest_10  n v1 v2 h = some res → mb_Ev l G RX6 cX6_lowest 3 (some .int) 0 10 [(0, mb_F 6 0 0), (1, .inl v1), (2, .inl v2)] [] h res := by
  intro n
  induction n with
  | zero => intro v1 v2 h hr; cases hr
  | succ n ih =>
    intro v1 v2 h hr
    rw [B_X6_lowest_10] at hr
    refine mb_iload_n (pn := 11) 2 dX6_lowest_10 rfl rfl rfl ?_
    refine mb_aload_n (pn := 12) 0 dX6_lowest_11 rfl rfl rfl ?_
    refine gf_X6_7 (pn := 15) dX6_lowest_12 rfl ?_
    refine mb_bipush (v := 8) (pn := 17) dX6_lowest_15 (by decide) rfl ?_
    refine mb_iald (pn := 18) (n := 270) rfl dX6_lowest_17 rfl hr (fun hr => ?_)
    refine mb_ic_ge (tgt := 54) (pn := 21) dX6_lowest_18 (by decide) rfl hr (fun hr => ?_) (fun hr => ?_)
    · refine mb_iload_n (pn := 55) 1 dX6_lowest_54 rfl rfl rfl ?_
      cases hr
      exact mb_iret dX6_lowest_55
    · refine mb_aload_n (pn := 22) 0 dX6_lowest_21 rfl rfl rfl ?_
      refine gf_X6_7 (pn := 25) dX6_lowest_22 rfl ?_
      refine mb_bipush (v := 12) (pn := 27) dX6_lowest_25 (by decide) rfl ?_
      refine mb_iload_n (pn := 28) 2 dX6_lowest_27 rfl rfl rfl ?_
      refine mb_iadd (pn := 29) dX6_lowest_28 rfl ?_
      refine mb_iald (pn := 30) (n := 270) rfl dX6_lowest_29 rfl hr (fun hr => ?_)
      refine mb_iload_n (pn := 31) 1 dX6_lowest_30 rfl rfl rfl ?_
      refine mb_ic_ge (tgt := 46) (pn := 34) dX6_lowest_31 (by decide) rfl hr (fun hr => ?_) (fun hr => ?_)
      · refine mb_iload_n (pn := 47) 1 dX6_lowest_46 rfl rfl rfl ?_
        refine mb_istore_n (pn := 48) (lv2 := [(1, .inl v1), (0, mb_F 6 0 0), (2, .inl v2)]) dX6_lowest_47 rfl (by decide) rfl rfl ?_
        refine mb_nmx hr (fun y102 qy102 hr => ?_)
        refine mb_iinc (v := y102) (pn := 51) (lv2 := [(2, .inl y102), (1, .inl v1), (0, mb_F 6 0 0)]) 2 dX6_lowest_48 rfl (by rw [qy102]; rfl) (by decide) rfl rfl ?_
        refine mb_goto (tgt := 10) dX6_lowest_51 (by decide) ?_
        exact mb_lvs [2, 1, 0] rfl (ih _ _ _ hr)
      · refine mb_aload_n (pn := 35) 0 dX6_lowest_34 rfl rfl rfl ?_
        refine gf_X6_7 (pn := 38) dX6_lowest_35 rfl ?_
        refine mb_bipush (v := 12) (pn := 40) dX6_lowest_38 (by decide) rfl ?_
        refine mb_iload_n (pn := 41) 2 dX6_lowest_40 rfl rfl rfl ?_
        refine mb_iadd (pn := 42) dX6_lowest_41 rfl ?_
        refine mb_iald (pn := 43) (n := 270) rfl dX6_lowest_42 rfl hr (fun hr => ?_)
        refine mb_goto (tgt := 47) dX6_lowest_43 (by decide) ?_
        refine mb_nmI hr (fun y103 hr => ?_)
        refine mb_istore_n (pn := 48) (lv2 := [(1, .inl y103), (0, mb_F 6 0 0), (2, .inl v2)]) dX6_lowest_47 rfl (by decide) rfl rfl ?_
        refine mb_nmx hr (fun y104 qy104 hr => ?_)
        refine mb_iinc (v := y104) (pn := 51) (lv2 := [(2, .inl y104), (1, .inl y103), (0, mb_F 6 0 0)]) 2 dX6_lowest_48 rfl (by rw [qy104]; rfl) (by decide) rfl rfl ?_
        refine mb_goto (tgt := 10) dX6_lowest_51 (by decide) ?_
        exact mb_lvs [2, 1, 0] rfl (ih _ _ _ hr)
def F_X6_lowest  (h : mb_AH) : Option mb_RS := (mb_gB 12 270 (mb_lI (h.1 20 0 0 (12 : Int32).toNatClampNeg) fun y101 => (B_X6_lowest_10  mb_fu y101 1 h)))
set_option maxRecDepth 100000 in
set_option maxHeartbeats 4000000 in
theorem C_X6_lowest {l : Launch} {G : mb_G} (hst : l.stackTraces = false) (hg : mb_gok G)  {h : mb_AH} {res : mb_RS} (hr : F_X6_lowest  h = some res) : mb_Mt l G yX6_lowest cX6_lowest 3 (some .int) 0 [mb_F 6 0 0] h res := by
  refine mb_entry (own := RX6) (lv := [(0, mb_F 6 0 0)]) (by decide +kernel) rfl (Nat.le_of_ble_eq_true rfl) rfl rfl (fun _ => ?_) hst hg
  unfold F_X6_lowest at hr
  refine mb_aload_n (pn := 1) 0 dX6_lowest_0 rfl rfl rfl ?_
  refine gf_X6_7 (pn := 4) dX6_lowest_1 rfl ?_
  refine mb_bipush (v := 12) (pn := 6) dX6_lowest_4 (by decide) rfl ?_
  refine mb_iald (pn := 7) (n := 270) rfl dX6_lowest_6 rfl hr (fun hr => ?_)
  refine mb_nmI hr (fun y101 hr => ?_)
  refine mb_istore_n (pn := 8) (lv2 := [(1, .inl y101), (0, mb_F 6 0 0)]) dX6_lowest_7 rfl (by decide) rfl rfl ?_
  refine mb_iconst (v := 1) (pn := 9) dX6_lowest_8 (by decide) rfl ?_
  refine mb_istore_n (pn := 10) (lv2 := [(2, .inl 1), (1, .inl y101), (0, mb_F 6 0 0)]) dX6_lowest_9 rfl (by decide) rfl rfl ?_
  exact mb_lvs [2, 1, 0] rfl (T_X6_lowest_10 hst hg  mb_fu _ _ _ hr)
set_option maxRecDepth 100000 in
set_option maxHeartbeats 4000000 in
theorem cl_X6_50 {l : Launch} {G : mb_G} {cc : ByteArray} {nL : Nat} {ret : Option FieldType} {d pc pn : Nat} {lv : List (Nat × mb_AV)} {st : List mb_AV} {h : mb_AH} {res : mb_RS} (hst : l.stackTraces = false) (hg : mb_gok G) {x1 : Int32} {x2 : Int32} {K : Int32 → mb_AH → Option mb_RS} (hd2 : 0 + 1 ≤ d) (hs4 : st.length ≤ 4) (dg : decode cc pc = .ok (.invokevirtual 50, 3)) (hn : pc + 3 = pn) (hr : mb_cI (F_X6_ofBoat x1 x2 h) K = some res) (kk : ∀ (x : Int32) (h2 : mb_AH), K x h2 = some res → mb_Ev l G RX6 cc nL ret d pn lv (.inl x :: st) h2 res) : mb_Ev l G RX6 cc nL ret d pc lv (.inl x2 :: .inl x1 :: mb_F 6 0 0 :: st) h res := mb_kVI (as := [.inl x1, .inl x2]) (n := 2) (d2 := 0) (ci := 6) (fun _ hf => C_X6_ofBoat hst hg hf) (mb_gV wl_X6_50 mi_X6_ofBoat ms_X6_ofBoat mn_X6 mc_X6_ofBoat) (by decide +kernel) rfl rfl rfl hd2 (by decide) hs4 rfl dg hn hr kk
set_option maxRecDepth 100000 in
set_option maxHeartbeats 4000000 in
theorem cl_X6_54 {l : Launch} {G : mb_G} {cc : ByteArray} {nL : Nat} {ret : Option FieldType} {d pc pn : Nat} {lv : List (Nat × mb_AV)} {st : List mb_AV} {h : mb_AH} {res : mb_RS} (hst : l.stackTraces = false) (hg : mb_gok G) {x1 : Int32} {x2 : Int32} {K : Int32 → mb_AH → Option mb_RS} (hd2 : 0 + 1 ≤ d) (hs4 : st.length ≤ 4) (dg : decode cc pc = .ok (.invokevirtual 54, 3)) (hn : pc + 3 = pn) (hr : mb_cI (F_X6_ofBerth x1 x2 h) K = some res) (kk : ∀ (x : Int32) (h2 : mb_AH), K x h2 = some res → mb_Ev l G RX6 cc nL ret d pn lv (.inl x :: st) h2 res) : mb_Ev l G RX6 cc nL ret d pc lv (.inl x2 :: .inl x1 :: mb_F 6 0 0 :: st) h res := mb_kVI (as := [.inl x1, .inl x2]) (n := 2) (d2 := 0) (ci := 6) (fun _ hf => C_X6_ofBerth hst hg hf) (mb_gV wl_X6_54 mi_X6_ofBerth ms_X6_ofBerth mn_X6 mc_X6_ofBerth) (by decide +kernel) rfl rfl rfl hd2 (by decide) hs4 rfl dg hn hr kk
def F_X6_isLongEnough (x1 : Int32) (x2 : Int32) (h : mb_AH) : Option mb_RS := (mb_cI (F_X6_ofBoat x1 (0 : Int32) h) fun y102 h101 => (mb_cI (F_X6_ofBerth x2 (1 : Int32) h101) fun y104 h103 => (if y104 < y102 then (some (.inl (some (.inl 0)), h103)) else (some (.inl (some (.inl 1)), h103)))))
set_option maxRecDepth 100000 in
set_option maxHeartbeats 4000000 in
theorem C_X6_isLongEnough {l : Launch} {G : mb_G} (hst : l.stackTraces = false) (hg : mb_gok G) {x1 : Int32} {x2 : Int32} {h : mb_AH} {res : mb_RS} (hr : F_X6_isLongEnough x1 x2 h = some res) : mb_Mt l G yX6_isLongEnough cX6_isLongEnough 3 (some .boolean) 1 [mb_F 6 0 0, .inl x1, .inl x2] h res := by
  refine mb_entry (own := RX6) (lv := [(0, mb_F 6 0 0), (1, .inl x1), (2, .inl x2)]) (by decide +kernel) rfl (Nat.le_of_ble_eq_true rfl) rfl rfl (fun _ => ?_) hst hg
  unfold F_X6_isLongEnough at hr
  refine mb_aload_n (pn := 1) 0 dX6_isLongEnough_0 rfl rfl rfl ?_
  refine mb_iload_n (pn := 2) 1 dX6_isLongEnough_1 rfl rfl rfl ?_
  refine mb_iconst (v := 0) (pn := 3) dX6_isLongEnough_2 (by decide) rfl ?_
  refine cl_X6_50 (pn := 6) hst hg (Nat.le_of_ble_eq_true rfl) (Nat.le_of_ble_eq_true rfl) dX6_isLongEnough_3 rfl hr (fun y102 h101 hr => ?_)
  refine mb_aload_n (pn := 7) 0 dX6_isLongEnough_6 rfl rfl rfl ?_
  refine mb_iload_n (pn := 8) 2 dX6_isLongEnough_7 rfl rfl rfl ?_
  refine mb_iconst (v := 1) (pn := 9) dX6_isLongEnough_8 (by decide) rfl ?_
  refine cl_X6_54 (pn := 12) hst hg (Nat.le_of_ble_eq_true rfl) (Nat.le_of_ble_eq_true rfl) dX6_isLongEnough_9 rfl hr (fun y104 h103 hr => ?_)
  refine mb_ic_gt (tgt := 19) (pn := 15) dX6_isLongEnough_12 (by decide) rfl hr (fun hr => ?_) (fun hr => ?_)
  · refine mb_iconst (v := 0) (pn := 20) dX6_isLongEnough_19 (by decide) rfl ?_
    cases hr
    exact mb_zret0 dX6_isLongEnough_20
  · refine mb_iconst (v := 1) (pn := 16) dX6_isLongEnough_15 (by decide) rfl ?_
    refine mb_goto (tgt := 20) dX6_isLongEnough_16 (by decide) ?_
    cases hr
    exact mb_zret1 dX6_isLongEnough_20
set_option maxRecDepth 100000 in
set_option maxHeartbeats 4000000 in
theorem cl_X6_57 {l : Launch} {G : mb_G} {cc : ByteArray} {nL : Nat} {ret : Option FieldType} {d pc pn : Nat} {lv : List (Nat × mb_AV)} {st : List mb_AV} {h : mb_AH} {res : mb_RS} (hst : l.stackTraces = false) (hg : mb_gok G)  {K : Int32 → mb_AH → Option mb_RS} (hd2 : 0 + 1 ≤ d) (hs4 : st.length ≤ 4) (dg : decode cc pc = .ok (.invokevirtual 57, 3)) (hn : pc + 3 = pn) (hr : mb_cI (F_X6_lowest  h) K = some res) (kk : ∀ (x : Int32) (h2 : mb_AH), K x h2 = some res → mb_Ev l G RX6 cc nL ret d pn lv (.inl x :: st) h2 res) : mb_Ev l G RX6 cc nL ret d pc lv (mb_F 6 0 0 :: st) h res := mb_kVI (as := []) (n := 0) (d2 := 0) (ci := 6) (fun _ hf => C_X6_lowest hst hg hf) (mb_gV wl_X6_57 mi_X6_lowest ms_X6_lowest mn_X6 mc_X6_lowest) (by decide +kernel) rfl rfl rfl hd2 (by decide) hs4 rfl dg hn hr kk
def F_X6_missing (x1 : Int32) (x2 : Int32) (h : mb_AH) : Option mb_RS := (mb_cI (F_X6_ofBoat x1 (1 : Int32) h) fun y102 h101 => (mb_gB 0 270 (mb_cI (F_X6_ofBerth x2 (0 : Int32) h101) fun y104 h103 => (mb_cI (F_X6_lowest h103) fun y106 h105 => (mb_lI (((y102 + (h101.1 20 0 0 (0 : Int32).toNatClampNeg)) - y104) - y106) fun y107 => (if y107 ≤ 0 then (some (.inl (some (.inl 0)), h105)) else (some (.inl (some (.inl y107)), h105))))))))
set_option maxRecDepth 100000 in
set_option maxHeartbeats 4000000 in
theorem C_X6_missing {l : Launch} {G : mb_G} (hst : l.stackTraces = false) (hg : mb_gok G) {x1 : Int32} {x2 : Int32} {h : mb_AH} {res : mb_RS} (hr : F_X6_missing x1 x2 h = some res) : mb_Mt l G yX6_missing cX6_missing 4 (some .int) 1 [mb_F 6 0 0, .inl x1, .inl x2] h res := by
  refine mb_entry (own := RX6) (lv := [(0, mb_F 6 0 0), (1, .inl x1), (2, .inl x2)]) (by decide +kernel) rfl (Nat.le_of_ble_eq_true rfl) rfl rfl (fun _ => ?_) hst hg
  unfold F_X6_missing at hr
  refine mb_aload_n (pn := 1) 0 dX6_missing_0 rfl rfl rfl ?_
  refine mb_iload_n (pn := 2) 1 dX6_missing_1 rfl rfl rfl ?_
  refine mb_iconst (v := 1) (pn := 3) dX6_missing_2 (by decide) rfl ?_
  refine cl_X6_50 (pn := 6) hst hg (Nat.le_of_ble_eq_true rfl) (Nat.le_of_ble_eq_true rfl) dX6_missing_3 rfl hr (fun y102 h101 hr => ?_)
  refine mb_aload_n (pn := 7) 0 dX6_missing_6 rfl rfl rfl ?_
  refine gf_X6_7 (pn := 10) dX6_missing_7 rfl ?_
  refine mb_iconst (v := 0) (pn := 11) dX6_missing_10 (by decide) rfl ?_
  refine mb_iald (pn := 12) (n := 270) rfl dX6_missing_11 rfl hr (fun hr => ?_)
  refine mb_iadd (pn := 13) dX6_missing_12 rfl ?_
  refine mb_aload_n (pn := 14) 0 dX6_missing_13 rfl rfl rfl ?_
  refine mb_iload_n (pn := 15) 2 dX6_missing_14 rfl rfl rfl ?_
  refine mb_iconst (v := 0) (pn := 16) dX6_missing_15 (by decide) rfl ?_
  refine cl_X6_54 (pn := 19) hst hg (Nat.le_of_ble_eq_true rfl) (Nat.le_of_ble_eq_true rfl) dX6_missing_16 rfl hr (fun y104 h103 hr => ?_)
  refine mb_isub (pn := 20) dX6_missing_19 rfl ?_
  refine mb_aload_n (pn := 21) 0 dX6_missing_20 rfl rfl rfl ?_
  refine cl_X6_57 (pn := 24) hst hg (Nat.le_of_ble_eq_true rfl) (Nat.le_of_ble_eq_true rfl) dX6_missing_21 rfl hr (fun y106 h105 hr => ?_)
  refine mb_isub (pn := 25) dX6_missing_24 rfl ?_
  refine mb_nmI hr (fun y107 hr => ?_)
  refine mb_istore_n (pn := 26) (lv2 := [(3, .inl y107), (0, mb_F 6 0 0), (1, .inl x1), (2, .inl x2)]) dX6_missing_25 rfl (by decide) rfl rfl ?_
  refine mb_iload_n (pn := 27) 0 dX6_missing_26 rfl rfl rfl ?_
  refine mb_if_le (tgt := 34) (pn := 30) dX6_missing_27 (by decide) rfl hr (fun hr => ?_) (fun hr => ?_)
  · refine mb_iconst (v := 0) (pn := 35) dX6_missing_34 (by decide) rfl ?_
    cases hr
    exact mb_iret dX6_missing_35
  · refine mb_iload_n (pn := 31) 0 dX6_missing_30 rfl rfl rfl ?_
    refine mb_goto (tgt := 35) dX6_missing_31 (by decide) ?_
    cases hr
    exact mb_iret dX6_missing_35
set_option maxRecDepth 100000 in
set_option maxHeartbeats 4000000 in
theorem cl_X6_61 {l : Launch} {G : mb_G} {cc : ByteArray} {nL : Nat} {ret : Option FieldType} {d pc pn : Nat} {lv : List (Nat × mb_AV)} {st : List mb_AV} {h : mb_AH} {res : mb_RS} (hst : l.stackTraces = false) (hg : mb_gok G) {x1 : Int32} {x2 : Int32} {K : Int32 → mb_AH → Option mb_RS} (hd2 : 1 + 1 ≤ d) (hs4 : st.length ≤ 4) (dg : decode cc pc = .ok (.invokevirtual 61, 3)) (hn : pc + 3 = pn) (hr : mb_cI (F_X6_isLongEnough x1 x2 h) K = some res) (kk : ∀ (x : Int32) (h2 : mb_AH), K x h2 = some res → mb_Ev l G RX6 cc nL ret d pn lv (.inl x :: st) h2 res) : mb_Ev l G RX6 cc nL ret d pc lv (.inl x2 :: .inl x1 :: mb_F 6 0 0 :: st) h res := mb_kVI (as := [.inl x1, .inl x2]) (n := 2) (d2 := 1) (ci := 6) (fun _ hf => C_X6_isLongEnough hst hg hf) (mb_gV wl_X6_61 mi_X6_isLongEnough ms_X6_isLongEnough mn_X6 mc_X6_isLongEnough) (by decide +kernel) rfl rfl rfl hd2 (by decide) hs4 rfl dg hn hr kk
set_option maxRecDepth 100000 in
set_option maxHeartbeats 4000000 in
theorem cl_X6_65 {l : Launch} {G : mb_G} {cc : ByteArray} {nL : Nat} {ret : Option FieldType} {d pc pn : Nat} {lv : List (Nat × mb_AV)} {st : List mb_AV} {h : mb_AH} {res : mb_RS} (hst : l.stackTraces = false) (hg : mb_gok G) {x1 : Int32} {x2 : Int32} {K : Int32 → mb_AH → Option mb_RS} (hd2 : 1 + 1 ≤ d) (hs4 : st.length ≤ 4) (dg : decode cc pc = .ok (.invokevirtual 65, 3)) (hn : pc + 3 = pn) (hr : mb_cI (F_X6_missing x1 x2 h) K = some res) (kk : ∀ (x : Int32) (h2 : mb_AH), K x h2 = some res → mb_Ev l G RX6 cc nL ret d pn lv (.inl x :: st) h2 res) : mb_Ev l G RX6 cc nL ret d pc lv (.inl x2 :: .inl x1 :: mb_F 6 0 0 :: st) h res := mb_kVI (as := [.inl x1, .inl x2]) (n := 2) (d2 := 1) (ci := 6) (fun _ hf => C_X6_missing hst hg hf) (mb_gV wl_X6_65 mi_X6_missing ms_X6_missing mn_X6 mc_X6_missing) (by decide +kernel) rfl rfl rfl hd2 (by decide) hs4 rfl dg hn hr kk
def F_X6_isFit (x1 : Int32) (x2 : Int32) (h : mb_AH) : Option mb_RS := (mb_cI (F_X6_isLongEnough x1 x2 h) fun y102 h101 => (if y102 = 0 then (some (.inl (some (.inl 0)), h101)) else (mb_cI (F_X6_missing x1 x2 h101) fun y104 h103 => (if y104 = 0 then (some (.inl (some (.inl 1)), h103)) else (some (.inl (some (.inl 0)), h103))))))
set_option maxRecDepth 100000 in
set_option maxHeartbeats 4000000 in
theorem C_X6_isFit {l : Launch} {G : mb_G} (hst : l.stackTraces = false) (hg : mb_gok G) {x1 : Int32} {x2 : Int32} {h : mb_AH} {res : mb_RS} (hr : F_X6_isFit x1 x2 h = some res) : mb_Mt l G yX6_isFit cX6_isFit 3 (some .boolean) 2 [mb_F 6 0 0, .inl x1, .inl x2] h res := by
  refine mb_entry (own := RX6) (lv := [(0, mb_F 6 0 0), (1, .inl x1), (2, .inl x2)]) (by decide +kernel) rfl (Nat.le_of_ble_eq_true rfl) rfl rfl (fun _ => ?_) hst hg
  unfold F_X6_isFit at hr
  refine mb_aload_n (pn := 1) 0 dX6_isFit_0 rfl rfl rfl ?_
  refine mb_iload_n (pn := 2) 1 dX6_isFit_1 rfl rfl rfl ?_
  refine mb_iload_n (pn := 3) 2 dX6_isFit_2 rfl rfl rfl ?_
  refine cl_X6_61 (pn := 6) hst hg (Nat.le_of_ble_eq_true rfl) (Nat.le_of_ble_eq_true rfl) dX6_isFit_3 rfl hr (fun y102 h101 hr => ?_)
  refine mb_if_eq (tgt := 22) (pn := 9) dX6_isFit_6 (by decide) rfl hr (fun hr => ?_) (fun hr => ?_)
  · refine mb_iconst (v := 0) (pn := 23) dX6_isFit_22 (by decide) rfl ?_
    cases hr
    exact mb_zret0 dX6_isFit_23
  · refine mb_aload_n (pn := 10) 0 dX6_isFit_9 rfl rfl rfl ?_
    refine mb_iload_n (pn := 11) 1 dX6_isFit_10 rfl rfl rfl ?_
    refine mb_iload_n (pn := 12) 2 dX6_isFit_11 rfl rfl rfl ?_
    refine cl_X6_65 (pn := 15) hst hg (Nat.le_of_ble_eq_true rfl) (Nat.le_of_ble_eq_true rfl) dX6_isFit_12 rfl hr (fun y104 h103 hr => ?_)
    refine mb_if_ne (tgt := 22) (pn := 18) dX6_isFit_15 (by decide) rfl hr (fun hr => ?_) (fun hr => ?_)
    · refine mb_iconst (v := 0) (pn := 23) dX6_isFit_22 (by decide) rfl ?_
      cases hr
      exact mb_zret0 dX6_isFit_23
    · refine mb_iconst (v := 1) (pn := 19) dX6_isFit_18 (by decide) rfl ?_
      refine mb_goto (tgt := 23) dX6_isFit_19 (by decide) ?_
      cases hr
      exact mb_zret1 dX6_isFit_23
def B_X6_boatIn_2  : Nat → Int32 → Int32 → mb_AH → Option mb_RS
  | 0, _, _, _ => none
  | n + 1, v1, v2, h => (mb_gB 7 270 (if (h.1 20 0 0 (7 : Int32).toNatClampNeg) ≤ v2 then (some (.inl (some (.inl (-1))), h)) else (mb_cI (F_X6_ofBoat v2 (3 : Int32) h) fun y102 h101 => (if y102 = 1 then (mb_cI (F_X6_ofBoat v2 (4 : Int32) h101) fun y105 h104 => (if y105 = v1 then (some (.inl (some (.inl v2)), h104)) else (mb_lI (v2 + 1) fun y106 => ((B_X6_boatIn_2  n) v1 y106 h104)))) else (mb_lI (v2 + 1) fun y103 => ((B_X6_boatIn_2  n) v1 y103 h101))))))
set_option maxRecDepth 100000 in
set_option maxHeartbeats 4000000 in
theorem T_X6_boatIn_2 {l : Launch} {G : mb_G} {res : mb_RS} (hst : l.stackTraces = false) (hg : mb_gok G)   : ∀ (n : Nat) (v1 : Int32) (v2 : Int32) (h : mb_AH), B_X6_boatIn_2  n v1 v2 h = some res → mb_Ev l G RX6 cX6_boatIn 3 (some .int) 1 2 [(0, mb_F 6 0 0), (1, .inl v1), (2, .inl v2)] [] h res := by
  intro n
  induction n with
  | zero => intro v1 v2 h hr; cases hr
  | succ n ih =>
    intro v1 v2 h hr
    rw [B_X6_boatIn_2] at hr
    refine mb_iload_n (pn := 3) 2 dX6_boatIn_2 rfl rfl rfl ?_
    refine mb_aload_n (pn := 4) 0 dX6_boatIn_3 rfl rfl rfl ?_
    refine gf_X6_7 (pn := 7) dX6_boatIn_4 rfl ?_
    refine mb_bipush (v := 7) (pn := 9) dX6_boatIn_7 (by decide) rfl ?_
    refine mb_iald (pn := 10) (n := 270) rfl dX6_boatIn_9 rfl hr (fun hr => ?_)
    refine mb_ic_ge (tgt := 41) (pn := 13) dX6_boatIn_10 (by decide) rfl hr (fun hr => ?_) (fun hr => ?_)
    · refine mb_iconst (v := (-1)) (pn := 42) dX6_boatIn_41 (by decide) rfl ?_
      cases hr
      exact mb_iret dX6_boatIn_42
    · refine mb_aload_n (pn := 14) 0 dX6_boatIn_13 rfl rfl rfl ?_
      refine mb_iload_n (pn := 15) 2 dX6_boatIn_14 rfl rfl rfl ?_
      refine mb_iconst (v := 3) (pn := 16) dX6_boatIn_15 (by decide) rfl ?_
      refine cl_X6_50 (pn := 19) hst hg (Nat.le_of_ble_eq_true rfl) (Nat.le_of_ble_eq_true rfl) dX6_boatIn_16 rfl hr (fun y102 h101 hr => ?_)
      refine mb_iconst (v := 1) (pn := 20) dX6_boatIn_19 (by decide) rfl ?_
      refine mb_ic_ne (tgt := 35) (pn := 23) dX6_boatIn_20 (by decide) rfl hr (fun hr => ?_) (fun hr => ?_)
      · refine mb_nmx hr (fun y103 qy103 hr => ?_)
        refine mb_iinc (v := y103) (pn := 38) (lv2 := [(2, .inl y103), (0, mb_F 6 0 0), (1, .inl v1)]) 2 dX6_boatIn_35 rfl (by rw [qy103]; rfl) (by decide) rfl rfl ?_
        refine mb_goto (tgt := 2) dX6_boatIn_38 (by decide) ?_
        exact mb_lvs [1, 2, 0] rfl (ih _ _ _ hr)
      · refine mb_aload_n (pn := 24) 0 dX6_boatIn_23 rfl rfl rfl ?_
        refine mb_iload_n (pn := 25) 2 dX6_boatIn_24 rfl rfl rfl ?_
        refine mb_iconst (v := 4) (pn := 26) dX6_boatIn_25 (by decide) rfl ?_
        refine cl_X6_50 (pn := 29) hst hg (Nat.le_of_ble_eq_true rfl) (Nat.le_of_ble_eq_true rfl) dX6_boatIn_26 rfl hr (fun y105 h104 hr => ?_)
        refine mb_iload_n (pn := 30) 1 dX6_boatIn_29 rfl rfl rfl ?_
        refine mb_ic_ne (tgt := 35) (pn := 33) dX6_boatIn_30 (by decide) rfl hr (fun hr => ?_) (fun hr => ?_)
        · refine mb_nmx hr (fun y106 qy106 hr => ?_)
          refine mb_iinc (v := y106) (pn := 38) (lv2 := [(2, .inl y106), (0, mb_F 6 0 0), (1, .inl v1)]) 2 dX6_boatIn_35 rfl (by rw [qy106]; rfl) (by decide) rfl rfl ?_
          refine mb_goto (tgt := 2) dX6_boatIn_38 (by decide) ?_
          exact mb_lvs [1, 2, 0] rfl (ih _ _ _ hr)
        · refine mb_iload_n (pn := 34) 2 dX6_boatIn_33 rfl rfl rfl ?_
          cases hr
          exact mb_iret dX6_boatIn_34
def F_X6_boatIn (x1 : Int32) (h : mb_AH) : Option mb_RS := (B_X6_boatIn_2  mb_fu x1 0 h)
set_option maxRecDepth 100000 in
set_option maxHeartbeats 4000000 in
theorem C_X6_boatIn {l : Launch} {G : mb_G} (hst : l.stackTraces = false) (hg : mb_gok G) {x1 : Int32} {h : mb_AH} {res : mb_RS} (hr : F_X6_boatIn x1 h = some res) : mb_Mt l G yX6_boatIn cX6_boatIn 3 (some .int) 1 [mb_F 6 0 0, .inl x1] h res := by
  refine mb_entry (own := RX6) (lv := [(0, mb_F 6 0 0), (1, .inl x1)]) (by decide +kernel) rfl (Nat.le_of_ble_eq_true rfl) rfl rfl (fun _ => ?_) hst hg
  unfold F_X6_boatIn at hr
  refine mb_iconst (v := 0) (pn := 1) dX6_boatIn_0 (by decide) rfl ?_
  refine mb_istore_n (pn := 2) (lv2 := [(2, .inl 0), (0, mb_F 6 0 0), (1, .inl x1)]) dX6_boatIn_1 rfl (by decide) rfl rfl ?_
  exact mb_lvs [1, 2, 0] rfl (T_X6_boatIn_2 hst hg  mb_fu _ _ _ hr)
set_option maxRecDepth 100000 in
set_option maxHeartbeats 4000000 in
theorem cl_X6_68 {l : Launch} {G : mb_G} {cc : ByteArray} {nL : Nat} {ret : Option FieldType} {d pc pn : Nat} {lv : List (Nat × mb_AV)} {st : List mb_AV} {h : mb_AH} {res : mb_RS} (hst : l.stackTraces = false) (hg : mb_gok G) {x1 : Int32} {K : Int32 → mb_AH → Option mb_RS} (hd2 : 1 + 1 ≤ d) (hs4 : st.length ≤ 4) (dg : decode cc pc = .ok (.invokevirtual 68, 3)) (hn : pc + 3 = pn) (hr : mb_cI (F_X6_boatIn x1 h) K = some res) (kk : ∀ (x : Int32) (h2 : mb_AH), K x h2 = some res → mb_Ev l G RX6 cc nL ret d pn lv (.inl x :: st) h2 res) : mb_Ev l G RX6 cc nL ret d pc lv (.inl x1 :: mb_F 6 0 0 :: st) h res := mb_kVI (as := [.inl x1]) (n := 1) (d2 := 1) (ci := 6) (fun _ hf => C_X6_boatIn hst hg hf) (mb_gV wl_X6_68 mi_X6_boatIn ms_X6_boatIn mn_X6 mc_X6_boatIn) (by decide +kernel) rfl rfl rfl hd2 (by decide) hs4 rfl dg hn hr kk
def F_X6_isOpen (x1 : Int32) (h : mb_AH) : Option mb_RS := (mb_cI (F_X6_boatIn x1 h) fun y102 h101 => (if y102 = (-1) then (mb_cI (F_X6_ofBerth x1 (2 : Int32) h101) fun y104 h103 => (if y104 = 1 then (mb_gB 5 270 (if (h103.1 20 0 0 (5 : Int32).toNatClampNeg) = 1 then (some (.inl (some (.inl 0)), h103)) else (some (.inl (some (.inl 1)), h103)))) else (some (.inl (some (.inl 1)), h103)))) else (some (.inl (some (.inl 0)), h101))))
set_option maxRecDepth 100000 in
set_option maxHeartbeats 4000000 in
theorem C_X6_isOpen {l : Launch} {G : mb_G} (hst : l.stackTraces = false) (hg : mb_gok G) {x1 : Int32} {h : mb_AH} {res : mb_RS} (hr : F_X6_isOpen x1 h = some res) : mb_Mt l G yX6_isOpen cX6_isOpen 2 (some .boolean) 2 [mb_F 6 0 0, .inl x1] h res := by
  refine mb_entry (own := RX6) (lv := [(0, mb_F 6 0 0), (1, .inl x1)]) (by decide +kernel) rfl (Nat.le_of_ble_eq_true rfl) rfl rfl (fun _ => ?_) hst hg
  unfold F_X6_isOpen at hr
  refine mb_aload_n (pn := 1) 0 dX6_isOpen_0 rfl rfl rfl ?_
  refine mb_iload_n (pn := 2) 1 dX6_isOpen_1 rfl rfl rfl ?_
  refine cl_X6_68 (pn := 5) hst hg (Nat.le_of_ble_eq_true rfl) (Nat.le_of_ble_eq_true rfl) dX6_isOpen_2 rfl hr (fun y102 h101 hr => ?_)
  refine mb_iconst (v := (-1)) (pn := 6) dX6_isOpen_5 (by decide) rfl ?_
  refine mb_ic_ne (tgt := 33) (pn := 9) dX6_isOpen_6 (by decide) rfl hr (fun hr => ?_) (fun hr => ?_)
  · refine mb_iconst (v := 0) (pn := 34) dX6_isOpen_33 (by decide) rfl ?_
    cases hr
    exact mb_zret0 dX6_isOpen_34
  · refine mb_aload_n (pn := 10) 0 dX6_isOpen_9 rfl rfl rfl ?_
    refine mb_iload_n (pn := 11) 1 dX6_isOpen_10 rfl rfl rfl ?_
    refine mb_iconst (v := 2) (pn := 12) dX6_isOpen_11 (by decide) rfl ?_
    refine cl_X6_54 (pn := 15) hst hg (Nat.le_of_ble_eq_true rfl) (Nat.le_of_ble_eq_true rfl) dX6_isOpen_12 rfl hr (fun y104 h103 hr => ?_)
    refine mb_iconst (v := 1) (pn := 16) dX6_isOpen_15 (by decide) rfl ?_
    refine mb_ic_ne (tgt := 29) (pn := 19) dX6_isOpen_16 (by decide) rfl hr (fun hr => ?_) (fun hr => ?_)
    · refine mb_iconst (v := 1) (pn := 30) dX6_isOpen_29 (by decide) rfl ?_
      refine mb_goto (tgt := 34) dX6_isOpen_30 (by decide) ?_
      cases hr
      exact mb_zret1 dX6_isOpen_34
    · refine mb_aload_n (pn := 20) 0 dX6_isOpen_19 rfl rfl rfl ?_
      refine gf_X6_7 (pn := 23) dX6_isOpen_20 rfl ?_
      refine mb_iconst (v := 5) (pn := 24) dX6_isOpen_23 (by decide) rfl ?_
      refine mb_iald (pn := 25) (n := 270) rfl dX6_isOpen_24 rfl hr (fun hr => ?_)
      refine mb_iconst (v := 1) (pn := 26) dX6_isOpen_25 (by decide) rfl ?_
      refine mb_ic_eq (tgt := 33) (pn := 29) dX6_isOpen_26 (by decide) rfl hr (fun hr => ?_) (fun hr => ?_)
      · refine mb_iconst (v := 0) (pn := 34) dX6_isOpen_33 (by decide) rfl ?_
        cases hr
        exact mb_zret0 dX6_isOpen_34
      · refine mb_iconst (v := 1) (pn := 30) dX6_isOpen_29 (by decide) rfl ?_
        refine mb_goto (tgt := 34) dX6_isOpen_30 (by decide) ?_
        cases hr
        exact mb_zret1 dX6_isOpen_34
set_option maxRecDepth 100000 in
set_option maxHeartbeats 4000000 in
theorem cl_X6_72 {l : Launch} {G : mb_G} {cc : ByteArray} {nL : Nat} {ret : Option FieldType} {d pc pn : Nat} {lv : List (Nat × mb_AV)} {st : List mb_AV} {h : mb_AH} {res : mb_RS} (hst : l.stackTraces = false) (hg : mb_gok G) {x1 : Int32} {K : Int32 → mb_AH → Option mb_RS} (hd2 : 0 + 1 ≤ d) (hs4 : st.length ≤ 4) (dg : decode cc pc = .ok (.invokevirtual 72, 3)) (hn : pc + 3 = pn) (hr : mb_cI (F_X6_lowOn x1 h) K = some res) (kk : ∀ (x : Int32) (h2 : mb_AH), K x h2 = some res → mb_Ev l G RX6 cc nL ret d pn lv (.inl x :: st) h2 res) : mb_Ev l G RX6 cc nL ret d pc lv (.inl x1 :: mb_F 6 0 0 :: st) h res := mb_kVI (as := [.inl x1]) (n := 1) (d2 := 0) (ci := 6) (fun _ hf => C_X6_lowOn hst hg hf) (mb_gV wl_X6_72 mi_X6_lowOn ms_X6_lowOn mn_X6 mc_X6_lowOn) (by decide +kernel) rfl rfl rfl hd2 (by decide) hs4 rfl dg hn hr kk
def F_X6_isAground (x1 : Int32) (x2 : Int32) (h : mb_AH) : Option mb_RS := (mb_cI (F_X6_ofBoat x1 (3 : Int32) h) fun y102 h101 => (if y102 = 1 then (mb_cI (F_X6_ofBoat x1 (1 : Int32) h101) fun y104 h103 => (mb_cI (F_X6_ofBoat x1 (4 : Int32) h103) fun y106 h105 => (mb_cI (F_X6_ofBerth y106 (0 : Int32) h105) fun y108 h107 => (mb_cI (F_X6_lowOn x2 h107) fun y110 h109 => (if y104 ≤ (y108 + y110) then (some (.inl (some (.inl 0)), h109)) else (some (.inl (some (.inl 1)), h109))))))) else (some (.inl (some (.inl 0)), h101))))
set_option maxRecDepth 100000 in
set_option maxHeartbeats 4000000 in
theorem C_X6_isAground {l : Launch} {G : mb_G} (hst : l.stackTraces = false) (hg : mb_gok G) {x1 : Int32} {x2 : Int32} {h : mb_AH} {res : mb_RS} (hr : F_X6_isAground x1 x2 h = some res) : mb_Mt l G yX6_isAground cX6_isAground 3 (some .boolean) 1 [mb_F 6 0 0, .inl x1, .inl x2] h res := by
  refine mb_entry (own := RX6) (lv := [(0, mb_F 6 0 0), (1, .inl x1), (2, .inl x2)]) (by decide +kernel) rfl (Nat.le_of_ble_eq_true rfl) rfl rfl (fun _ => ?_) hst hg
  unfold F_X6_isAground at hr
  refine mb_aload_n (pn := 1) 0 dX6_isAground_0 rfl rfl rfl ?_
  refine mb_iload_n (pn := 2) 1 dX6_isAground_1 rfl rfl rfl ?_
  refine mb_iconst (v := 3) (pn := 3) dX6_isAground_2 (by decide) rfl ?_
  refine cl_X6_50 (pn := 6) hst hg (Nat.le_of_ble_eq_true rfl) (Nat.le_of_ble_eq_true rfl) dX6_isAground_3 rfl hr (fun y102 h101 hr => ?_)
  refine mb_iconst (v := 1) (pn := 7) dX6_isAground_6 (by decide) rfl ?_
  refine mb_ic_ne (tgt := 40) (pn := 10) dX6_isAground_7 (by decide) rfl hr (fun hr => ?_) (fun hr => ?_)
  · refine mb_iconst (v := 0) (pn := 41) dX6_isAground_40 (by decide) rfl ?_
    cases hr
    exact mb_zret0 dX6_isAground_41
  · refine mb_aload_n (pn := 11) 0 dX6_isAground_10 rfl rfl rfl ?_
    refine mb_iload_n (pn := 12) 1 dX6_isAground_11 rfl rfl rfl ?_
    refine mb_iconst (v := 1) (pn := 13) dX6_isAground_12 (by decide) rfl ?_
    refine cl_X6_50 (pn := 16) hst hg (Nat.le_of_ble_eq_true rfl) (Nat.le_of_ble_eq_true rfl) dX6_isAground_13 rfl hr (fun y104 h103 hr => ?_)
    refine mb_aload_n (pn := 17) 0 dX6_isAground_16 rfl rfl rfl ?_
    refine mb_aload_n (pn := 18) 0 dX6_isAground_17 rfl rfl rfl ?_
    refine mb_iload_n (pn := 19) 1 dX6_isAground_18 rfl rfl rfl ?_
    refine mb_iconst (v := 4) (pn := 20) dX6_isAground_19 (by decide) rfl ?_
    refine cl_X6_50 (pn := 23) hst hg (Nat.le_of_ble_eq_true rfl) (Nat.le_of_ble_eq_true rfl) dX6_isAground_20 rfl hr (fun y106 h105 hr => ?_)
    refine mb_iconst (v := 0) (pn := 24) dX6_isAground_23 (by decide) rfl ?_
    refine cl_X6_54 (pn := 27) hst hg (Nat.le_of_ble_eq_true rfl) (Nat.le_of_ble_eq_true rfl) dX6_isAground_24 rfl hr (fun y108 h107 hr => ?_)
    refine mb_aload_n (pn := 28) 0 dX6_isAground_27 rfl rfl rfl ?_
    refine mb_iload_n (pn := 29) 2 dX6_isAground_28 rfl rfl rfl ?_
    refine cl_X6_72 (pn := 32) hst hg (Nat.le_of_ble_eq_true rfl) (Nat.le_of_ble_eq_true rfl) dX6_isAground_29 rfl hr (fun y110 h109 hr => ?_)
    refine mb_iadd (pn := 33) dX6_isAground_32 rfl ?_
    refine mb_ic_le (tgt := 40) (pn := 36) dX6_isAground_33 (by decide) rfl hr (fun hr => ?_) (fun hr => ?_)
    · refine mb_iconst (v := 0) (pn := 41) dX6_isAground_40 (by decide) rfl ?_
      cases hr
      exact mb_zret0 dX6_isAground_41
    · refine mb_iconst (v := 1) (pn := 37) dX6_isAground_36 (by decide) rfl ?_
      refine mb_goto (tgt := 41) dX6_isAground_37 (by decide) ?_
      cases hr
      exact mb_zret1 dX6_isAground_41
def B_X6_countIn_4  : Nat → Int32 → Int32 → Int32 → mb_AH → Option mb_RS
  | 0, _, _, _, _ => none
  | n + 1, v1, v2, v3, h => (mb_gB 7 270 (if (h.1 20 0 0 (7 : Int32).toNatClampNeg) ≤ v3 then (some (.inl (some (.inl v2)), h)) else (mb_cI (F_X6_ofBoat v3 (3 : Int32) h) fun y102 h101 => (if y102 = v1 then (mb_lI (v2 + 1) fun y105 => (mb_lI (v3 + 1) fun y106 => ((B_X6_countIn_4  n) v1 y105 y106 h101))) else (mb_lI (v2 + 0) fun y103 => (mb_lI (v3 + 1) fun y104 => ((B_X6_countIn_4  n) v1 y103 y104 h101)))))))
set_option maxRecDepth 100000 in
set_option maxHeartbeats 4000000 in
theorem T_X6_countIn_4 {l : Launch} {G : mb_G} {res : mb_RS} (hst : l.stackTraces = false) (hg : mb_gok G)   : ∀ (n : Nat) (v1 : Int32) (v2 : Int32) (v3 : Int32) (h : mb_AH), B_X6_countIn_4  n v1 v2 v3 h = some res → mb_Ev l G RX6 cX6_countIn 4 (some .int) 1 4 [(0, mb_F 6 0 0), (1, .inl v1), (2, .inl v2), (3, .inl v3)] [] h res := by
  intro n
  induction n with
  | zero => intro v1 v2 v3 h hr; cases hr
  | succ n ih =>
    intro v1 v2 v3 h hr
    rw [B_X6_countIn_4] at hr
    refine mb_iload_n (pn := 5) 3 dX6_countIn_4 rfl rfl rfl ?_
    refine mb_aload_n (pn := 6) 0 dX6_countIn_5 rfl rfl rfl ?_
    refine gf_X6_7 (pn := 9) dX6_countIn_6 rfl ?_
    refine mb_bipush (v := 7) (pn := 11) dX6_countIn_9 (by decide) rfl ?_
    refine mb_iald (pn := 12) (n := 270) rfl dX6_countIn_11 rfl hr (fun hr => ?_)
    refine mb_ic_ge (tgt := 39) (pn := 15) dX6_countIn_12 (by decide) rfl hr (fun hr => ?_) (fun hr => ?_)
    · refine mb_iload_n (pn := 40) 2 dX6_countIn_39 rfl rfl rfl ?_
      cases hr
      exact mb_iret dX6_countIn_40
    · refine mb_iload_n (pn := 16) 2 dX6_countIn_15 rfl rfl rfl ?_
      refine mb_aload_n (pn := 17) 0 dX6_countIn_16 rfl rfl rfl ?_
      refine mb_iload_n (pn := 18) 3 dX6_countIn_17 rfl rfl rfl ?_
      refine mb_iconst (v := 3) (pn := 19) dX6_countIn_18 (by decide) rfl ?_
      refine cl_X6_50 (pn := 22) hst hg (Nat.le_of_ble_eq_true rfl) (Nat.le_of_ble_eq_true rfl) dX6_countIn_19 rfl hr (fun y102 h101 hr => ?_)
      refine mb_iload_n (pn := 23) 1 dX6_countIn_22 rfl rfl rfl ?_
      refine mb_ic_ne (tgt := 30) (pn := 26) dX6_countIn_23 (by decide) rfl hr (fun hr => ?_) (fun hr => ?_)
      · refine mb_iconst (v := 0) (pn := 31) dX6_countIn_30 (by decide) rfl ?_
        refine mb_iadd (pn := 32) dX6_countIn_31 rfl ?_
        refine mb_nmI hr (fun y103 hr => ?_)
        refine mb_istore_n (pn := 33) (lv2 := [(2, .inl y103), (0, mb_F 6 0 0), (1, .inl v1), (3, .inl v3)]) dX6_countIn_32 rfl (by decide) rfl rfl ?_
        refine mb_nmx hr (fun y104 qy104 hr => ?_)
        refine mb_iinc (v := y104) (pn := 36) (lv2 := [(3, .inl y104), (2, .inl y103), (0, mb_F 6 0 0), (1, .inl v1)]) 3 dX6_countIn_33 rfl (by rw [qy104]; rfl) (by decide) rfl rfl ?_
        refine mb_goto (tgt := 4) dX6_countIn_36 (by decide) ?_
        exact mb_lvs [2, 3, 1, 0] rfl (ih _ _ _ _ hr)
      · refine mb_iconst (v := 1) (pn := 27) dX6_countIn_26 (by decide) rfl ?_
        refine mb_goto (tgt := 31) dX6_countIn_27 (by decide) ?_
        refine mb_iadd (pn := 32) dX6_countIn_31 rfl ?_
        refine mb_nmI hr (fun y105 hr => ?_)
        refine mb_istore_n (pn := 33) (lv2 := [(2, .inl y105), (0, mb_F 6 0 0), (1, .inl v1), (3, .inl v3)]) dX6_countIn_32 rfl (by decide) rfl rfl ?_
        refine mb_nmx hr (fun y106 qy106 hr => ?_)
        refine mb_iinc (v := y106) (pn := 36) (lv2 := [(3, .inl y106), (2, .inl y105), (0, mb_F 6 0 0), (1, .inl v1)]) 3 dX6_countIn_33 rfl (by rw [qy106]; rfl) (by decide) rfl rfl ?_
        refine mb_goto (tgt := 4) dX6_countIn_36 (by decide) ?_
        exact mb_lvs [2, 3, 1, 0] rfl (ih _ _ _ _ hr)
def F_X6_countIn (x1 : Int32) (h : mb_AH) : Option mb_RS := (B_X6_countIn_4  mb_fu x1 0 0 h)
set_option maxRecDepth 100000 in
set_option maxHeartbeats 4000000 in
theorem C_X6_countIn {l : Launch} {G : mb_G} (hst : l.stackTraces = false) (hg : mb_gok G) {x1 : Int32} {h : mb_AH} {res : mb_RS} (hr : F_X6_countIn x1 h = some res) : mb_Mt l G yX6_countIn cX6_countIn 4 (some .int) 1 [mb_F 6 0 0, .inl x1] h res := by
  refine mb_entry (own := RX6) (lv := [(0, mb_F 6 0 0), (1, .inl x1)]) (by decide +kernel) rfl (Nat.le_of_ble_eq_true rfl) rfl rfl (fun _ => ?_) hst hg
  unfold F_X6_countIn at hr
  refine mb_iconst (v := 0) (pn := 1) dX6_countIn_0 (by decide) rfl ?_
  refine mb_istore_n (pn := 2) (lv2 := [(2, .inl 0), (0, mb_F 6 0 0), (1, .inl x1)]) dX6_countIn_1 rfl (by decide) rfl rfl ?_
  refine mb_iconst (v := 0) (pn := 3) dX6_countIn_2 (by decide) rfl ?_
  refine mb_istore_n (pn := 4) (lv2 := [(3, .inl 0), (2, .inl 0), (0, mb_F 6 0 0), (1, .inl x1)]) dX6_countIn_3 rfl (by decide) rfl rfl ?_
  exact mb_lvs [2, 3, 1, 0] rfl (T_X6_countIn_4 hst hg  mb_fu _ _ _ _ hr)
set_option maxRecDepth 100000 in
set_option maxHeartbeats 4000000 in
theorem cl_X6_75 {l : Launch} {G : mb_G} {cc : ByteArray} {nL : Nat} {ret : Option FieldType} {d pc pn : Nat} {lv : List (Nat × mb_AV)} {st : List mb_AV} {h : mb_AH} {res : mb_RS} (hst : l.stackTraces = false) (hg : mb_gok G) {x1 : Int32} {x2 : Int32} {x3 : Int32} {K : mb_AH → Option mb_RS} (hd2 : 0 + 1 ≤ d) (hs4 : st.length ≤ 4) (dg : decode cc pc = .ok (.invokevirtual 75, 3)) (hn : pc + 3 = pn) (hr : mb_cV (F_X6_sets x1 x2 x3 h) K = some res) (kk : ∀ (h2 : mb_AH), K h2 = some res → mb_Ev l G RX6 cc nL ret d pn lv st h2 res) : mb_Ev l G RX6 cc nL ret d pc lv (.inl x3 :: .inl x2 :: .inl x1 :: mb_F 6 0 0 :: st) h res := mb_kVV (as := [.inl x1, .inl x2, .inl x3]) (n := 3) (d2 := 0) (ci := 6) (fun _ hf => C_X6_sets hst hg hf) (mb_gV wl_X6_75 mi_X6_sets ms_X6_sets mn_X6 mc_X6_sets) (by decide +kernel) rfl rfl rfl hd2 (by decide) hs4 rfl dg hn hr kk
def F_X6_puts (x1 : Int32) (x2 : Int32) (x3 : Int32) (h : mb_AH) : Option mb_RS := (mb_cV (F_X6_sets x1 (3 : Int32) x2 h) fun h101 => (mb_cV (F_X6_sets x1 (4 : Int32) x3 h101) fun h102 => (mb_cV (F_X6_sets x1 (5 : Int32) (0 : Int32) h102) fun h103 => (some (.inl none, h103)))))
set_option maxRecDepth 100000 in
set_option maxHeartbeats 4000000 in
theorem C_X6_puts {l : Launch} {G : mb_G} (hst : l.stackTraces = false) (hg : mb_gok G) {x1 : Int32} {x2 : Int32} {x3 : Int32} {h : mb_AH} {res : mb_RS} (hr : F_X6_puts x1 x2 x3 h = some res) : mb_Mt l G yX6_puts cX6_puts 4 none 1 [mb_F 6 0 0, .inl x1, .inl x2, .inl x3] h res := by
  refine mb_entry (own := RX6) (lv := [(0, mb_F 6 0 0), (1, .inl x1), (2, .inl x2), (3, .inl x3)]) (by decide +kernel) rfl (Nat.le_of_ble_eq_true rfl) rfl rfl (fun _ => ?_) hst hg
  unfold F_X6_puts at hr
  refine mb_aload_n (pn := 1) 0 dX6_puts_0 rfl rfl rfl ?_
  refine mb_iload_n (pn := 2) 1 dX6_puts_1 rfl rfl rfl ?_
  refine mb_iconst (v := 3) (pn := 3) dX6_puts_2 (by decide) rfl ?_
  refine mb_iload_n (pn := 4) 2 dX6_puts_3 rfl rfl rfl ?_
  refine cl_X6_75 (pn := 7) hst hg (Nat.le_of_ble_eq_true rfl) (Nat.le_of_ble_eq_true rfl) dX6_puts_4 rfl hr (fun h101 hr => ?_)
  refine mb_aload_n (pn := 8) 0 dX6_puts_7 rfl rfl rfl ?_
  refine mb_iload_n (pn := 9) 1 dX6_puts_8 rfl rfl rfl ?_
  refine mb_iconst (v := 4) (pn := 10) dX6_puts_9 (by decide) rfl ?_
  refine mb_iload_n (pn := 11) 3 dX6_puts_10 rfl rfl rfl ?_
  refine cl_X6_75 (pn := 14) hst hg (Nat.le_of_ble_eq_true rfl) (Nat.le_of_ble_eq_true rfl) dX6_puts_11 rfl hr (fun h102 hr => ?_)
  refine mb_aload_n (pn := 15) 0 dX6_puts_14 rfl rfl rfl ?_
  refine mb_iload_n (pn := 16) 1 dX6_puts_15 rfl rfl rfl ?_
  refine mb_iconst (v := 5) (pn := 17) dX6_puts_16 (by decide) rfl ?_
  refine mb_iconst (v := 0) (pn := 18) dX6_puts_17 (by decide) rfl ?_
  refine cl_X6_75 (pn := 21) hst hg (Nat.le_of_ble_eq_true rfl) (Nat.le_of_ble_eq_true rfl) dX6_puts_18 rfl hr (fun h103 hr => ?_)
  cases hr
  exact mb_vret dX6_puts_21
set_option maxRecDepth 100000 in
set_option maxHeartbeats 4000000 in
theorem cl_X6_79 {l : Launch} {G : mb_G} {cc : ByteArray} {nL : Nat} {ret : Option FieldType} {d pc pn : Nat} {lv : List (Nat × mb_AV)} {st : List mb_AV} {h : mb_AH} {res : mb_RS} (hst : l.stackTraces = false) (hg : mb_gok G) {x1 : Int32} {x2 : Int32} {x3 : Int32} {K : mb_AH → Option mb_RS} (hd2 : 1 + 1 ≤ d) (hs4 : st.length ≤ 4) (dg : decode cc pc = .ok (.invokevirtual 79, 3)) (hn : pc + 3 = pn) (hr : mb_cV (F_X6_puts x1 x2 x3 h) K = some res) (kk : ∀ (h2 : mb_AH), K h2 = some res → mb_Ev l G RX6 cc nL ret d pn lv st h2 res) : mb_Ev l G RX6 cc nL ret d pc lv (.inl x3 :: .inl x2 :: .inl x1 :: mb_F 6 0 0 :: st) h res := mb_kVV (as := [.inl x1, .inl x2, .inl x3]) (n := 3) (d2 := 1) (ci := 6) (fun _ hf => C_X6_puts hst hg hf) (mb_gV wl_X6_79 mi_X6_puts ms_X6_puts mn_X6 mc_X6_puts) (by decide +kernel) rfl rfl rfl hd2 (by decide) hs4 rfl dg hn hr kk
def F_X6_waits (x1 : Int32) (h : mb_AH) : Option mb_RS := (mb_cV (F_X6_puts x1 (2 : Int32) ((-1) : Int32) h) fun h101 => (mb_gB 9 270 (mb_cV (F_X6_sets x1 (6 : Int32) (h101.1 20 0 0 (9 : Int32).toNatClampNeg) h101) fun h102 => (mb_gB 9 270 (mb_gB 9 270 (mb_up (mb_sI h102 20 0 0 (9 : Int32).toNatClampNeg ((h102.1 20 0 0 (9 : Int32).toNatClampNeg) + 1)) fun h103 => (some (.inl none, h103))))))))
set_option maxRecDepth 100000 in
set_option maxHeartbeats 4000000 in
theorem C_X6_waits {l : Launch} {G : mb_G} (hst : l.stackTraces = false) (hg : mb_gok G) {x1 : Int32} {h : mb_AH} {res : mb_RS} (hr : F_X6_waits x1 h = some res) : mb_Mt l G yX6_waits cX6_waits 2 none 2 [mb_F 6 0 0, .inl x1] h res := by
  refine mb_entry (own := RX6) (lv := [(0, mb_F 6 0 0), (1, .inl x1)]) (by decide +kernel) rfl (Nat.le_of_ble_eq_true rfl) rfl rfl (fun _ => ?_) hst hg
  unfold F_X6_waits at hr
  refine mb_aload_n (pn := 1) 0 dX6_waits_0 rfl rfl rfl ?_
  refine mb_iload_n (pn := 2) 1 dX6_waits_1 rfl rfl rfl ?_
  refine mb_iconst (v := 2) (pn := 3) dX6_waits_2 (by decide) rfl ?_
  refine mb_iconst (v := (-1)) (pn := 4) dX6_waits_3 (by decide) rfl ?_
  refine cl_X6_79 (pn := 7) hst hg (Nat.le_of_ble_eq_true rfl) (Nat.le_of_ble_eq_true rfl) dX6_waits_4 rfl hr (fun h101 hr => ?_)
  refine mb_aload_n (pn := 8) 0 dX6_waits_7 rfl rfl rfl ?_
  refine mb_iload_n (pn := 9) 1 dX6_waits_8 rfl rfl rfl ?_
  refine mb_bipush (v := 6) (pn := 11) dX6_waits_9 (by decide) rfl ?_
  refine mb_aload_n (pn := 12) 0 dX6_waits_11 rfl rfl rfl ?_
  refine gf_X6_7 (pn := 15) dX6_waits_12 rfl ?_
  refine mb_bipush (v := 9) (pn := 17) dX6_waits_15 (by decide) rfl ?_
  refine mb_iald (pn := 18) (n := 270) rfl dX6_waits_17 rfl hr (fun hr => ?_)
  refine cl_X6_75 (pn := 21) hst hg (Nat.le_of_ble_eq_true rfl) (Nat.le_of_ble_eq_true rfl) dX6_waits_18 rfl hr (fun h102 hr => ?_)
  refine mb_aload_n (pn := 22) 0 dX6_waits_21 rfl rfl rfl ?_
  refine gf_X6_7 (pn := 25) dX6_waits_22 rfl ?_
  refine mb_bipush (v := 9) (pn := 27) dX6_waits_25 (by decide) rfl ?_
  refine mb_dup2 (pn := 28) rfl rfl dX6_waits_27 rfl ?_
  refine mb_iald (pn := 29) (n := 270) rfl dX6_waits_28 rfl hr (fun hr => ?_)
  refine mb_iconst (v := 1) (pn := 30) dX6_waits_29 (by decide) rfl ?_
  refine mb_iadd (pn := 31) dX6_waits_30 rfl ?_
  refine mb_iast (pn := 32) (n := 270) rfl rfl dX6_waits_31 rfl hr (fun hr => ?_)
  refine mb_nmh hr (fun h103 hr => ?_)
  cases hr
  exact mb_vret dX6_waits_32
def F_X6_points (x1 : Int32) (h : mb_AH) : Option mb_RS := (mb_cI (F_X6_ofBoat x1 (5 : Int32) h) fun y102 h101 => (mb_cI (F_X6_ofBoat x1 (2 : Int32) h101) fun y104 h103 => (some (.inl (some (.inl (y102 + y104))), h103))))
set_option maxRecDepth 100000 in
set_option maxHeartbeats 4000000 in
theorem C_X6_points {l : Launch} {G : mb_G} (hst : l.stackTraces = false) (hg : mb_gok G) {x1 : Int32} {h : mb_AH} {res : mb_RS} (hr : F_X6_points x1 h = some res) : mb_Mt l G yX6_points cX6_points 2 (some .int) 1 [mb_F 6 0 0, .inl x1] h res := by
  refine mb_entry (own := RX6) (lv := [(0, mb_F 6 0 0), (1, .inl x1)]) (by decide +kernel) rfl (Nat.le_of_ble_eq_true rfl) rfl rfl (fun _ => ?_) hst hg
  unfold F_X6_points at hr
  refine mb_aload_n (pn := 1) 0 dX6_points_0 rfl rfl rfl ?_
  refine mb_iload_n (pn := 2) 1 dX6_points_1 rfl rfl rfl ?_
  refine mb_iconst (v := 5) (pn := 3) dX6_points_2 (by decide) rfl ?_
  refine cl_X6_50 (pn := 6) hst hg (Nat.le_of_ble_eq_true rfl) (Nat.le_of_ble_eq_true rfl) dX6_points_3 rfl hr (fun y102 h101 hr => ?_)
  refine mb_aload_n (pn := 7) 0 dX6_points_6 rfl rfl rfl ?_
  refine mb_iload_n (pn := 8) 1 dX6_points_7 rfl rfl rfl ?_
  refine mb_iconst (v := 2) (pn := 9) dX6_points_8 (by decide) rfl ?_
  refine cl_X6_50 (pn := 12) hst hg (Nat.le_of_ble_eq_true rfl) (Nat.le_of_ble_eq_true rfl) dX6_points_9 rfl hr (fun y104 h103 hr => ?_)
  refine mb_iadd (pn := 13) dX6_points_12 rfl ?_
  cases hr
  exact mb_iret dX6_points_13
set_option maxRecDepth 100000 in
set_option maxHeartbeats 4000000 in
theorem cl_X6_82 {l : Launch} {G : mb_G} {cc : ByteArray} {nL : Nat} {ret : Option FieldType} {d pc pn : Nat} {lv : List (Nat × mb_AV)} {st : List mb_AV} {h : mb_AH} {res : mb_RS} (hst : l.stackTraces = false) (hg : mb_gok G) {x1 : Int32} {K : Int32 → mb_AH → Option mb_RS} (hd2 : 1 + 1 ≤ d) (hs4 : st.length ≤ 4) (dg : decode cc pc = .ok (.invokevirtual 82, 3)) (hn : pc + 3 = pn) (hr : mb_cI (F_X6_points x1 h) K = some res) (kk : ∀ (x : Int32) (h2 : mb_AH), K x h2 = some res → mb_Ev l G RX6 cc nL ret d pn lv (.inl x :: st) h2 res) : mb_Ev l G RX6 cc nL ret d pc lv (.inl x1 :: mb_F 6 0 0 :: st) h res := mb_kVI (as := [.inl x1]) (n := 1) (d2 := 1) (ci := 6) (fun _ hf => C_X6_points hst hg hf) (mb_gV wl_X6_82 mi_X6_points ms_X6_points mn_X6 mc_X6_points) (by decide +kernel) rfl rfl rfl hd2 (by decide) hs4 rfl dg hn hr kk
def B_X6_ahead_86 (K4 : Int32 → Int32 → Int32 → mb_AH → Option mb_RS) (v1 : Int32) (v3 : Int32) (s0 : Int32) (h : mb_AH) : Option mb_RS := (mb_lI (s0 + 1) fun y109 => (mb_lI (v3 + 1) fun y110 => (K4 v1 y109 y110 h)))
set_option maxRecDepth 100000 in
set_option maxHeartbeats 4000000 in
theorem T_X6_ahead_86 {l : Launch} {G : mb_G} {res : mb_RS} (hst : l.stackTraces = false) (hg : mb_gok G) {K4 : Int32 → Int32 → Int32 → mb_AH → Option mb_RS} (hK4 : ∀ (v1z : Int32) (v2z : Int32) (v3z : Int32) (hz : mb_AH), K4 v1z v2z v3z hz = some res → mb_Ev l G RX6 cX6_ahead 5 (some .int) 2 4 [(0, mb_F 6 0 0), (1, .inl v1z), (2, .inl v2z), (3, .inl v3z)] [] hz res) {v1 : Int32} {v3 : Int32} {s0 : Int32} {h : mb_AH} (hr : B_X6_ahead_86 K4 v1 v3 s0 h = some res) : mb_Ev l G RX6 cX6_ahead 5 (some .int) 2 86 [(0, mb_F 6 0 0), (1, .inl v1), (3, .inl v3)] [.inl s0] h res := by
  unfold B_X6_ahead_86 at hr
  refine mb_iconst (v := 1) (pn := 87) dX6_ahead_86 (by decide) rfl ?_
  refine mb_goto (tgt := 91) dX6_ahead_87 (by decide) ?_
  refine mb_iadd (pn := 92) dX6_ahead_91 rfl ?_
  refine mb_nmI hr (fun y109 hr => ?_)
  refine mb_istore_n (pn := 93) (lv2 := [(2, .inl y109), (0, mb_F 6 0 0), (1, .inl v1), (3, .inl v3)]) dX6_ahead_92 rfl (by decide) rfl rfl ?_
  refine mb_nmx hr (fun y110 qy110 hr => ?_)
  refine mb_iinc (v := y110) (pn := 96) (lv2 := [(3, .inl y110), (2, .inl y109), (0, mb_F 6 0 0), (1, .inl v1)]) 3 dX6_ahead_93 rfl (by rw [qy110]; rfl) (by decide) rfl rfl ?_
  refine mb_goto (tgt := 4) dX6_ahead_96 (by decide) ?_
  exact mb_lvs [2, 3, 1, 0] rfl (hK4 _ _ _ _ hr)
def B_X6_ahead_35 (K4 : Int32 → Int32 → Int32 → mb_AH → Option mb_RS) (v1 : Int32) (v2 : Int32) (v3 : Int32) (s0 : Int32) (h : mb_AH) : Option mb_RS := (if s0 = 0 then (mb_lI (v2 + 0) fun y103 => (mb_lI (v3 + 1) fun y104 => (K4 v1 y103 y104 h))) else (mb_cI (F_X6_points v3 h) fun y106 h105 => (mb_cI (F_X6_points v1 h105) fun y108 h107 => (if y108 < y106 then (B_X6_ahead_86 K4 v1 v3 v2 h107) else (mb_cI (F_X6_points v3 h107) fun y112 h111 => (mb_cI (F_X6_points v1 h111) fun y114 h113 => (if y112 = y114 then (mb_cI (F_X6_ofBoat v3 (6 : Int32) h113) fun y118 h117 => (mb_cI (F_X6_ofBoat v1 (6 : Int32) h117) fun y120 h119 => (if y120 ≤ y118 then (mb_lI (v2 + 0) fun y121 => (mb_lI (v3 + 1) fun y122 => (K4 v1 y121 y122 h119))) else (B_X6_ahead_86 K4 v1 v3 v2 h119)))) else (mb_lI (v2 + 0) fun y115 => (mb_lI (v3 + 1) fun y116 => (K4 v1 y115 y116 h113))))))))))
set_option maxRecDepth 100000 in
set_option maxHeartbeats 4000000 in
theorem T_X6_ahead_35 {l : Launch} {G : mb_G} {res : mb_RS} (hst : l.stackTraces = false) (hg : mb_gok G) {K4 : Int32 → Int32 → Int32 → mb_AH → Option mb_RS} (hK4 : ∀ (v1z : Int32) (v2z : Int32) (v3z : Int32) (hz : mb_AH), K4 v1z v2z v3z hz = some res → mb_Ev l G RX6 cX6_ahead 5 (some .int) 2 4 [(0, mb_F 6 0 0), (1, .inl v1z), (2, .inl v2z), (3, .inl v3z)] [] hz res) {v1 : Int32} {v2 : Int32} {v3 : Int32} {s0 : Int32} {h : mb_AH} (hr : B_X6_ahead_35 K4 v1 v2 v3 s0 h = some res) : mb_Ev l G RX6 cX6_ahead 5 (some .int) 2 35 [(0, mb_F 6 0 0), (1, .inl v1), (2, .inl v2), (3, .inl v3)] [.inl s0] h res := by
  unfold B_X6_ahead_35 at hr
  refine mb_istore (pn := 37) (lv2 := [(4, .inl s0), (0, mb_F 6 0 0), (1, .inl v1), (2, .inl v2), (3, .inl v3)]) dX6_ahead_35 (by decide) rfl rfl ?_
  refine mb_iload_n (pn := 38) 3 dX6_ahead_37 rfl rfl rfl ?_
  refine mb_iload (pn := 40) 0 dX6_ahead_38 rfl rfl ?_
  refine mb_if_eq (tgt := 90) (pn := 43) dX6_ahead_40 (by decide) rfl hr (fun hr => ?_) (fun hr => ?_)
  · refine mb_iconst (v := 0) (pn := 91) dX6_ahead_90 (by decide) rfl ?_
    refine mb_iadd (pn := 92) dX6_ahead_91 rfl ?_
    refine mb_nmI hr (fun y103 hr => ?_)
    refine mb_istore_n (pn := 93) (lv2 := [(2, .inl y103), (4, .inl s0), (0, mb_F 6 0 0), (1, .inl v1), (3, .inl v3)]) dX6_ahead_92 rfl (by decide) rfl rfl ?_
    refine mb_nmx hr (fun y104 qy104 hr => ?_)
    refine mb_iinc (v := y104) (pn := 96) (lv2 := [(3, .inl y104), (2, .inl y103), (4, .inl s0), (0, mb_F 6 0 0), (1, .inl v1)]) 4 dX6_ahead_93 rfl (by rw [qy104]; rfl) (by decide) rfl rfl ?_
    refine mb_goto (tgt := 4) dX6_ahead_96 (by decide) ?_
    exact mb_lvs [3, 4, 1, 0] rfl (hK4 _ _ _ _ hr)
  · refine mb_aload_n (pn := 44) 1 dX6_ahead_43 rfl rfl rfl ?_
    refine mb_iload_n (pn := 45) 4 dX6_ahead_44 rfl rfl rfl ?_
    refine cl_X6_82 (pn := 48) hst hg (Nat.le_of_ble_eq_true rfl) (Nat.le_of_ble_eq_true rfl) dX6_ahead_45 rfl hr (fun y106 h105 hr => ?_)
    refine mb_aload_n (pn := 49) 1 dX6_ahead_48 rfl rfl rfl ?_
    refine mb_iload_n (pn := 50) 2 dX6_ahead_49 rfl rfl rfl ?_
    refine cl_X6_82 (pn := 53) hst hg (Nat.le_of_ble_eq_true rfl) (Nat.le_of_ble_eq_true rfl) dX6_ahead_50 rfl hr (fun y108 h107 hr => ?_)
    refine mb_ic_gt (tgt := 86) (pn := 56) dX6_ahead_53 (by decide) rfl hr (fun hr => ?_) (fun hr => ?_)
    · exact mb_lvs [1, 2, 4] rfl (T_X6_ahead_86 hst hg hK4 hr)
    · refine mb_aload_n (pn := 57) 1 dX6_ahead_56 rfl rfl rfl ?_
      refine mb_iload_n (pn := 58) 4 dX6_ahead_57 rfl rfl rfl ?_
      refine cl_X6_82 (pn := 61) hst hg (Nat.le_of_ble_eq_true rfl) (Nat.le_of_ble_eq_true rfl) dX6_ahead_58 rfl hr (fun y112 h111 hr => ?_)
      refine mb_aload_n (pn := 62) 1 dX6_ahead_61 rfl rfl rfl ?_
      refine mb_iload_n (pn := 63) 2 dX6_ahead_62 rfl rfl rfl ?_
      refine cl_X6_82 (pn := 66) hst hg (Nat.le_of_ble_eq_true rfl) (Nat.le_of_ble_eq_true rfl) dX6_ahead_63 rfl hr (fun y114 h113 hr => ?_)
      refine mb_ic_ne (tgt := 90) (pn := 69) dX6_ahead_66 (by decide) rfl hr (fun hr => ?_) (fun hr => ?_)
      · refine mb_iconst (v := 0) (pn := 91) dX6_ahead_90 (by decide) rfl ?_
        refine mb_iadd (pn := 92) dX6_ahead_91 rfl ?_
        refine mb_nmI hr (fun y115 hr => ?_)
        refine mb_istore_n (pn := 93) (lv2 := [(2, .inl y115), (4, .inl s0), (0, mb_F 6 0 0), (1, .inl v1), (3, .inl v3)]) dX6_ahead_92 rfl (by decide) rfl rfl ?_
        refine mb_nmx hr (fun y116 qy116 hr => ?_)
        refine mb_iinc (v := y116) (pn := 96) (lv2 := [(3, .inl y116), (2, .inl y115), (4, .inl s0), (0, mb_F 6 0 0), (1, .inl v1)]) 4 dX6_ahead_93 rfl (by rw [qy116]; rfl) (by decide) rfl rfl ?_
        refine mb_goto (tgt := 4) dX6_ahead_96 (by decide) ?_
        exact mb_lvs [3, 4, 1, 0] rfl (hK4 _ _ _ _ hr)
      · refine mb_aload_n (pn := 70) 1 dX6_ahead_69 rfl rfl rfl ?_
        refine mb_iload_n (pn := 71) 4 dX6_ahead_70 rfl rfl rfl ?_
        refine mb_bipush (v := 6) (pn := 73) dX6_ahead_71 (by decide) rfl ?_
        refine cl_X6_50 (pn := 76) hst hg (Nat.le_of_ble_eq_true rfl) (Nat.le_of_ble_eq_true rfl) dX6_ahead_73 rfl hr (fun y118 h117 hr => ?_)
        refine mb_aload_n (pn := 77) 1 dX6_ahead_76 rfl rfl rfl ?_
        refine mb_iload_n (pn := 78) 2 dX6_ahead_77 rfl rfl rfl ?_
        refine mb_bipush (v := 6) (pn := 80) dX6_ahead_78 (by decide) rfl ?_
        refine cl_X6_50 (pn := 83) hst hg (Nat.le_of_ble_eq_true rfl) (Nat.le_of_ble_eq_true rfl) dX6_ahead_80 rfl hr (fun y120 h119 hr => ?_)
        refine mb_ic_ge (tgt := 90) (pn := 86) dX6_ahead_83 (by decide) rfl hr (fun hr => ?_) (fun hr => ?_)
        · refine mb_iconst (v := 0) (pn := 91) dX6_ahead_90 (by decide) rfl ?_
          refine mb_iadd (pn := 92) dX6_ahead_91 rfl ?_
          refine mb_nmI hr (fun y121 hr => ?_)
          refine mb_istore_n (pn := 93) (lv2 := [(2, .inl y121), (4, .inl s0), (0, mb_F 6 0 0), (1, .inl v1), (3, .inl v3)]) dX6_ahead_92 rfl (by decide) rfl rfl ?_
          refine mb_nmx hr (fun y122 qy122 hr => ?_)
          refine mb_iinc (v := y122) (pn := 96) (lv2 := [(3, .inl y122), (2, .inl y121), (4, .inl s0), (0, mb_F 6 0 0), (1, .inl v1)]) 4 dX6_ahead_93 rfl (by rw [qy122]; rfl) (by decide) rfl rfl ?_
          refine mb_goto (tgt := 4) dX6_ahead_96 (by decide) ?_
          exact mb_lvs [3, 4, 1, 0] rfl (hK4 _ _ _ _ hr)
        · exact mb_lvs [1, 2, 4] rfl (T_X6_ahead_86 hst hg hK4 hr)
def B_X6_ahead_34 (K4 : Int32 → Int32 → Int32 → mb_AH → Option mb_RS) (v1 : Int32) (v2 : Int32) (v3 : Int32) (h : mb_AH) : Option mb_RS := (B_X6_ahead_35 K4 v1 v2 v3 0 h)
set_option maxRecDepth 100000 in
set_option maxHeartbeats 4000000 in
theorem T_X6_ahead_34 {l : Launch} {G : mb_G} {res : mb_RS} (hst : l.stackTraces = false) (hg : mb_gok G) {K4 : Int32 → Int32 → Int32 → mb_AH → Option mb_RS} (hK4 : ∀ (v1z : Int32) (v2z : Int32) (v3z : Int32) (hz : mb_AH), K4 v1z v2z v3z hz = some res → mb_Ev l G RX6 cX6_ahead 5 (some .int) 2 4 [(0, mb_F 6 0 0), (1, .inl v1z), (2, .inl v2z), (3, .inl v3z)] [] hz res) {v1 : Int32} {v2 : Int32} {v3 : Int32} {h : mb_AH} (hr : B_X6_ahead_34 K4 v1 v2 v3 h = some res) : mb_Ev l G RX6 cX6_ahead 5 (some .int) 2 34 [(0, mb_F 6 0 0), (1, .inl v1), (2, .inl v2), (3, .inl v3)] [] h res := by
  unfold B_X6_ahead_34 at hr
  refine mb_iconst (v := 0) (pn := 35) dX6_ahead_34 (by decide) rfl ?_
  exact mb_lvs [0, 1, 2, 3] rfl (T_X6_ahead_35 hst hg hK4 hr)
def B_X6_ahead_4  : Nat → Int32 → Int32 → Int32 → mb_AH → Option mb_RS
  | 0, _, _, _, _ => none
  | n + 1, v1, v2, v3, h => (mb_gB 7 270 (if (h.1 20 0 0 (7 : Int32).toNatClampNeg) ≤ v3 then (some (.inl (some (.inl v2)), h)) else (mb_cI (F_X6_ofBoat v3 (3 : Int32) h) fun y102 h101 => (if y102 = 2 then (if v3 = v1 then (B_X6_ahead_34 (B_X6_ahead_4  n) v1 v2 v3 h101) else (B_X6_ahead_35 (B_X6_ahead_4  n) v1 v2 v3 1 h101)) else (B_X6_ahead_34 (B_X6_ahead_4  n) v1 v2 v3 h101)))))
set_option maxRecDepth 100000 in
set_option maxHeartbeats 4000000 in
theorem T_X6_ahead_4 {l : Launch} {G : mb_G} {res : mb_RS} (hst : l.stackTraces = false) (hg : mb_gok G)   : ∀ (n : Nat) (v1 : Int32) (v2 : Int32) (v3 : Int32) (h : mb_AH), B_X6_ahead_4  n v1 v2 v3 h = some res → mb_Ev l G RX6 cX6_ahead 5 (some .int) 2 4 [(0, mb_F 6 0 0), (1, .inl v1), (2, .inl v2), (3, .inl v3)] [] h res := by
  intro n
  induction n with
  | zero => intro v1 v2 v3 h hr; cases hr
  | succ n ih =>
    intro v1 v2 v3 h hr
    rw [B_X6_ahead_4] at hr
    refine mb_iload_n (pn := 5) 3 dX6_ahead_4 rfl rfl rfl ?_
    refine mb_aload_n (pn := 6) 0 dX6_ahead_5 rfl rfl rfl ?_
    refine gf_X6_7 (pn := 9) dX6_ahead_6 rfl ?_
    refine mb_bipush (v := 7) (pn := 11) dX6_ahead_9 (by decide) rfl ?_
    refine mb_iald (pn := 12) (n := 270) rfl dX6_ahead_11 rfl hr (fun hr => ?_)
    refine mb_ic_ge (tgt := 99) (pn := 15) dX6_ahead_12 (by decide) rfl hr (fun hr => ?_) (fun hr => ?_)
    · refine mb_iload_n (pn := 100) 2 dX6_ahead_99 rfl rfl rfl ?_
      cases hr
      exact mb_iret dX6_ahead_100
    · refine mb_aload_n (pn := 16) 0 dX6_ahead_15 rfl rfl rfl ?_
      refine mb_iload_n (pn := 17) 3 dX6_ahead_16 rfl rfl rfl ?_
      refine mb_iconst (v := 3) (pn := 18) dX6_ahead_17 (by decide) rfl ?_
      refine cl_X6_50 (pn := 21) hst hg (Nat.le_of_ble_eq_true rfl) (Nat.le_of_ble_eq_true rfl) dX6_ahead_18 rfl hr (fun y102 h101 hr => ?_)
      refine mb_iconst (v := 2) (pn := 22) dX6_ahead_21 (by decide) rfl ?_
      refine mb_ic_ne (tgt := 34) (pn := 25) dX6_ahead_22 (by decide) rfl hr (fun hr => ?_) (fun hr => ?_)
      · exact mb_lvs [0, 1, 2, 3] rfl (T_X6_ahead_34 hst hg ih hr)
      · refine mb_iload_n (pn := 26) 3 dX6_ahead_25 rfl rfl rfl ?_
        refine mb_iload_n (pn := 27) 1 dX6_ahead_26 rfl rfl rfl ?_
        refine mb_ic_eq (tgt := 34) (pn := 30) dX6_ahead_27 (by decide) rfl hr (fun hr => ?_) (fun hr => ?_)
        · exact mb_lvs [0, 1, 2, 3] rfl (T_X6_ahead_34 hst hg ih hr)
        · refine mb_iconst (v := 1) (pn := 31) dX6_ahead_30 (by decide) rfl ?_
          refine mb_goto (tgt := 35) dX6_ahead_31 (by decide) ?_
          exact mb_lvs [0, 1, 2, 3] rfl (T_X6_ahead_35 hst hg ih hr)
def F_X6_ahead (x1 : Int32) (h : mb_AH) : Option mb_RS := (B_X6_ahead_4  mb_fu x1 0 0 h)
set_option maxRecDepth 100000 in
set_option maxHeartbeats 4000000 in
theorem C_X6_ahead {l : Launch} {G : mb_G} (hst : l.stackTraces = false) (hg : mb_gok G) {x1 : Int32} {h : mb_AH} {res : mb_RS} (hr : F_X6_ahead x1 h = some res) : mb_Mt l G yX6_ahead cX6_ahead 5 (some .int) 2 [mb_F 6 0 0, .inl x1] h res := by
  refine mb_entry (own := RX6) (lv := [(0, mb_F 6 0 0), (1, .inl x1)]) (by decide +kernel) rfl (Nat.le_of_ble_eq_true rfl) rfl rfl (fun _ => ?_) hst hg
  unfold F_X6_ahead at hr
  refine mb_iconst (v := 0) (pn := 1) dX6_ahead_0 (by decide) rfl ?_
  refine mb_istore_n (pn := 2) (lv2 := [(2, .inl 0), (0, mb_F 6 0 0), (1, .inl x1)]) dX6_ahead_1 rfl (by decide) rfl rfl ?_
  refine mb_iconst (v := 0) (pn := 3) dX6_ahead_2 (by decide) rfl ?_
  refine mb_istore_n (pn := 4) (lv2 := [(3, .inl 0), (2, .inl 0), (0, mb_F 6 0 0), (1, .inl x1)]) dX6_ahead_3 rfl (by decide) rfl rfl ?_
  exact mb_lvs [2, 3, 1, 0] rfl (T_X6_ahead_4 hst hg  mb_fu _ _ _ _ hr)
set_option maxRecDepth 100000 in
set_option maxHeartbeats 4000000 in
theorem cl_X6_85 {l : Launch} {G : mb_G} {cc : ByteArray} {nL : Nat} {ret : Option FieldType} {d pc pn : Nat} {lv : List (Nat × mb_AV)} {st : List mb_AV} {h : mb_AH} {res : mb_RS} (hst : l.stackTraces = false) (hg : mb_gok G) {x1 : Int32} {K : Int32 → mb_AH → Option mb_RS} (hd2 : 2 + 1 ≤ d) (hs4 : st.length ≤ 4) (dg : decode cc pc = .ok (.invokevirtual 85, 3)) (hn : pc + 3 = pn) (hr : mb_cI (F_X6_ahead x1 h) K = some res) (kk : ∀ (x : Int32) (h2 : mb_AH), K x h2 = some res → mb_Ev l G RX6 cc nL ret d pn lv (.inl x :: st) h2 res) : mb_Ev l G RX6 cc nL ret d pc lv (.inl x1 :: mb_F 6 0 0 :: st) h res := mb_kVI (as := [.inl x1]) (n := 1) (d2 := 2) (ci := 6) (fun _ hf => C_X6_ahead hst hg hf) (mb_gV wl_X6_85 mi_X6_ahead ms_X6_ahead mn_X6 mc_X6_ahead) (by decide +kernel) rfl rfl rfl hd2 (by decide) hs4 rfl dg hn hr kk
def B_X6_waitingAt_2  : Nat → Int32 → Int32 → mb_AH → Option mb_RS
  | 0, _, _, _ => none
  | n + 1, v1, v2, h => (mb_gB 7 270 (if (h.1 20 0 0 (7 : Int32).toNatClampNeg) ≤ v2 then (some (.inl (some (.inl (-1))), h)) else (mb_cI (F_X6_ofBoat v2 (3 : Int32) h) fun y102 h101 => (if y102 = 2 then (mb_cI (F_X6_ahead v2 h101) fun y105 h104 => (if y105 = v1 then (some (.inl (some (.inl v2)), h104)) else (mb_lI (v2 + 1) fun y106 => ((B_X6_waitingAt_2  n) v1 y106 h104)))) else (mb_lI (v2 + 1) fun y103 => ((B_X6_waitingAt_2  n) v1 y103 h101))))))
set_option maxRecDepth 100000 in
set_option maxHeartbeats 4000000 in
theorem T_X6_waitingAt_2 {l : Launch} {G : mb_G} {res : mb_RS} (hst : l.stackTraces = false) (hg : mb_gok G)   : ∀ (n : Nat) (v1 : Int32) (v2 : Int32) (h : mb_AH), B_X6_waitingAt_2  n v1 v2 h = some res → mb_Ev l G RX6 cX6_waitingAt 3 (some .int) 3 2 [(0, mb_F 6 0 0), (1, .inl v1), (2, .inl v2)] [] h res := by
  intro n
  induction n with
  | zero => intro v1 v2 h hr; cases hr
  | succ n ih =>
    intro v1 v2 h hr
    rw [B_X6_waitingAt_2] at hr
    refine mb_iload_n (pn := 3) 2 dX6_waitingAt_2 rfl rfl rfl ?_
    refine mb_aload_n (pn := 4) 0 dX6_waitingAt_3 rfl rfl rfl ?_
    refine gf_X6_7 (pn := 7) dX6_waitingAt_4 rfl ?_
    refine mb_bipush (v := 7) (pn := 9) dX6_waitingAt_7 (by decide) rfl ?_
    refine mb_iald (pn := 10) (n := 270) rfl dX6_waitingAt_9 rfl hr (fun hr => ?_)
    refine mb_ic_ge (tgt := 40) (pn := 13) dX6_waitingAt_10 (by decide) rfl hr (fun hr => ?_) (fun hr => ?_)
    · refine mb_iconst (v := (-1)) (pn := 41) dX6_waitingAt_40 (by decide) rfl ?_
      cases hr
      exact mb_iret dX6_waitingAt_41
    · refine mb_aload_n (pn := 14) 0 dX6_waitingAt_13 rfl rfl rfl ?_
      refine mb_iload_n (pn := 15) 2 dX6_waitingAt_14 rfl rfl rfl ?_
      refine mb_iconst (v := 3) (pn := 16) dX6_waitingAt_15 (by decide) rfl ?_
      refine cl_X6_50 (pn := 19) hst hg (Nat.le_of_ble_eq_true rfl) (Nat.le_of_ble_eq_true rfl) dX6_waitingAt_16 rfl hr (fun y102 h101 hr => ?_)
      refine mb_iconst (v := 2) (pn := 20) dX6_waitingAt_19 (by decide) rfl ?_
      refine mb_ic_ne (tgt := 34) (pn := 23) dX6_waitingAt_20 (by decide) rfl hr (fun hr => ?_) (fun hr => ?_)
      · refine mb_nmx hr (fun y103 qy103 hr => ?_)
        refine mb_iinc (v := y103) (pn := 37) (lv2 := [(2, .inl y103), (0, mb_F 6 0 0), (1, .inl v1)]) 2 dX6_waitingAt_34 rfl (by rw [qy103]; rfl) (by decide) rfl rfl ?_
        refine mb_goto (tgt := 2) dX6_waitingAt_37 (by decide) ?_
        exact mb_lvs [1, 2, 0] rfl (ih _ _ _ hr)
      · refine mb_aload_n (pn := 24) 0 dX6_waitingAt_23 rfl rfl rfl ?_
        refine mb_iload_n (pn := 25) 2 dX6_waitingAt_24 rfl rfl rfl ?_
        refine cl_X6_85 (pn := 28) hst hg (Nat.le_of_ble_eq_true rfl) (Nat.le_of_ble_eq_true rfl) dX6_waitingAt_25 rfl hr (fun y105 h104 hr => ?_)
        refine mb_iload_n (pn := 29) 1 dX6_waitingAt_28 rfl rfl rfl ?_
        refine mb_ic_ne (tgt := 34) (pn := 32) dX6_waitingAt_29 (by decide) rfl hr (fun hr => ?_) (fun hr => ?_)
        · refine mb_nmx hr (fun y106 qy106 hr => ?_)
          refine mb_iinc (v := y106) (pn := 37) (lv2 := [(2, .inl y106), (0, mb_F 6 0 0), (1, .inl v1)]) 2 dX6_waitingAt_34 rfl (by rw [qy106]; rfl) (by decide) rfl rfl ?_
          refine mb_goto (tgt := 2) dX6_waitingAt_37 (by decide) ?_
          exact mb_lvs [1, 2, 0] rfl (ih _ _ _ hr)
        · refine mb_iload_n (pn := 33) 2 dX6_waitingAt_32 rfl rfl rfl ?_
          cases hr
          exact mb_iret dX6_waitingAt_33
def F_X6_waitingAt (x1 : Int32) (h : mb_AH) : Option mb_RS := (B_X6_waitingAt_2  mb_fu x1 0 h)
set_option maxRecDepth 100000 in
set_option maxHeartbeats 4000000 in
theorem C_X6_waitingAt {l : Launch} {G : mb_G} (hst : l.stackTraces = false) (hg : mb_gok G) {x1 : Int32} {h : mb_AH} {res : mb_RS} (hr : F_X6_waitingAt x1 h = some res) : mb_Mt l G yX6_waitingAt cX6_waitingAt 3 (some .int) 3 [mb_F 6 0 0, .inl x1] h res := by
  refine mb_entry (own := RX6) (lv := [(0, mb_F 6 0 0), (1, .inl x1)]) (by decide +kernel) rfl (Nat.le_of_ble_eq_true rfl) rfl rfl (fun _ => ?_) hst hg
  unfold F_X6_waitingAt at hr
  refine mb_iconst (v := 0) (pn := 1) dX6_waitingAt_0 (by decide) rfl ?_
  refine mb_istore_n (pn := 2) (lv2 := [(2, .inl 0), (0, mb_F 6 0 0), (1, .inl x1)]) dX6_waitingAt_1 rfl (by decide) rfl rfl ?_
  exact mb_lvs [1, 2, 0] rfl (T_X6_waitingAt_2 hst hg  mb_fu _ _ _ hr)
def B_X6_lays_89 (K2 : Int32 → Int32 → Int32 → mb_AH → Option mb_RS) (K9 : Int32 → Int32 → Int32 → Int32 → mb_AH → Option mb_RS) (v1 : Int32) (v2 : Int32) (v3 : Int32) (v4 : Int32) (v5 : Int32) (h : mb_AH) : Option mb_RS := (mb_gB ((v3 <<< (v2 &&& 31)) + v4) 65536 (mb_up (mb_sI h 26 0 0 ((v3 <<< (v2 &&& 31)) + v4).toNatClampNeg v5) fun h103 => (mb_lI (v4 + 1) fun y104 => (K9 v1 v2 v3 y104 h103))))
set_option maxRecDepth 100000 in
set_option maxHeartbeats 4000000 in
theorem T_X6_lays_89 {l : Launch} {G : mb_G} {res : mb_RS} (hst : l.stackTraces = false) (hg : mb_gok G) {K2 : Int32 → Int32 → Int32 → mb_AH → Option mb_RS} {K9 : Int32 → Int32 → Int32 → Int32 → mb_AH → Option mb_RS} (hK2 : ∀ (v1z : Int32) (v2z : Int32) (v3z : Int32) (hz : mb_AH), K2 v1z v2z v3z hz = some res → mb_Ev l G RX6 cX6_lays 8 none 4 2 [(0, mb_F 6 0 0), (1, .inl v1z), (2, .inl v2z), (3, .inl v3z)] [] hz res) (hK9 : ∀ (v1z : Int32) (v2z : Int32) (v3z : Int32) (v4z : Int32) (hz : mb_AH), K9 v1z v2z v3z v4z hz = some res → mb_Ev l G RX6 cX6_lays 8 none 4 9 [(0, mb_F 6 0 0), (1, .inl v1z), (2, .inl v2z), (3, .inl v3z), (4, .inl v4z)] [] hz res) {v1 : Int32} {v2 : Int32} {v3 : Int32} {v4 : Int32} {v5 : Int32} {h : mb_AH} (hr : B_X6_lays_89 K2 K9 v1 v2 v3 v4 v5 h = some res) : mb_Ev l G RX6 cX6_lays 8 none 4 89 [(0, mb_F 6 0 0), (1, .inl v1), (2, .inl v2), (3, .inl v3), (4, .inl v4), (5, .inl v5)] [] h res := by
  unfold B_X6_lays_89 at hr
  refine mb_aload_n (pn := 90) 0 dX6_lays_89 rfl rfl rfl ?_
  refine gf_X6_29 (pn := 93) dX6_lays_90 rfl ?_
  refine mb_iload_n (pn := 94) 3 dX6_lays_93 rfl rfl rfl ?_
  refine mb_iload_n (pn := 95) 2 dX6_lays_94 rfl rfl rfl ?_
  refine mb_ishl (pn := 96) dX6_lays_95 rfl ?_
  refine mb_iload (pn := 98) 4 dX6_lays_96 rfl rfl ?_
  refine mb_iadd (pn := 99) dX6_lays_98 rfl ?_
  refine mb_iload (pn := 101) 5 dX6_lays_99 rfl rfl ?_
  refine mb_iast (pn := 102) (n := 65536) rfl rfl dX6_lays_101 rfl hr (fun hr => ?_)
  refine mb_nmh hr (fun h103 hr => ?_)
  refine mb_nmx hr (fun y104 qy104 hr => ?_)
  refine mb_iinc (v := y104) (pn := 105) (lv2 := [(4, .inl y104), (0, mb_F 6 0 0), (1, .inl v1), (2, .inl v2), (3, .inl v3), (5, .inl v5)]) 4 dX6_lays_102 rfl (by rw [qy104]; rfl) (by decide) rfl rfl ?_
  refine mb_goto (tgt := 9) dX6_lays_105 (by decide) ?_
  exact mb_lvs [1, 2, 3, 4, 0] rfl (hK9 _ _ _ _ _ hr)
def B_X6_withShelter_33  (v1 : Int32) (v2 : Int32) (v3 : Int32) (v4 : Int32) (s0 : Int32) (h : mb_AH) : Option mb_RS := (if s0 = 0 then (some (.inl (some (.inl 0)), h)) else (mb_gB (((v1 + 1) <<< (v3 &&& 31)) + (v4 ||| ((1 : Int32) <<< (v2 &&& 31)))) 65536 (some (.inl (some (.inl ((1 : Int32) + (h.1 26 0 0 (((v1 + 1) <<< (v3 &&& 31)) + (v4 ||| ((1 : Int32) <<< (v2 &&& 31)))).toNatClampNeg)))), h))))
set_option maxRecDepth 100000 in
set_option maxHeartbeats 4000000 in
theorem T_X6_withShelter_33 {l : Launch} {G : mb_G} {res : mb_RS} (hst : l.stackTraces = false) (hg : mb_gok G)   {v1 : Int32} {v2 : Int32} {v3 : Int32} {v4 : Int32} {s0 : Int32} {h : mb_AH} (hr : B_X6_withShelter_33  v1 v2 v3 v4 s0 h = some res) : mb_Ev l G RX6 cX6_withShelter 6 (some .int) 3 33 [(0, mb_F 6 0 0), (1, .inl v1), (2, .inl v2), (3, .inl v3), (4, .inl v4)] [.inl s0] h res := by
  unfold B_X6_withShelter_33 at hr
  refine mb_istore (pn := 35) (lv2 := [(5, .inl s0), (0, mb_F 6 0 0), (1, .inl v1), (2, .inl v2), (3, .inl v3), (4, .inl v4)]) dX6_withShelter_33 (by decide) rfl rfl ?_
  refine mb_iload (pn := 37) 0 dX6_withShelter_35 rfl rfl ?_
  refine mb_if_eq (tgt := 62) (pn := 40) dX6_withShelter_37 (by decide) rfl hr (fun hr => ?_) (fun hr => ?_)
  · refine mb_iconst (v := 0) (pn := 63) dX6_withShelter_62 (by decide) rfl ?_
    cases hr
    exact mb_iret dX6_withShelter_63
  · refine mb_iconst (v := 1) (pn := 41) dX6_withShelter_40 (by decide) rfl ?_
    refine mb_aload_n (pn := 42) 1 dX6_withShelter_41 rfl rfl rfl ?_
    refine gf_X6_29 (pn := 45) dX6_withShelter_42 rfl ?_
    refine mb_iload_n (pn := 46) 2 dX6_withShelter_45 rfl rfl rfl ?_
    refine mb_iconst (v := 1) (pn := 47) dX6_withShelter_46 (by decide) rfl ?_
    refine mb_iadd (pn := 48) dX6_withShelter_47 rfl ?_
    refine mb_iload_n (pn := 49) 4 dX6_withShelter_48 rfl rfl rfl ?_
    refine mb_ishl (pn := 50) dX6_withShelter_49 rfl ?_
    refine mb_iload (pn := 52) 5 dX6_withShelter_50 rfl rfl ?_
    refine mb_iconst (v := 1) (pn := 53) dX6_withShelter_52 (by decide) rfl ?_
    refine mb_iload_n (pn := 54) 3 dX6_withShelter_53 rfl rfl rfl ?_
    refine mb_ishl (pn := 55) dX6_withShelter_54 rfl ?_
    refine mb_ior (pn := 56) dX6_withShelter_55 rfl ?_
    refine mb_iadd (pn := 57) dX6_withShelter_56 rfl ?_
    refine mb_iald (pn := 58) (n := 65536) rfl dX6_withShelter_57 rfl hr (fun hr => ?_)
    refine mb_iadd (pn := 59) dX6_withShelter_58 rfl ?_
    refine mb_goto (tgt := 63) dX6_withShelter_59 (by decide) ?_
    cases hr
    exact mb_iret dX6_withShelter_63
def B_X6_withShelter_32  (v1 : Int32) (v2 : Int32) (v3 : Int32) (v4 : Int32) (h : mb_AH) : Option mb_RS := (B_X6_withShelter_33  v1 v2 v3 v4 0 h)
set_option maxRecDepth 100000 in
set_option maxHeartbeats 4000000 in
theorem T_X6_withShelter_32 {l : Launch} {G : mb_G} {res : mb_RS} (hst : l.stackTraces = false) (hg : mb_gok G)   {v1 : Int32} {v2 : Int32} {v3 : Int32} {v4 : Int32} {h : mb_AH} (hr : B_X6_withShelter_32  v1 v2 v3 v4 h = some res) : mb_Ev l G RX6 cX6_withShelter 6 (some .int) 3 32 [(0, mb_F 6 0 0), (1, .inl v1), (2, .inl v2), (3, .inl v3), (4, .inl v4)] [] h res := by
  unfold B_X6_withShelter_32 at hr
  refine mb_iconst (v := 0) (pn := 33) dX6_withShelter_32 (by decide) rfl ?_
  exact mb_lvs [0, 1, 2, 3, 4] rfl (T_X6_withShelter_33 hst hg  hr)
set_option maxRecDepth 100000 in
set_option maxHeartbeats 4000000 in
theorem cl_X6_96 {l : Launch} {G : mb_G} {cc : ByteArray} {nL : Nat} {ret : Option FieldType} {d pc pn : Nat} {lv : List (Nat × mb_AV)} {st : List mb_AV} {h : mb_AH} {res : mb_RS} (hst : l.stackTraces = false) (hg : mb_gok G) {x1 : Int32} {x2 : Int32} {K : Int32 → mb_AH → Option mb_RS} (hd2 : 2 + 1 ≤ d) (hs4 : st.length ≤ 4) (dg : decode cc pc = .ok (.invokevirtual 96, 3)) (hn : pc + 3 = pn) (hr : mb_cI (F_X6_isFit x1 x2 h) K = some res) (kk : ∀ (x : Int32) (h2 : mb_AH), K x h2 = some res → mb_Ev l G RX6 cc nL ret d pn lv (.inl x :: st) h2 res) : mb_Ev l G RX6 cc nL ret d pc lv (.inl x2 :: .inl x1 :: mb_F 6 0 0 :: st) h res := mb_kVI (as := [.inl x1, .inl x2]) (n := 2) (d2 := 2) (ci := 6) (fun _ hf => C_X6_isFit hst hg hf) (mb_gV wl_X6_96 mi_X6_isFit ms_X6_isFit mn_X6 mc_X6_isFit) (by decide +kernel) rfl rfl rfl hd2 (by decide) hs4 rfl dg hn hr kk
def F_X6_withShelter (x1 : Int32) (x2 : Int32) (x3 : Int32) (x4 : Int32) (h : mb_AH) : Option mb_RS := (if ((x4 >>> (x2 &&& 31)) &&& 1) = 0 then (mb_gB x1 20 (mb_gB x2 16 (mb_cI (F_X6_isFit (h.1 24 0 0 x1.toNatClampNeg) (h.1 25 0 0 x2.toNatClampNeg) h) fun y102 h101 => (if y102 = 0 then (B_X6_withShelter_32  x1 x2 x3 x4 h101) else (B_X6_withShelter_33  x1 x2 x3 x4 1 h101))))) else (B_X6_withShelter_32  x1 x2 x3 x4 h))
set_option maxRecDepth 100000 in
set_option maxHeartbeats 4000000 in
theorem C_X6_withShelter {l : Launch} {G : mb_G} (hst : l.stackTraces = false) (hg : mb_gok G) {x1 : Int32} {x2 : Int32} {x3 : Int32} {x4 : Int32} {h : mb_AH} {res : mb_RS} (hr : F_X6_withShelter x1 x2 x3 x4 h = some res) : mb_Mt l G yX6_withShelter cX6_withShelter 6 (some .int) 3 [mb_F 6 0 0, .inl x1, .inl x2, .inl x3, .inl x4] h res := by
  refine mb_entry (own := RX6) (lv := [(0, mb_F 6 0 0), (1, .inl x1), (2, .inl x2), (3, .inl x3), (4, .inl x4)]) (by decide +kernel) rfl (Nat.le_of_ble_eq_true rfl) rfl rfl (fun _ => ?_) hst hg
  unfold F_X6_withShelter at hr
  refine mb_iload (pn := 2) 4 dX6_withShelter_0 rfl rfl ?_
  refine mb_iload_n (pn := 3) 2 dX6_withShelter_2 rfl rfl rfl ?_
  refine mb_ishr (pn := 4) dX6_withShelter_3 rfl ?_
  refine mb_iconst (v := 1) (pn := 5) dX6_withShelter_4 (by decide) rfl ?_
  refine mb_iand (pn := 6) dX6_withShelter_5 rfl ?_
  refine mb_if_ne (tgt := 32) (pn := 9) dX6_withShelter_6 (by decide) rfl hr (fun hr => ?_) (fun hr => ?_)
  · exact mb_lvs [0, 1, 2, 3, 4] rfl (T_X6_withShelter_32 hst hg  hr)
  · refine mb_aload_n (pn := 10) 0 dX6_withShelter_9 rfl rfl rfl ?_
    refine mb_aload_n (pn := 11) 0 dX6_withShelter_10 rfl rfl rfl ?_
    refine gf_X6_22 (pn := 14) dX6_withShelter_11 rfl ?_
    refine mb_iload_n (pn := 15) 1 dX6_withShelter_14 rfl rfl rfl ?_
    refine mb_iald (pn := 16) (n := 20) rfl dX6_withShelter_15 rfl hr (fun hr => ?_)
    refine mb_aload_n (pn := 17) 0 dX6_withShelter_16 rfl rfl rfl ?_
    refine gf_X6_25 (pn := 20) dX6_withShelter_17 rfl ?_
    refine mb_iload_n (pn := 21) 2 dX6_withShelter_20 rfl rfl rfl ?_
    refine mb_iald (pn := 22) (n := 16) rfl dX6_withShelter_21 rfl hr (fun hr => ?_)
    refine cl_X6_96 (pn := 25) hst hg (Nat.le_of_ble_eq_true rfl) (Nat.le_of_ble_eq_true rfl) dX6_withShelter_22 rfl hr (fun y102 h101 hr => ?_)
    refine mb_if_eq (tgt := 32) (pn := 28) dX6_withShelter_25 (by decide) rfl hr (fun hr => ?_) (fun hr => ?_)
    · exact mb_lvs [0, 1, 2, 3, 4] rfl (T_X6_withShelter_32 hst hg  hr)
    · refine mb_iconst (v := 1) (pn := 29) dX6_withShelter_28 (by decide) rfl ?_
      refine mb_goto (tgt := 33) dX6_withShelter_29 (by decide) ?_
      exact mb_lvs [0, 1, 2, 3, 4] rfl (T_X6_withShelter_33 hst hg  hr)
set_option maxRecDepth 100000 in
set_option maxHeartbeats 4000000 in
theorem cl_X6_92 {l : Launch} {G : mb_G} {cc : ByteArray} {nL : Nat} {ret : Option FieldType} {d pc pn : Nat} {lv : List (Nat × mb_AV)} {st : List mb_AV} {h : mb_AH} {res : mb_RS} (hst : l.stackTraces = false) (hg : mb_gok G) {x1 : Int32} {x2 : Int32} {x3 : Int32} {x4 : Int32} {K : Int32 → mb_AH → Option mb_RS} (hd2 : 3 + 1 ≤ d) (hs4 : st.length ≤ 4) (dg : decode cc pc = .ok (.invokevirtual 92, 3)) (hn : pc + 3 = pn) (hr : mb_cI (F_X6_withShelter x1 x2 x3 x4 h) K = some res) (kk : ∀ (x : Int32) (h2 : mb_AH), K x h2 = some res → mb_Ev l G RX6 cc nL ret d pn lv (.inl x :: st) h2 res) : mb_Ev l G RX6 cc nL ret d pc lv (.inl x4 :: .inl x3 :: .inl x2 :: .inl x1 :: mb_F 6 0 0 :: st) h res := mb_kVI (as := [.inl x1, .inl x2, .inl x3, .inl x4]) (n := 4) (d2 := 3) (ci := 6) (fun _ hf => C_X6_withShelter hst hg hf) (mb_gV wl_X6_92 mi_X6_withShelter ms_X6_withShelter mn_X6 mc_X6_withShelter) (by decide +kernel) rfl rfl rfl hd2 (by decide) hs4 rfl dg hn hr kk
def B_X6_lays_44 (K2 : Int32 → Int32 → Int32 → mb_AH → Option mb_RS) (K9 : Int32 → Int32 → Int32 → Int32 → mb_AH → Option mb_RS) : Nat → Int32 → Int32 → Int32 → Int32 → Int32 → Int32 → mb_AH → Option mb_RS
  | 0, _, _, _, _, _, _, _ => none
  | n + 1, v1, v2, v3, v4, v5, v6, h => (if v2 ≤ v6 then (B_X6_lays_89 K2 K9 v1 v2 v3 v4 v5 h) else (if v1 ≤ v3 then (B_X6_lays_89 K2 K9 v1 v2 v3 v4 v5 h) else (mb_cI (F_X6_withShelter v3 v6 v2 v4 h) fun y106 h105 => (if y106 ≤ v5 then (mb_lI (v6 + 1) fun y107 => ((B_X6_lays_44 K2 K9 n) v1 v2 v3 v4 v5 y107 h105)) else (mb_lI (v6 + 1) fun y108 => ((B_X6_lays_44 K2 K9 n) v1 v2 v3 v4 y106 y108 h105))))))
set_option maxRecDepth 100000 in
set_option maxHeartbeats 4000000 in
theorem T_X6_lays_44 {l : Launch} {G : mb_G} {res : mb_RS} (hst : l.stackTraces = false) (hg : mb_gok G) {K2 : Int32 → Int32 → Int32 → mb_AH → Option mb_RS} {K9 : Int32 → Int32 → Int32 → Int32 → mb_AH → Option mb_RS} (hK2 : ∀ (v1z : Int32) (v2z : Int32) (v3z : Int32) (hz : mb_AH), K2 v1z v2z v3z hz = some res → mb_Ev l G RX6 cX6_lays 8 none 4 2 [(0, mb_F 6 0 0), (1, .inl v1z), (2, .inl v2z), (3, .inl v3z)] [] hz res) (hK9 : ∀ (v1z : Int32) (v2z : Int32) (v3z : Int32) (v4z : Int32) (hz : mb_AH), K9 v1z v2z v3z v4z hz = some res → mb_Ev l G RX6 cX6_lays 8 none 4 9 [(0, mb_F 6 0 0), (1, .inl v1z), (2, .inl v2z), (3, .inl v3z), (4, .inl v4z)] [] hz res) : ∀ (n : Nat) (v1 : Int32) (v2 : Int32) (v3 : Int32) (v4 : Int32) (v5 : Int32) (v6 : Int32) (h : mb_AH), B_X6_lays_44 K2 K9 n v1 v2 v3 v4 v5 v6 h = some res → mb_Ev l G RX6 cX6_lays 8 none 4 44 [(0, mb_F 6 0 0), (1, .inl v1), (2, .inl v2), (3, .inl v3), (4, .inl v4), (5, .inl v5), (6, .inl v6)] [] h res := by
  intro n
  induction n with
  | zero => intro v1 v2 v3 v4 v5 v6 h hr; cases hr
  | succ n ih =>
    intro v1 v2 v3 v4 v5 v6 h hr
    rw [B_X6_lays_44] at hr
    refine mb_iload (pn := 46) 6 dX6_lays_44 rfl rfl ?_
    refine mb_iload_n (pn := 47) 2 dX6_lays_46 rfl rfl rfl ?_
    refine mb_ic_ge (tgt := 89) (pn := 50) dX6_lays_47 (by decide) rfl hr (fun hr => ?_) (fun hr => ?_)
    · exact mb_lvs [0, 1, 2, 3, 4, 5] rfl (T_X6_lays_89 hst hg hK2 hK9 hr)
    · refine mb_iload_n (pn := 51) 3 dX6_lays_50 rfl rfl rfl ?_
      refine mb_iload_n (pn := 52) 1 dX6_lays_51 rfl rfl rfl ?_
      refine mb_ic_ge (tgt := 89) (pn := 55) dX6_lays_52 (by decide) rfl hr (fun hr => ?_) (fun hr => ?_)
      · exact mb_lvs [0, 1, 2, 3, 4, 5] rfl (T_X6_lays_89 hst hg hK2 hK9 hr)
      · refine mb_aload_n (pn := 56) 0 dX6_lays_55 rfl rfl rfl ?_
        refine mb_iload_n (pn := 57) 3 dX6_lays_56 rfl rfl rfl ?_
        refine mb_iload (pn := 59) 6 dX6_lays_57 rfl rfl ?_
        refine mb_iload_n (pn := 60) 2 dX6_lays_59 rfl rfl rfl ?_
        refine mb_iload (pn := 62) 4 dX6_lays_60 rfl rfl ?_
        refine cl_X6_92 (pn := 65) hst hg (Nat.le_of_ble_eq_true rfl) (Nat.le_of_ble_eq_true rfl) dX6_lays_62 rfl hr (fun y106 h105 hr => ?_)
        refine mb_istore (pn := 67) (lv2 := [(7, .inl y106), (0, mb_F 6 0 0), (1, .inl v1), (2, .inl v2), (3, .inl v3), (4, .inl v4), (5, .inl v5), (6, .inl v6)]) dX6_lays_65 (by decide) rfl rfl ?_
        refine mb_iload (pn := 69) 0 dX6_lays_67 rfl rfl ?_
        refine mb_iload (pn := 71) 6 dX6_lays_69 rfl rfl ?_
        refine mb_ic_le (tgt := 79) (pn := 74) dX6_lays_71 (by decide) rfl hr (fun hr => ?_) (fun hr => ?_)
        · refine mb_iload (pn := 81) 6 dX6_lays_79 rfl rfl ?_
          refine mb_istore (pn := 83) (lv2 := [(5, .inl v5), (7, .inl y106), (0, mb_F 6 0 0), (1, .inl v1), (2, .inl v2), (3, .inl v3), (4, .inl v4), (6, .inl v6)]) dX6_lays_81 (by decide) rfl rfl ?_
          refine mb_nmx hr (fun y107 qy107 hr => ?_)
          refine mb_iinc (v := y107) (pn := 86) (lv2 := [(6, .inl y107), (5, .inl v5), (7, .inl y106), (0, mb_F 6 0 0), (1, .inl v1), (2, .inl v2), (3, .inl v3), (4, .inl v4)]) 7 dX6_lays_83 rfl (by rw [qy107]; rfl) (by decide) rfl rfl ?_
          refine mb_goto (tgt := 44) dX6_lays_86 (by decide) ?_
          exact mb_lvs [3, 4, 5, 6, 7, 1, 0] rfl (ih _ _ _ _ _ _ _ hr)
        · refine mb_iload (pn := 76) 0 dX6_lays_74 rfl rfl ?_
          refine mb_goto (tgt := 81) dX6_lays_76 (by decide) ?_
          refine mb_istore (pn := 83) (lv2 := [(5, .inl y106), (7, .inl y106), (0, mb_F 6 0 0), (1, .inl v1), (2, .inl v2), (3, .inl v3), (4, .inl v4), (6, .inl v6)]) dX6_lays_81 (by decide) rfl rfl ?_
          refine mb_nmx hr (fun y108 qy108 hr => ?_)
          refine mb_iinc (v := y108) (pn := 86) (lv2 := [(6, .inl y108), (5, .inl y106), (7, .inl y106), (0, mb_F 6 0 0), (1, .inl v1), (2, .inl v2), (3, .inl v3), (4, .inl v4)]) 7 dX6_lays_83 rfl (by rw [qy108]; rfl) (by decide) rfl rfl ?_
          refine mb_goto (tgt := 44) dX6_lays_86 (by decide) ?_
          exact mb_lvs [3, 4, 5, 6, 7, 1, 0] rfl (ih _ _ _ _ _ _ _ hr)
def B_X6_lays_9 (K2 : Int32 → Int32 → Int32 → mb_AH → Option mb_RS) : Nat → Int32 → Int32 → Int32 → Int32 → mb_AH → Option mb_RS
  | 0, _, _, _, _, _ => none
  | n + 1, v1, v2, v3, v4, h => (if ((1 : Int32) <<< (v2 &&& 31)) ≤ v4 then (mb_lI (v3 + (-1)) fun y101 => (K2 v1 v2 y101 h)) else (if v3 = v1 then (B_X6_lays_44 K2 (B_X6_lays_9 K2 n) mb_fu v1 v2 v3 v4 0 0 h) else (mb_gB (((v3 + 1) <<< (v2 &&& 31)) + v4) 65536 (mb_lI (h.1 26 0 0 (((v3 + 1) <<< (v2 &&& 31)) + v4).toNatClampNeg) fun y102 => (B_X6_lays_44 K2 (B_X6_lays_9 K2 n) mb_fu v1 v2 v3 v4 y102 0 h)))))
set_option maxRecDepth 100000 in
set_option maxHeartbeats 4000000 in
theorem T_X6_lays_9 {l : Launch} {G : mb_G} {res : mb_RS} (hst : l.stackTraces = false) (hg : mb_gok G) {K2 : Int32 → Int32 → Int32 → mb_AH → Option mb_RS} (hK2 : ∀ (v1z : Int32) (v2z : Int32) (v3z : Int32) (hz : mb_AH), K2 v1z v2z v3z hz = some res → mb_Ev l G RX6 cX6_lays 8 none 4 2 [(0, mb_F 6 0 0), (1, .inl v1z), (2, .inl v2z), (3, .inl v3z)] [] hz res) : ∀ (n : Nat) (v1 : Int32) (v2 : Int32) (v3 : Int32) (v4 : Int32) (h : mb_AH), B_X6_lays_9 K2 n v1 v2 v3 v4 h = some res → mb_Ev l G RX6 cX6_lays 8 none 4 9 [(0, mb_F 6 0 0), (1, .inl v1), (2, .inl v2), (3, .inl v3), (4, .inl v4)] [] h res := by
  intro n
  induction n with
  | zero => intro v1 v2 v3 v4 h hr; cases hr
  | succ n ih =>
    intro v1 v2 v3 v4 h hr
    rw [B_X6_lays_9] at hr
    refine mb_iload (pn := 11) 4 dX6_lays_9 rfl rfl ?_
    refine mb_iconst (v := 1) (pn := 12) dX6_lays_11 (by decide) rfl ?_
    refine mb_iload_n (pn := 13) 2 dX6_lays_12 rfl rfl rfl ?_
    refine mb_ishl (pn := 14) dX6_lays_13 rfl ?_
    refine mb_ic_ge (tgt := 108) (pn := 17) dX6_lays_14 (by decide) rfl hr (fun hr => ?_) (fun hr => ?_)
    · refine mb_nmx hr (fun y101 qy101 hr => ?_)
      refine mb_iinc (v := y101) (pn := 111) (lv2 := [(3, .inl y101), (0, mb_F 6 0 0), (1, .inl v1), (2, .inl v2), (4, .inl v4)]) 3 dX6_lays_108 rfl (by rw [qy101]; rfl) (by decide) rfl rfl ?_
      refine mb_goto (tgt := 2) dX6_lays_111 (by decide) ?_
      exact mb_lvs [1, 2, 3, 0] rfl (hK2 _ _ _ _ hr)
    · refine mb_iload_n (pn := 18) 3 dX6_lays_17 rfl rfl rfl ?_
      refine mb_iload_n (pn := 19) 1 dX6_lays_18 rfl rfl rfl ?_
      refine mb_ic_ne (tgt := 26) (pn := 22) dX6_lays_19 (by decide) rfl hr (fun hr => ?_) (fun hr => ?_)
      · refine mb_aload_n (pn := 27) 0 dX6_lays_26 rfl rfl rfl ?_
        refine gf_X6_29 (pn := 30) dX6_lays_27 rfl ?_
        refine mb_iload_n (pn := 31) 3 dX6_lays_30 rfl rfl rfl ?_
        refine mb_iconst (v := 1) (pn := 32) dX6_lays_31 (by decide) rfl ?_
        refine mb_iadd (pn := 33) dX6_lays_32 rfl ?_
        refine mb_iload_n (pn := 34) 2 dX6_lays_33 rfl rfl rfl ?_
        refine mb_ishl (pn := 35) dX6_lays_34 rfl ?_
        refine mb_iload (pn := 37) 4 dX6_lays_35 rfl rfl ?_
        refine mb_iadd (pn := 38) dX6_lays_37 rfl ?_
        refine mb_iald (pn := 39) (n := 65536) rfl dX6_lays_38 rfl hr (fun hr => ?_)
        refine mb_nmI hr (fun y102 hr => ?_)
        refine mb_istore (pn := 41) (lv2 := [(5, .inl y102), (0, mb_F 6 0 0), (1, .inl v1), (2, .inl v2), (3, .inl v3), (4, .inl v4)]) dX6_lays_39 (by decide) rfl rfl ?_
        refine mb_iconst (v := 0) (pn := 42) dX6_lays_41 (by decide) rfl ?_
        refine mb_istore (pn := 44) (lv2 := [(6, .inl 0), (5, .inl y102), (0, mb_F 6 0 0), (1, .inl v1), (2, .inl v2), (3, .inl v3), (4, .inl v4)]) dX6_lays_42 (by decide) rfl rfl ?_
        exact mb_lvs [2, 3, 4, 5, 6, 1, 0] rfl (T_X6_lays_44 hst hg hK2 ih mb_fu _ _ _ _ _ _ _ hr)
      · refine mb_iconst (v := 0) (pn := 23) dX6_lays_22 (by decide) rfl ?_
        refine mb_goto (tgt := 39) dX6_lays_23 (by decide) ?_
        refine mb_istore (pn := 41) (lv2 := [(5, .inl 0), (0, mb_F 6 0 0), (1, .inl v1), (2, .inl v2), (3, .inl v3), (4, .inl v4)]) dX6_lays_39 (by decide) rfl rfl ?_
        refine mb_iconst (v := 0) (pn := 42) dX6_lays_41 (by decide) rfl ?_
        refine mb_istore (pn := 44) (lv2 := [(6, .inl 0), (5, .inl 0), (0, mb_F 6 0 0), (1, .inl v1), (2, .inl v2), (3, .inl v3), (4, .inl v4)]) dX6_lays_42 (by decide) rfl rfl ?_
        exact mb_lvs [2, 3, 4, 5, 6, 1, 0] rfl (T_X6_lays_44 hst hg hK2 ih mb_fu _ _ _ _ _ _ _ hr)
def B_X6_lays_2  : Nat → Int32 → Int32 → Int32 → mb_AH → Option mb_RS
  | 0, _, _, _, _ => none
  | n + 1, v1, v2, v3, h => (if v3 < 0 then (some (.inl none, h)) else (B_X6_lays_9 (B_X6_lays_2  n) mb_fu v1 v2 v3 0 h))
set_option maxRecDepth 100000 in
set_option maxHeartbeats 4000000 in
theorem T_X6_lays_2 {l : Launch} {G : mb_G} {res : mb_RS} (hst : l.stackTraces = false) (hg : mb_gok G)   : ∀ (n : Nat) (v1 : Int32) (v2 : Int32) (v3 : Int32) (h : mb_AH), B_X6_lays_2  n v1 v2 v3 h = some res → mb_Ev l G RX6 cX6_lays 8 none 4 2 [(0, mb_F 6 0 0), (1, .inl v1), (2, .inl v2), (3, .inl v3)] [] h res := by
  intro n
  induction n with
  | zero => intro v1 v2 v3 h hr; cases hr
  | succ n ih =>
    intro v1 v2 v3 h hr
    rw [B_X6_lays_2] at hr
    refine mb_iload_n (pn := 3) 3 dX6_lays_2 rfl rfl rfl ?_
    refine mb_if_lt (tgt := 114) (pn := 6) dX6_lays_3 (by decide) rfl hr (fun hr => ?_) (fun hr => ?_)
    · cases hr
      exact mb_vret dX6_lays_114
    · refine mb_iconst (v := 0) (pn := 7) dX6_lays_6 (by decide) rfl ?_
      refine mb_istore (pn := 9) (lv2 := [(4, .inl 0), (0, mb_F 6 0 0), (1, .inl v1), (2, .inl v2), (3, .inl v3)]) dX6_lays_7 (by decide) rfl rfl ?_
      exact mb_lvs [1, 2, 3, 4, 0] rfl (T_X6_lays_9 hst hg ih mb_fu _ _ _ _ _ hr)
def F_X6_lays (x1 : Int32) (x2 : Int32) (h : mb_AH) : Option mb_RS := (B_X6_lays_2  mb_fu x1 x2 x1 h)
set_option maxRecDepth 100000 in
set_option maxHeartbeats 4000000 in
theorem C_X6_lays {l : Launch} {G : mb_G} (hst : l.stackTraces = false) (hg : mb_gok G) {x1 : Int32} {x2 : Int32} {h : mb_AH} {res : mb_RS} (hr : F_X6_lays x1 x2 h = some res) : mb_Mt l G yX6_lays cX6_lays 8 none 4 [mb_F 6 0 0, .inl x1, .inl x2] h res := by
  refine mb_entry (own := RX6) (lv := [(0, mb_F 6 0 0), (1, .inl x1), (2, .inl x2)]) (by decide +kernel) rfl (Nat.le_of_ble_eq_true rfl) rfl rfl (fun _ => ?_) hst hg
  unfold F_X6_lays at hr
  refine mb_iload_n (pn := 1) 1 dX6_lays_0 rfl rfl rfl ?_
  refine mb_istore_n (pn := 2) (lv2 := [(3, .inl x1), (0, mb_F 6 0 0), (1, .inl x1), (2, .inl x2)]) dX6_lays_1 rfl (by decide) rfl rfl ?_
  exact mb_lvs [1, 2, 3, 0] rfl (T_X6_lays_2 hst hg  mb_fu _ _ _ _ hr)
set_option maxRecDepth 100000 in
set_option maxHeartbeats 4000000 in
theorem cl_X6_88 {l : Launch} {G : mb_G} {cc : ByteArray} {nL : Nat} {ret : Option FieldType} {d pc pn : Nat} {lv : List (Nat × mb_AV)} {st : List mb_AV} {h : mb_AH} {res : mb_RS} (hst : l.stackTraces = false) (hg : mb_gok G) {x1 : Int32} {x2 : Int32} {K : mb_AH → Option mb_RS} (hd2 : 4 + 1 ≤ d) (hs4 : st.length ≤ 4) (dg : decode cc pc = .ok (.invokevirtual 88, 3)) (hn : pc + 3 = pn) (hr : mb_cV (F_X6_lays x1 x2 h) K = some res) (kk : ∀ (h2 : mb_AH), K h2 = some res → mb_Ev l G RX6 cc nL ret d pn lv st h2 res) : mb_Ev l G RX6 cc nL ret d pc lv (.inl x2 :: .inl x1 :: mb_F 6 0 0 :: st) h res := mb_kVV (as := [.inl x1, .inl x2]) (n := 2) (d2 := 4) (ci := 6) (fun _ hf => C_X6_lays hst hg hf) (mb_gV wl_X6_88 mi_X6_lays ms_X6_lays mn_X6 mc_X6_lays) (by decide +kernel) rfl rfl rfl hd2 (by decide) hs4 rfl dg hn hr kk
def B_X6_begins_232 (K129 : Int32 → Int32 → Int32 → Int32 → mb_AH → Option mb_RS) (v1 : Int32) (v2 : Int32) (v3 : Int32) (v4 : Int32) (v6 : Int32) (s0 : Int32) (s1 : Int32) (s2 : Int32) (h : mb_AH) : Option mb_RS := (mb_cV (F_X6_puts s2 s1 s0 h) fun h105 => (if v6 = (-1) then (mb_lI (v3 ||| 0) fun y108 => (mb_lI (v4 + 1) fun y109 => (K129 v1 v2 y108 y109 h105))) else (mb_lI (v3 ||| ((1 : Int32) <<< (v6 &&& 31))) fun y106 => (mb_lI (v4 + 1) fun y107 => (K129 v1 v2 y106 y107 h105)))))
set_option maxRecDepth 100000 in
set_option maxHeartbeats 4000000 in
theorem T_X6_begins_232 {l : Launch} {G : mb_G} {res : mb_RS} (hst : l.stackTraces = false) (hg : mb_gok G) {K129 : Int32 → Int32 → Int32 → Int32 → mb_AH → Option mb_RS} (hK129 : ∀ (v1z : Int32) (v2z : Int32) (v3z : Int32) (v4z : Int32) (hz : mb_AH), K129 v1z v2z v3z v4z hz = some res → mb_Ev l G RX6 cX6_begins 8 none 5 129 [(0, mb_F 6 0 0), (1, .inl v1z), (2, .inl v2z), (3, .inl v3z), (4, .inl v4z)] [] hz res) {v1 : Int32} {v2 : Int32} {v3 : Int32} {v4 : Int32} {v6 : Int32} {s0 : Int32} {s1 : Int32} {s2 : Int32} {h : mb_AH} (hr : B_X6_begins_232 K129 v1 v2 v3 v4 v6 s0 s1 s2 h = some res) : mb_Ev l G RX6 cX6_begins 8 none 5 232 [(0, mb_F 6 0 0), (1, .inl v1), (2, .inl v2), (3, .inl v3), (4, .inl v4), (6, .inl v6)] [.inl s0, .inl s1, .inl s2, mb_F 6 0 0] h res := by
  unfold B_X6_begins_232 at hr
  refine cl_X6_79 (pn := 235) hst hg (Nat.le_of_ble_eq_true rfl) (Nat.le_of_ble_eq_true rfl) dX6_begins_232 rfl hr (fun h105 hr => ?_)
  refine mb_iload_n (pn := 236) 3 dX6_begins_235 rfl rfl rfl ?_
  refine mb_iload (pn := 238) 5 dX6_begins_236 rfl rfl ?_
  refine mb_iconst (v := (-1)) (pn := 239) dX6_begins_238 (by decide) rfl ?_
  refine mb_ic_ne (tgt := 246) (pn := 242) dX6_begins_239 (by decide) rfl hr (fun hr => ?_) (fun hr => ?_)
  · refine mb_iconst (v := 1) (pn := 247) dX6_begins_246 (by decide) rfl ?_
    refine mb_iload (pn := 249) 5 dX6_begins_247 rfl rfl ?_
    refine mb_ishl (pn := 250) dX6_begins_249 rfl ?_
    refine mb_ior (pn := 251) dX6_begins_250 rfl ?_
    refine mb_nmI hr (fun y106 hr => ?_)
    refine mb_istore_n (pn := 252) (lv2 := [(3, .inl y106), (0, mb_F 6 0 0), (1, .inl v1), (2, .inl v2), (4, .inl v4), (6, .inl v6)]) dX6_begins_251 rfl (by decide) rfl rfl ?_
    refine mb_nmx hr (fun y107 qy107 hr => ?_)
    refine mb_iinc (v := y107) (pn := 255) (lv2 := [(4, .inl y107), (3, .inl y106), (0, mb_F 6 0 0), (1, .inl v1), (2, .inl v2), (6, .inl v6)]) 4 dX6_begins_252 rfl (by rw [qy107]; rfl) (by decide) rfl rfl ?_
    refine mb_goto (tgt := 129) dX6_begins_255 (by decide) ?_
    exact mb_lvs [2, 3, 4, 1, 0] rfl (hK129 _ _ _ _ _ hr)
  · refine mb_iconst (v := 0) (pn := 243) dX6_begins_242 (by decide) rfl ?_
    refine mb_goto (tgt := 250) dX6_begins_243 (by decide) ?_
    refine mb_ior (pn := 251) dX6_begins_250 rfl ?_
    refine mb_nmI hr (fun y108 hr => ?_)
    refine mb_istore_n (pn := 252) (lv2 := [(3, .inl y108), (0, mb_F 6 0 0), (1, .inl v1), (2, .inl v2), (4, .inl v4), (6, .inl v6)]) dX6_begins_251 rfl (by decide) rfl rfl ?_
    refine mb_nmx hr (fun y109 qy109 hr => ?_)
    refine mb_iinc (v := y109) (pn := 255) (lv2 := [(4, .inl y109), (3, .inl y108), (0, mb_F 6 0 0), (1, .inl v1), (2, .inl v2), (6, .inl v6)]) 4 dX6_begins_252 rfl (by rw [qy109]; rfl) (by decide) rfl rfl ?_
    refine mb_goto (tgt := 129) dX6_begins_255 (by decide) ?_
    exact mb_lvs [2, 3, 4, 1, 0] rfl (hK129 _ _ _ _ _ hr)
def B_X6_begins_215 (K129 : Int32 → Int32 → Int32 → Int32 → mb_AH → Option mb_RS) (v1 : Int32) (v2 : Int32) (v3 : Int32) (v4 : Int32) (v6 : Int32) (s0 : Int32) (s1 : Int32) (h : mb_AH) : Option mb_RS := (if v6 = (-1) then (B_X6_begins_232 K129 v1 v2 v3 v4 v6 (-1) s0 s1 h) else (mb_gB v6 16 (B_X6_begins_232 K129 v1 v2 v3 v4 v6 (h.1 25 0 0 v6.toNatClampNeg) s0 s1 h)))
set_option maxRecDepth 100000 in
set_option maxHeartbeats 4000000 in
theorem T_X6_begins_215 {l : Launch} {G : mb_G} {res : mb_RS} (hst : l.stackTraces = false) (hg : mb_gok G) {K129 : Int32 → Int32 → Int32 → Int32 → mb_AH → Option mb_RS} (hK129 : ∀ (v1z : Int32) (v2z : Int32) (v3z : Int32) (v4z : Int32) (hz : mb_AH), K129 v1z v2z v3z v4z hz = some res → mb_Ev l G RX6 cX6_begins 8 none 5 129 [(0, mb_F 6 0 0), (1, .inl v1z), (2, .inl v2z), (3, .inl v3z), (4, .inl v4z)] [] hz res) {v1 : Int32} {v2 : Int32} {v3 : Int32} {v4 : Int32} {v6 : Int32} {s0 : Int32} {s1 : Int32} {h : mb_AH} (hr : B_X6_begins_215 K129 v1 v2 v3 v4 v6 s0 s1 h = some res) : mb_Ev l G RX6 cX6_begins 8 none 5 215 [(0, mb_F 6 0 0), (1, .inl v1), (2, .inl v2), (3, .inl v3), (4, .inl v4), (6, .inl v6)] [.inl s0, .inl s1, mb_F 6 0 0] h res := by
  unfold B_X6_begins_215 at hr
  refine mb_iload (pn := 217) 5 dX6_begins_215 rfl rfl ?_
  refine mb_iconst (v := (-1)) (pn := 218) dX6_begins_217 (by decide) rfl ?_
  refine mb_ic_ne (tgt := 225) (pn := 221) dX6_begins_218 (by decide) rfl hr (fun hr => ?_) (fun hr => ?_)
  · refine mb_aload_n (pn := 226) 0 dX6_begins_225 rfl rfl rfl ?_
    refine gf_X6_25 (pn := 229) dX6_begins_226 rfl ?_
    refine mb_iload (pn := 231) 5 dX6_begins_229 rfl rfl ?_
    refine mb_iald (pn := 232) (n := 16) rfl dX6_begins_231 rfl hr (fun hr => ?_)
    exact mb_lvs [0, 1, 2, 3, 4, 5] rfl (T_X6_begins_232 hst hg hK129 hr)
  · refine mb_iconst (v := (-1)) (pn := 222) dX6_begins_221 (by decide) rfl ?_
    refine mb_goto (tgt := 232) dX6_begins_222 (by decide) ?_
    exact mb_lvs [0, 1, 2, 3, 4, 5] rfl (T_X6_begins_232 hst hg hK129 hr)
def B_X6_begins_156 (K129 : Int32 → Int32 → Int32 → Int32 → mb_AH → Option mb_RS) : Nat → Int32 → Int32 → Int32 → Int32 → Int32 → Int32 → Int32 → mb_AH → Option mb_RS
  | 0, _, _, _, _, _, _, _, _ => none
  | n + 1, v1, v2, v3, v4, v5, v6, v7, h => (if v7 < 0 then (mb_gB v4 20 (if v6 = (-1) then (B_X6_begins_215 K129 v1 v2 v3 v4 v6 3 (h.1 24 0 0 v4.toNatClampNeg) h) else (B_X6_begins_215 K129 v1 v2 v3 v4 v6 1 (h.1 24 0 0 v4.toNatClampNeg) h))) else (if v5 ≤ 0 then (mb_lI (v7 + (-1)) fun y110 => ((B_X6_begins_156 K129 n) v1 v2 v3 v4 v5 v6 y110 h)) else (mb_cI (F_X6_withShelter v4 v7 v2 v3 h) fun y112 h111 => (if y112 = v5 then (mb_lI (v7 + (-1)) fun y114 => ((B_X6_begins_156 K129 n) v1 v2 v3 v4 v5 v7 y114 h111)) else (mb_lI (v7 + (-1)) fun y113 => ((B_X6_begins_156 K129 n) v1 v2 v3 v4 v5 v6 y113 h111))))))
set_option maxRecDepth 100000 in
set_option maxHeartbeats 4000000 in
theorem T_X6_begins_156 {l : Launch} {G : mb_G} {res : mb_RS} (hst : l.stackTraces = false) (hg : mb_gok G) {K129 : Int32 → Int32 → Int32 → Int32 → mb_AH → Option mb_RS} (hK129 : ∀ (v1z : Int32) (v2z : Int32) (v3z : Int32) (v4z : Int32) (hz : mb_AH), K129 v1z v2z v3z v4z hz = some res → mb_Ev l G RX6 cX6_begins 8 none 5 129 [(0, mb_F 6 0 0), (1, .inl v1z), (2, .inl v2z), (3, .inl v3z), (4, .inl v4z)] [] hz res) : ∀ (n : Nat) (v1 : Int32) (v2 : Int32) (v3 : Int32) (v4 : Int32) (v5 : Int32) (v6 : Int32) (v7 : Int32) (h : mb_AH), B_X6_begins_156 K129 n v1 v2 v3 v4 v5 v6 v7 h = some res → mb_Ev l G RX6 cX6_begins 8 none 5 156 [(0, mb_F 6 0 0), (1, .inl v1), (2, .inl v2), (3, .inl v3), (4, .inl v4), (5, .inl v5), (6, .inl v6), (7, .inl v7)] [] h res := by
  intro n
  induction n with
  | zero => intro v1 v2 v3 v4 v5 v6 v7 h hr; cases hr
  | succ n ih =>
    intro v1 v2 v3 v4 v5 v6 v7 h hr
    rw [B_X6_begins_156] at hr
    refine mb_iload (pn := 158) 7 dX6_begins_156 rfl rfl ?_
    refine mb_if_lt (tgt := 196) (pn := 161) dX6_begins_158 (by decide) rfl hr (fun hr => ?_) (fun hr => ?_)
    · refine mb_aload_n (pn := 197) 0 dX6_begins_196 rfl rfl rfl ?_
      refine mb_aload_n (pn := 198) 0 dX6_begins_197 rfl rfl rfl ?_
      refine gf_X6_22 (pn := 201) dX6_begins_198 rfl ?_
      refine mb_iload (pn := 203) 4 dX6_begins_201 rfl rfl ?_
      refine mb_iald (pn := 204) (n := 20) rfl dX6_begins_203 rfl hr (fun hr => ?_)
      refine mb_iload (pn := 206) 6 dX6_begins_204 rfl rfl ?_
      refine mb_iconst (v := (-1)) (pn := 207) dX6_begins_206 (by decide) rfl ?_
      refine mb_ic_ne (tgt := 214) (pn := 210) dX6_begins_207 (by decide) rfl hr (fun hr => ?_) (fun hr => ?_)
      · refine mb_iconst (v := 1) (pn := 215) dX6_begins_214 (by decide) rfl ?_
        exact mb_lvs [0, 1, 2, 3, 4, 6] rfl (T_X6_begins_215 hst hg hK129 hr)
      · refine mb_iconst (v := 3) (pn := 211) dX6_begins_210 (by decide) rfl ?_
        refine mb_goto (tgt := 215) dX6_begins_211 (by decide) ?_
        exact mb_lvs [0, 1, 2, 3, 4, 6] rfl (T_X6_begins_215 hst hg hK129 hr)
    · refine mb_iload (pn := 163) 5 dX6_begins_161 rfl rfl ?_
      refine mb_if_le (tgt := 186) (pn := 166) dX6_begins_163 (by decide) rfl hr (fun hr => ?_) (fun hr => ?_)
      · refine mb_iload (pn := 188) 6 dX6_begins_186 rfl rfl ?_
        refine mb_istore (pn := 190) (lv2 := [(6, .inl v6), (0, mb_F 6 0 0), (1, .inl v1), (2, .inl v2), (3, .inl v3), (4, .inl v4), (5, .inl v5), (7, .inl v7)]) dX6_begins_188 (by decide) rfl rfl ?_
        refine mb_nmx hr (fun y110 qy110 hr => ?_)
        refine mb_iinc (v := y110) (pn := 193) (lv2 := [(7, .inl y110), (6, .inl v6), (0, mb_F 6 0 0), (1, .inl v1), (2, .inl v2), (3, .inl v3), (4, .inl v4), (5, .inl v5)]) 7 dX6_begins_190 rfl (by rw [qy110]; rfl) (by decide) rfl rfl ?_
        refine mb_goto (tgt := 156) dX6_begins_193 (by decide) ?_
        exact mb_lvs [2, 3, 4, 5, 6, 7, 1, 0] rfl (ih _ _ _ _ _ _ _ _ hr)
      · refine mb_aload_n (pn := 167) 0 dX6_begins_166 rfl rfl rfl ?_
        refine mb_iload (pn := 169) 4 dX6_begins_167 rfl rfl ?_
        refine mb_iload (pn := 171) 7 dX6_begins_169 rfl rfl ?_
        refine mb_iload_n (pn := 172) 2 dX6_begins_171 rfl rfl rfl ?_
        refine mb_iload_n (pn := 173) 3 dX6_begins_172 rfl rfl rfl ?_
        refine cl_X6_92 (pn := 176) hst hg (Nat.le_of_ble_eq_true rfl) (Nat.le_of_ble_eq_true rfl) dX6_begins_173 rfl hr (fun y112 h111 hr => ?_)
        refine mb_iload (pn := 178) 5 dX6_begins_176 rfl rfl ?_
        refine mb_ic_ne (tgt := 186) (pn := 181) dX6_begins_178 (by decide) rfl hr (fun hr => ?_) (fun hr => ?_)
        · refine mb_iload (pn := 188) 6 dX6_begins_186 rfl rfl ?_
          refine mb_istore (pn := 190) (lv2 := [(6, .inl v6), (0, mb_F 6 0 0), (1, .inl v1), (2, .inl v2), (3, .inl v3), (4, .inl v4), (5, .inl v5), (7, .inl v7)]) dX6_begins_188 (by decide) rfl rfl ?_
          refine mb_nmx hr (fun y113 qy113 hr => ?_)
          refine mb_iinc (v := y113) (pn := 193) (lv2 := [(7, .inl y113), (6, .inl v6), (0, mb_F 6 0 0), (1, .inl v1), (2, .inl v2), (3, .inl v3), (4, .inl v4), (5, .inl v5)]) 7 dX6_begins_190 rfl (by rw [qy113]; rfl) (by decide) rfl rfl ?_
          refine mb_goto (tgt := 156) dX6_begins_193 (by decide) ?_
          exact mb_lvs [2, 3, 4, 5, 6, 7, 1, 0] rfl (ih _ _ _ _ _ _ _ _ hr)
        · refine mb_iload (pn := 183) 7 dX6_begins_181 rfl rfl ?_
          refine mb_goto (tgt := 188) dX6_begins_183 (by decide) ?_
          refine mb_istore (pn := 190) (lv2 := [(6, .inl v7), (0, mb_F 6 0 0), (1, .inl v1), (2, .inl v2), (3, .inl v3), (4, .inl v4), (5, .inl v5), (7, .inl v7)]) dX6_begins_188 (by decide) rfl rfl ?_
          refine mb_nmx hr (fun y114 qy114 hr => ?_)
          refine mb_iinc (v := y114) (pn := 193) (lv2 := [(7, .inl y114), (6, .inl v7), (0, mb_F 6 0 0), (1, .inl v1), (2, .inl v2), (3, .inl v3), (4, .inl v4), (5, .inl v5)]) 7 dX6_begins_190 rfl (by rw [qy114]; rfl) (by decide) rfl rfl ?_
          refine mb_goto (tgt := 156) dX6_begins_193 (by decide) ?_
          exact mb_lvs [2, 3, 4, 5, 6, 7, 1, 0] rfl (ih _ _ _ _ _ _ _ _ hr)
def B_X6_begins_129  : Nat → Int32 → Int32 → Int32 → Int32 → mb_AH → Option mb_RS
  | 0, _, _, _, _, _ => none
  | n + 1, v1, v2, v3, v4, h => (if v1 ≤ v4 then (mb_gB 5 270 (mb_up (mb_sI h 20 0 0 (5 : Int32).toNatClampNeg 1) fun h102 => (some (.inl none, h102)))) else (mb_gB ((v4 <<< (v2 &&& 31)) + v3) 65536 (mb_lI (h.1 26 0 0 ((v4 <<< (v2 &&& 31)) + v3).toNatClampNeg) fun y103 => (mb_lI (v2 - 1) fun y104 => (B_X6_begins_156 (B_X6_begins_129  n) mb_fu v1 v2 v3 v4 y103 (-1) y104 h)))))
set_option maxRecDepth 100000 in
set_option maxHeartbeats 4000000 in
theorem T_X6_begins_129 {l : Launch} {G : mb_G} {res : mb_RS} (hst : l.stackTraces = false) (hg : mb_gok G)   : ∀ (n : Nat) (v1 : Int32) (v2 : Int32) (v3 : Int32) (v4 : Int32) (h : mb_AH), B_X6_begins_129  n v1 v2 v3 v4 h = some res → mb_Ev l G RX6 cX6_begins 8 none 5 129 [(0, mb_F 6 0 0), (1, .inl v1), (2, .inl v2), (3, .inl v3), (4, .inl v4)] [] h res := by
  intro n
  induction n with
  | zero => intro v1 v2 v3 v4 h hr; cases hr
  | succ n ih =>
    intro v1 v2 v3 v4 h hr
    rw [B_X6_begins_129] at hr
    refine mb_iload (pn := 131) 4 dX6_begins_129 rfl rfl ?_
    refine mb_iload_n (pn := 132) 1 dX6_begins_131 rfl rfl rfl ?_
    refine mb_ic_ge (tgt := 258) (pn := 135) dX6_begins_132 (by decide) rfl hr (fun hr => ?_) (fun hr => ?_)
    · refine mb_aload_n (pn := 259) 0 dX6_begins_258 rfl rfl rfl ?_
      refine gf_X6_7 (pn := 262) dX6_begins_259 rfl ?_
      refine mb_iconst (v := 5) (pn := 263) dX6_begins_262 (by decide) rfl ?_
      refine mb_iconst (v := 1) (pn := 264) dX6_begins_263 (by decide) rfl ?_
      refine mb_iast (pn := 265) (n := 270) rfl rfl dX6_begins_264 rfl hr (fun hr => ?_)
      refine mb_nmh hr (fun h102 hr => ?_)
      cases hr
      exact mb_vret dX6_begins_265
    · refine mb_aload_n (pn := 136) 0 dX6_begins_135 rfl rfl rfl ?_
      refine gf_X6_29 (pn := 139) dX6_begins_136 rfl ?_
      refine mb_iload (pn := 141) 4 dX6_begins_139 rfl rfl ?_
      refine mb_iload_n (pn := 142) 2 dX6_begins_141 rfl rfl rfl ?_
      refine mb_ishl (pn := 143) dX6_begins_142 rfl ?_
      refine mb_iload_n (pn := 144) 3 dX6_begins_143 rfl rfl rfl ?_
      refine mb_iadd (pn := 145) dX6_begins_144 rfl ?_
      refine mb_iald (pn := 146) (n := 65536) rfl dX6_begins_145 rfl hr (fun hr => ?_)
      refine mb_nmI hr (fun y103 hr => ?_)
      refine mb_istore (pn := 148) (lv2 := [(5, .inl y103), (0, mb_F 6 0 0), (1, .inl v1), (2, .inl v2), (3, .inl v3), (4, .inl v4)]) dX6_begins_146 (by decide) rfl rfl ?_
      refine mb_iconst (v := (-1)) (pn := 149) dX6_begins_148 (by decide) rfl ?_
      refine mb_istore (pn := 151) (lv2 := [(6, .inl (-1)), (5, .inl y103), (0, mb_F 6 0 0), (1, .inl v1), (2, .inl v2), (3, .inl v3), (4, .inl v4)]) dX6_begins_149 (by decide) rfl rfl ?_
      refine mb_iload_n (pn := 152) 4 dX6_begins_151 rfl rfl rfl ?_
      refine mb_iconst (v := 1) (pn := 153) dX6_begins_152 (by decide) rfl ?_
      refine mb_isub (pn := 154) dX6_begins_153 rfl ?_
      refine mb_nmI hr (fun y104 hr => ?_)
      refine mb_istore (pn := 156) (lv2 := [(7, .inl y104), (6, .inl (-1)), (5, .inl y103), (0, mb_F 6 0 0), (1, .inl v1), (2, .inl v2), (3, .inl v3), (4, .inl v4)]) dX6_begins_154 (by decide) rfl rfl ?_
      exact mb_lvs [3, 4, 5, 6, 7, 2, 1, 0] rfl (T_X6_begins_156 hst hg ih mb_fu _ _ _ _ _ _ _ _ hr)
def B_X6_begins_73  : Nat → Int32 → Int32 → Int32 → mb_AH → Option mb_RS
  | 0, _, _, _, _ => none
  | n + 1, v1, v2, v3, h => (mb_gB 6 270 (if (h.1 20 0 0 (6 : Int32).toNatClampNeg) ≤ v3 then (mb_cV (F_X6_lays v1 v2 h) fun h101 => (B_X6_begins_129  mb_fu v1 v2 0 0 h101)) else (mb_cI (F_X6_ofBerth v3 (2 : Int32) h) fun y116 h115 => (if y116 = 0 then (mb_cI (F_X6_boatIn v3 h115) fun y119 h118 => (if y119 = (-1) then (mb_gB v2 16 (mb_up (mb_sI h118 25 0 0 v2.toNatClampNeg v3) fun h121 => (mb_lI (v2 + 1) fun y122 => (mb_lI (v3 + 1) fun y123 => ((B_X6_begins_73  n) v1 y122 y123 h121))))) else (mb_lI (v3 + 1) fun y120 => ((B_X6_begins_73  n) v1 v2 y120 h118)))) else (mb_lI (v3 + 1) fun y117 => ((B_X6_begins_73  n) v1 v2 y117 h115))))))
set_option maxRecDepth 100000 in
set_option maxHeartbeats 4000000 in
theorem T_X6_begins_73 {l : Launch} {G : mb_G} {res : mb_RS} (hst : l.stackTraces = false) (hg : mb_gok G)   : ∀ (n : Nat) (v1 : Int32) (v2 : Int32) (v3 : Int32) (h : mb_AH), B_X6_begins_73  n v1 v2 v3 h = some res → mb_Ev l G RX6 cX6_begins 8 none 5 73 [(0, mb_F 6 0 0), (1, .inl v1), (2, .inl v2), (3, .inl v3)] [] h res := by
  intro n
  induction n with
  | zero => intro v1 v2 v3 h hr; cases hr
  | succ n ih =>
    intro v1 v2 v3 h hr
    rw [B_X6_begins_73] at hr
    refine mb_iload_n (pn := 74) 3 dX6_begins_73 rfl rfl rfl ?_
    refine mb_aload_n (pn := 75) 0 dX6_begins_74 rfl rfl rfl ?_
    refine gf_X6_7 (pn := 78) dX6_begins_75 rfl ?_
    refine mb_bipush (v := 6) (pn := 80) dX6_begins_78 (by decide) rfl ?_
    refine mb_iald (pn := 81) (n := 270) rfl dX6_begins_80 rfl hr (fun hr => ?_)
    refine mb_ic_ge (tgt := 118) (pn := 84) dX6_begins_81 (by decide) rfl hr (fun hr => ?_) (fun hr => ?_)
    · refine mb_aload_n (pn := 119) 0 dX6_begins_118 rfl rfl rfl ?_
      refine mb_iload_n (pn := 120) 1 dX6_begins_119 rfl rfl rfl ?_
      refine mb_iload_n (pn := 121) 2 dX6_begins_120 rfl rfl rfl ?_
      refine cl_X6_88 (pn := 124) hst hg (Nat.le_of_ble_eq_true rfl) (Nat.le_of_ble_eq_true rfl) dX6_begins_121 rfl hr (fun h101 hr => ?_)
      refine mb_iconst (v := 0) (pn := 125) dX6_begins_124 (by decide) rfl ?_
      refine mb_istore_n (pn := 126) (lv2 := [(3, .inl 0), (0, mb_F 6 0 0), (1, .inl v1), (2, .inl v2)]) dX6_begins_125 rfl (by decide) rfl rfl ?_
      refine mb_iconst (v := 0) (pn := 127) dX6_begins_126 (by decide) rfl ?_
      refine mb_istore (pn := 129) (lv2 := [(4, .inl 0), (3, .inl 0), (0, mb_F 6 0 0), (1, .inl v1), (2, .inl v2)]) dX6_begins_127 (by decide) rfl rfl ?_
      exact mb_lvs [2, 3, 4, 1, 0] rfl (T_X6_begins_129 hst hg  mb_fu _ _ _ _ _ hr)
    · refine mb_aload_n (pn := 85) 0 dX6_begins_84 rfl rfl rfl ?_
      refine mb_iload_n (pn := 86) 3 dX6_begins_85 rfl rfl rfl ?_
      refine mb_iconst (v := 2) (pn := 87) dX6_begins_86 (by decide) rfl ?_
      refine cl_X6_54 (pn := 90) hst hg (Nat.le_of_ble_eq_true rfl) (Nat.le_of_ble_eq_true rfl) dX6_begins_87 rfl hr (fun y116 h115 hr => ?_)
      refine mb_if_ne (tgt := 112) (pn := 93) dX6_begins_90 (by decide) rfl hr (fun hr => ?_) (fun hr => ?_)
      · refine mb_nmx hr (fun y117 qy117 hr => ?_)
        refine mb_iinc (v := y117) (pn := 115) (lv2 := [(3, .inl y117), (0, mb_F 6 0 0), (1, .inl v1), (2, .inl v2)]) 3 dX6_begins_112 rfl (by rw [qy117]; rfl) (by decide) rfl rfl ?_
        refine mb_goto (tgt := 73) dX6_begins_115 (by decide) ?_
        exact mb_lvs [1, 2, 3, 0] rfl (ih _ _ _ _ hr)
      · refine mb_aload_n (pn := 94) 0 dX6_begins_93 rfl rfl rfl ?_
        refine mb_iload_n (pn := 95) 3 dX6_begins_94 rfl rfl rfl ?_
        refine cl_X6_68 (pn := 98) hst hg (Nat.le_of_ble_eq_true rfl) (Nat.le_of_ble_eq_true rfl) dX6_begins_95 rfl hr (fun y119 h118 hr => ?_)
        refine mb_iconst (v := (-1)) (pn := 99) dX6_begins_98 (by decide) rfl ?_
        refine mb_ic_ne (tgt := 112) (pn := 102) dX6_begins_99 (by decide) rfl hr (fun hr => ?_) (fun hr => ?_)
        · refine mb_nmx hr (fun y120 qy120 hr => ?_)
          refine mb_iinc (v := y120) (pn := 115) (lv2 := [(3, .inl y120), (0, mb_F 6 0 0), (1, .inl v1), (2, .inl v2)]) 3 dX6_begins_112 rfl (by rw [qy120]; rfl) (by decide) rfl rfl ?_
          refine mb_goto (tgt := 73) dX6_begins_115 (by decide) ?_
          exact mb_lvs [1, 2, 3, 0] rfl (ih _ _ _ _ hr)
        · refine mb_aload_n (pn := 103) 0 dX6_begins_102 rfl rfl rfl ?_
          refine gf_X6_25 (pn := 106) dX6_begins_103 rfl ?_
          refine mb_iload_n (pn := 107) 2 dX6_begins_106 rfl rfl rfl ?_
          refine mb_iload_n (pn := 108) 3 dX6_begins_107 rfl rfl rfl ?_
          refine mb_iast (pn := 109) (n := 16) rfl rfl dX6_begins_108 rfl hr (fun hr => ?_)
          refine mb_nmh hr (fun h121 hr => ?_)
          refine mb_nmx hr (fun y122 qy122 hr => ?_)
          refine mb_iinc (v := y122) (pn := 112) (lv2 := [(2, .inl y122), (0, mb_F 6 0 0), (1, .inl v1), (3, .inl v3)]) 2 dX6_begins_109 rfl (by rw [qy122]; rfl) (by decide) rfl rfl ?_
          refine mb_nmx hr (fun y123 qy123 hr => ?_)
          refine mb_iinc (v := y123) (pn := 115) (lv2 := [(3, .inl y123), (2, .inl y122), (0, mb_F 6 0 0), (1, .inl v1)]) 3 dX6_begins_112 rfl (by rw [qy123]; rfl) (by decide) rfl rfl ?_
          refine mb_goto (tgt := 73) dX6_begins_115 (by decide) ?_
          exact mb_lvs [2, 3, 1, 0] rfl (ih _ _ _ _ hr)
def B_X6_begins_4  : Nat → Int32 → Int32 → mb_AH → Option mb_RS
  | 0, _, _, _ => none
  | n + 1, v1, v2, h => (mb_gB 7 270 (if (h.1 20 0 0 (7 : Int32).toNatClampNeg) ≤ v2 then (B_X6_begins_73  mb_fu v1 0 0 h) else (mb_cI (F_X6_ofBoat v2 (3 : Int32) h) fun y125 h124 => (if y125 = 1 then (mb_cI (F_X6_ofBoat v2 (4 : Int32) h124) fun y128 h127 => (mb_cI (F_X6_ofBerth y128 (2 : Int32) h127) fun y130 h129 => (if y130 = 1 then (mb_gB v1 20 (mb_up (mb_sI h129 24 0 0 v1.toNatClampNeg v2) fun h132 => (mb_lI (v1 + 1) fun y133 => (mb_cI (F_X6_ofBoat v2 (4 : Int32) h132) fun y135 h134 => (mb_cV (F_X6_sets v2 (7 : Int32) y135 h134) fun h136 => (mb_lI (v2 + 1) fun y137 => ((B_X6_begins_4  n) y133 y137 h136))))))) else (mb_lI (v2 + 1) fun y131 => ((B_X6_begins_4  n) v1 y131 h129))))) else (mb_lI (v2 + 1) fun y126 => ((B_X6_begins_4  n) v1 y126 h124))))))
set_option maxRecDepth 100000 in
set_option maxHeartbeats 4000000 in
theorem T_X6_begins_4 {l : Launch} {G : mb_G} {res : mb_RS} (hst : l.stackTraces = false) (hg : mb_gok G)   : ∀ (n : Nat) (v1 : Int32) (v2 : Int32) (h : mb_AH), B_X6_begins_4  n v1 v2 h = some res → mb_Ev l G RX6 cX6_begins 8 none 5 4 [(0, mb_F 6 0 0), (1, .inl v1), (2, .inl v2)] [] h res := by
  intro n
  induction n with
  | zero => intro v1 v2 h hr; cases hr
  | succ n ih =>
    intro v1 v2 h hr
    rw [B_X6_begins_4] at hr
    refine mb_iload_n (pn := 5) 2 dX6_begins_4 rfl rfl rfl ?_
    refine mb_aload_n (pn := 6) 0 dX6_begins_5 rfl rfl rfl ?_
    refine gf_X6_7 (pn := 9) dX6_begins_6 rfl ?_
    refine mb_bipush (v := 7) (pn := 11) dX6_begins_9 (by decide) rfl ?_
    refine mb_iald (pn := 12) (n := 270) rfl dX6_begins_11 rfl hr (fun hr => ?_)
    refine mb_ic_ge (tgt := 69) (pn := 15) dX6_begins_12 (by decide) rfl hr (fun hr => ?_) (fun hr => ?_)
    · refine mb_iconst (v := 0) (pn := 70) dX6_begins_69 (by decide) rfl ?_
      refine mb_istore_n (pn := 71) (lv2 := [(2, .inl 0), (0, mb_F 6 0 0), (1, .inl v1)]) dX6_begins_70 rfl (by decide) rfl rfl ?_
      refine mb_iconst (v := 0) (pn := 72) dX6_begins_71 (by decide) rfl ?_
      refine mb_istore_n (pn := 73) (lv2 := [(3, .inl 0), (2, .inl 0), (0, mb_F 6 0 0), (1, .inl v1)]) dX6_begins_72 rfl (by decide) rfl rfl ?_
      exact mb_lvs [2, 3, 1, 0] rfl (T_X6_begins_73 hst hg  mb_fu _ _ _ _ hr)
    · refine mb_aload_n (pn := 16) 0 dX6_begins_15 rfl rfl rfl ?_
      refine mb_iload_n (pn := 17) 2 dX6_begins_16 rfl rfl rfl ?_
      refine mb_iconst (v := 3) (pn := 18) dX6_begins_17 (by decide) rfl ?_
      refine cl_X6_50 (pn := 21) hst hg (Nat.le_of_ble_eq_true rfl) (Nat.le_of_ble_eq_true rfl) dX6_begins_18 rfl hr (fun y125 h124 hr => ?_)
      refine mb_iconst (v := 1) (pn := 22) dX6_begins_21 (by decide) rfl ?_
      refine mb_ic_ne (tgt := 63) (pn := 25) dX6_begins_22 (by decide) rfl hr (fun hr => ?_) (fun hr => ?_)
      · refine mb_nmx hr (fun y126 qy126 hr => ?_)
        refine mb_iinc (v := y126) (pn := 66) (lv2 := [(2, .inl y126), (0, mb_F 6 0 0), (1, .inl v1)]) 2 dX6_begins_63 rfl (by rw [qy126]; rfl) (by decide) rfl rfl ?_
        refine mb_goto (tgt := 4) dX6_begins_66 (by decide) ?_
        exact mb_lvs [1, 2, 0] rfl (ih _ _ _ hr)
      · refine mb_aload_n (pn := 26) 0 dX6_begins_25 rfl rfl rfl ?_
        refine mb_aload_n (pn := 27) 0 dX6_begins_26 rfl rfl rfl ?_
        refine mb_iload_n (pn := 28) 2 dX6_begins_27 rfl rfl rfl ?_
        refine mb_iconst (v := 4) (pn := 29) dX6_begins_28 (by decide) rfl ?_
        refine cl_X6_50 (pn := 32) hst hg (Nat.le_of_ble_eq_true rfl) (Nat.le_of_ble_eq_true rfl) dX6_begins_29 rfl hr (fun y128 h127 hr => ?_)
        refine mb_iconst (v := 2) (pn := 33) dX6_begins_32 (by decide) rfl ?_
        refine cl_X6_54 (pn := 36) hst hg (Nat.le_of_ble_eq_true rfl) (Nat.le_of_ble_eq_true rfl) dX6_begins_33 rfl hr (fun y130 h129 hr => ?_)
        refine mb_iconst (v := 1) (pn := 37) dX6_begins_36 (by decide) rfl ?_
        refine mb_ic_ne (tgt := 63) (pn := 40) dX6_begins_37 (by decide) rfl hr (fun hr => ?_) (fun hr => ?_)
        · refine mb_nmx hr (fun y131 qy131 hr => ?_)
          refine mb_iinc (v := y131) (pn := 66) (lv2 := [(2, .inl y131), (0, mb_F 6 0 0), (1, .inl v1)]) 2 dX6_begins_63 rfl (by rw [qy131]; rfl) (by decide) rfl rfl ?_
          refine mb_goto (tgt := 4) dX6_begins_66 (by decide) ?_
          exact mb_lvs [1, 2, 0] rfl (ih _ _ _ hr)
        · refine mb_aload_n (pn := 41) 0 dX6_begins_40 rfl rfl rfl ?_
          refine gf_X6_22 (pn := 44) dX6_begins_41 rfl ?_
          refine mb_iload_n (pn := 45) 1 dX6_begins_44 rfl rfl rfl ?_
          refine mb_iload_n (pn := 46) 2 dX6_begins_45 rfl rfl rfl ?_
          refine mb_iast (pn := 47) (n := 20) rfl rfl dX6_begins_46 rfl hr (fun hr => ?_)
          refine mb_nmh hr (fun h132 hr => ?_)
          refine mb_nmx hr (fun y133 qy133 hr => ?_)
          refine mb_iinc (v := y133) (pn := 50) (lv2 := [(1, .inl y133), (0, mb_F 6 0 0), (2, .inl v2)]) 1 dX6_begins_47 rfl (by rw [qy133]; rfl) (by decide) rfl rfl ?_
          refine mb_aload_n (pn := 51) 1 dX6_begins_50 rfl rfl rfl ?_
          refine mb_iload_n (pn := 52) 2 dX6_begins_51 rfl rfl rfl ?_
          refine mb_bipush (v := 7) (pn := 54) dX6_begins_52 (by decide) rfl ?_
          refine mb_aload_n (pn := 55) 1 dX6_begins_54 rfl rfl rfl ?_
          refine mb_iload_n (pn := 56) 2 dX6_begins_55 rfl rfl rfl ?_
          refine mb_iconst (v := 4) (pn := 57) dX6_begins_56 (by decide) rfl ?_
          refine cl_X6_50 (pn := 60) hst hg (Nat.le_of_ble_eq_true rfl) (Nat.le_of_ble_eq_true rfl) dX6_begins_57 rfl hr (fun y135 h134 hr => ?_)
          refine cl_X6_75 (pn := 63) hst hg (Nat.le_of_ble_eq_true rfl) (Nat.le_of_ble_eq_true rfl) dX6_begins_60 rfl hr (fun h136 hr => ?_)
          refine mb_nmx hr (fun y137 qy137 hr => ?_)
          refine mb_iinc (v := y137) (pn := 66) (lv2 := [(2, .inl y137), (1, .inl y133), (0, mb_F 6 0 0)]) 2 dX6_begins_63 rfl (by rw [qy137]; rfl) (by decide) rfl rfl ?_
          refine mb_goto (tgt := 4) dX6_begins_66 (by decide) ?_
          exact mb_lvs [2, 1, 0] rfl (ih _ _ _ hr)
def F_X6_begins  (h : mb_AH) : Option mb_RS := (B_X6_begins_4  mb_fu 0 0 h)
set_option maxRecDepth 100000 in
set_option maxHeartbeats 4000000 in
theorem C_X6_begins {l : Launch} {G : mb_G} (hst : l.stackTraces = false) (hg : mb_gok G)  {h : mb_AH} {res : mb_RS} (hr : F_X6_begins  h = some res) : mb_Mt l G yX6_begins cX6_begins 8 none 5 [mb_F 6 0 0] h res := by
  refine mb_entry (own := RX6) (lv := [(0, mb_F 6 0 0)]) (by decide +kernel) rfl (Nat.le_of_ble_eq_true rfl) rfl rfl (fun _ => ?_) hst hg
  unfold F_X6_begins at hr
  refine mb_iconst (v := 0) (pn := 1) dX6_begins_0 (by decide) rfl ?_
  refine mb_istore_n (pn := 2) (lv2 := [(1, .inl 0), (0, mb_F 6 0 0)]) dX6_begins_1 rfl (by decide) rfl rfl ?_
  refine mb_iconst (v := 0) (pn := 3) dX6_begins_2 (by decide) rfl ?_
  refine mb_istore_n (pn := 4) (lv2 := [(2, .inl 0), (1, .inl 0), (0, mb_F 6 0 0)]) dX6_begins_3 rfl (by decide) rfl rfl ?_
  exact mb_lvs [2, 1, 0] rfl (T_X6_begins_4 hst hg  mb_fu _ _ _ hr)
def B_X6_ends_77  : Nat → Int32 → mb_AH → Option mb_RS
  | 0, _, _ => none
  | n + 1, v1, h => (mb_gB 7 270 (if (h.1 20 0 0 (7 : Int32).toNatClampNeg) ≤ v1 then (mb_gB 5 270 (mb_up (mb_sI h 20 0 0 (5 : Int32).toNatClampNeg 0) fun h101 => (some (.inl none, h101)))) else (mb_cV (F_X6_sets v1 (7 : Int32) ((-1) : Int32) h) fun h102 => (mb_lI (v1 + 1) fun y103 => ((B_X6_ends_77  n) y103 h102)))))
set_option maxRecDepth 100000 in
set_option maxHeartbeats 4000000 in
theorem T_X6_ends_77 {l : Launch} {G : mb_G} {res : mb_RS} (hst : l.stackTraces = false) (hg : mb_gok G)   : ∀ (n : Nat) (v1 : Int32) (h : mb_AH), B_X6_ends_77  n v1 h = some res → mb_Ev l G RX6 cX6_ends 3 none 3 77 [(0, mb_F 6 0 0), (1, .inl v1)] [] h res := by
  intro n
  induction n with
  | zero => intro v1 h hr; cases hr
  | succ n ih =>
    intro v1 h hr
    rw [B_X6_ends_77] at hr
    refine mb_iload_n (pn := 78) 1 dX6_ends_77 rfl rfl rfl ?_
    refine mb_aload_n (pn := 79) 0 dX6_ends_78 rfl rfl rfl ?_
    refine gf_X6_7 (pn := 82) dX6_ends_79 rfl ?_
    refine mb_bipush (v := 7) (pn := 84) dX6_ends_82 (by decide) rfl ?_
    refine mb_iald (pn := 85) (n := 270) rfl dX6_ends_84 rfl hr (fun hr => ?_)
    refine mb_ic_ge (tgt := 102) (pn := 88) dX6_ends_85 (by decide) rfl hr (fun hr => ?_) (fun hr => ?_)
    · refine mb_aload_n (pn := 103) 0 dX6_ends_102 rfl rfl rfl ?_
      refine gf_X6_7 (pn := 106) dX6_ends_103 rfl ?_
      refine mb_iconst (v := 5) (pn := 107) dX6_ends_106 (by decide) rfl ?_
      refine mb_iconst (v := 0) (pn := 108) dX6_ends_107 (by decide) rfl ?_
      refine mb_iast (pn := 109) (n := 270) rfl rfl dX6_ends_108 rfl hr (fun hr => ?_)
      refine mb_nmh hr (fun h101 hr => ?_)
      cases hr
      exact mb_vret dX6_ends_109
    · refine mb_aload_n (pn := 89) 0 dX6_ends_88 rfl rfl rfl ?_
      refine mb_iload_n (pn := 90) 1 dX6_ends_89 rfl rfl rfl ?_
      refine mb_bipush (v := 7) (pn := 92) dX6_ends_90 (by decide) rfl ?_
      refine mb_iconst (v := (-1)) (pn := 93) dX6_ends_92 (by decide) rfl ?_
      refine cl_X6_75 (pn := 96) hst hg (Nat.le_of_ble_eq_true rfl) (Nat.le_of_ble_eq_true rfl) dX6_ends_93 rfl hr (fun h102 hr => ?_)
      refine mb_nmx hr (fun y103 qy103 hr => ?_)
      refine mb_iinc (v := y103) (pn := 99) (lv2 := [(1, .inl y103), (0, mb_F 6 0 0)]) 1 dX6_ends_96 rfl (by rw [qy103]; rfl) (by decide) rfl rfl ?_
      refine mb_goto (tgt := 77) dX6_ends_99 (by decide) ?_
      exact mb_lvs [1, 0] rfl (ih _ _ hr)
set_option maxRecDepth 100000 in
set_option maxHeartbeats 4000000 in
theorem cl_X6_99 {l : Launch} {G : mb_G} {cc : ByteArray} {nL : Nat} {ret : Option FieldType} {d pc pn : Nat} {lv : List (Nat × mb_AV)} {st : List mb_AV} {h : mb_AH} {res : mb_RS} (hst : l.stackTraces = false) (hg : mb_gok G) {x1 : Int32} {K : mb_AH → Option mb_RS} (hd2 : 2 + 1 ≤ d) (hs4 : st.length ≤ 4) (dg : decode cc pc = .ok (.invokevirtual 99, 3)) (hn : pc + 3 = pn) (hr : mb_cV (F_X6_waits x1 h) K = some res) (kk : ∀ (h2 : mb_AH), K h2 = some res → mb_Ev l G RX6 cc nL ret d pn lv st h2 res) : mb_Ev l G RX6 cc nL ret d pc lv (.inl x1 :: mb_F 6 0 0 :: st) h res := mb_kVV (as := [.inl x1]) (n := 1) (d2 := 2) (ci := 6) (fun _ hf => C_X6_waits hst hg hf) (mb_gV wl_X6_99 mi_X6_waits ms_X6_waits mn_X6 mc_X6_waits) (by decide +kernel) rfl rfl rfl hd2 (by decide) hs4 rfl dg hn hr kk
def B_X6_ends_54 (K2 : Int32 → mb_AH → Option mb_RS) (v1 : Int32) (h : mb_AH) : Option mb_RS := (mb_cI (F_X6_ofBoat v1 (3 : Int32) h) fun y110 h109 => (if y110 = 3 then (mb_cV (F_X6_waits v1 h109) fun h112 => (mb_lI (v1 + 1) fun y113 => (K2 y113 h112))) else (mb_lI (v1 + 1) fun y111 => (K2 y111 h109))))
set_option maxRecDepth 100000 in
set_option maxHeartbeats 4000000 in
theorem T_X6_ends_54 {l : Launch} {G : mb_G} {res : mb_RS} (hst : l.stackTraces = false) (hg : mb_gok G) {K2 : Int32 → mb_AH → Option mb_RS} (hK2 : ∀ (v1z : Int32) (hz : mb_AH), K2 v1z hz = some res → mb_Ev l G RX6 cX6_ends 3 none 3 2 [(0, mb_F 6 0 0), (1, .inl v1z)] [] hz res) {v1 : Int32} {h : mb_AH} (hr : B_X6_ends_54 K2 v1 h = some res) : mb_Ev l G RX6 cX6_ends 3 none 3 54 [(0, mb_F 6 0 0), (1, .inl v1)] [] h res := by
  unfold B_X6_ends_54 at hr
  refine mb_aload_n (pn := 55) 0 dX6_ends_54 rfl rfl rfl ?_
  refine mb_iload_n (pn := 56) 1 dX6_ends_55 rfl rfl rfl ?_
  refine mb_iconst (v := 3) (pn := 57) dX6_ends_56 (by decide) rfl ?_
  refine cl_X6_50 (pn := 60) hst hg (Nat.le_of_ble_eq_true rfl) (Nat.le_of_ble_eq_true rfl) dX6_ends_57 rfl hr (fun y110 h109 hr => ?_)
  refine mb_iconst (v := 3) (pn := 61) dX6_ends_60 (by decide) rfl ?_
  refine mb_ic_ne (tgt := 69) (pn := 64) dX6_ends_61 (by decide) rfl hr (fun hr => ?_) (fun hr => ?_)
  · refine mb_nmx hr (fun y111 qy111 hr => ?_)
    refine mb_iinc (v := y111) (pn := 72) (lv2 := [(1, .inl y111), (0, mb_F 6 0 0)]) 1 dX6_ends_69 rfl (by rw [qy111]; rfl) (by decide) rfl rfl ?_
    refine mb_goto (tgt := 2) dX6_ends_72 (by decide) ?_
    exact mb_lvs [1, 0] rfl (hK2 _ _ hr)
  · refine mb_aload_n (pn := 65) 0 dX6_ends_64 rfl rfl rfl ?_
    refine mb_iload_n (pn := 66) 1 dX6_ends_65 rfl rfl rfl ?_
    refine cl_X6_99 (pn := 69) hst hg (Nat.le_of_ble_eq_true rfl) (Nat.le_of_ble_eq_true rfl) dX6_ends_66 rfl hr (fun h112 hr => ?_)
    refine mb_nmx hr (fun y113 qy113 hr => ?_)
    refine mb_iinc (v := y113) (pn := 72) (lv2 := [(1, .inl y113), (0, mb_F 6 0 0)]) 1 dX6_ends_69 rfl (by rw [qy113]; rfl) (by decide) rfl rfl ?_
    refine mb_goto (tgt := 2) dX6_ends_72 (by decide) ?_
    exact mb_lvs [1, 0] rfl (hK2 _ _ hr)
def B_X6_ends_2  : Nat → Int32 → mb_AH → Option mb_RS
  | 0, _, _ => none
  | n + 1, v1, h => (mb_gB 7 270 (if (h.1 20 0 0 (7 : Int32).toNatClampNeg) ≤ v1 then (B_X6_ends_77  mb_fu 0 h) else (mb_cI (F_X6_ofBoat v1 (7 : Int32) h) fun y105 h104 => (if y105 = (-1) then (mb_lI (v1 + 1) fun y106 => ((B_X6_ends_2  n) y106 h104)) else (mb_cI (F_X6_boatIn y105 h104) fun y108 h107 => (if y108 = (-1) then (mb_cI (F_X6_isFit v1 y105 h107) fun y115 h114 => (if y115 = 0 then (B_X6_ends_54 (B_X6_ends_2  n) v1 h114) else (mb_cV (F_X6_puts v1 (1 : Int32) y105 h114) fun h116 => (mb_lI (v1 + 1) fun y117 => ((B_X6_ends_2  n) y117 h116))))) else (B_X6_ends_54 (B_X6_ends_2  n) v1 h107)))))))
set_option maxRecDepth 100000 in
set_option maxHeartbeats 4000000 in
theorem T_X6_ends_2 {l : Launch} {G : mb_G} {res : mb_RS} (hst : l.stackTraces = false) (hg : mb_gok G)   : ∀ (n : Nat) (v1 : Int32) (h : mb_AH), B_X6_ends_2  n v1 h = some res → mb_Ev l G RX6 cX6_ends 3 none 3 2 [(0, mb_F 6 0 0), (1, .inl v1)] [] h res := by
  intro n
  induction n with
  | zero => intro v1 h hr; cases hr
  | succ n ih =>
    intro v1 h hr
    rw [B_X6_ends_2] at hr
    refine mb_iload_n (pn := 3) 1 dX6_ends_2 rfl rfl rfl ?_
    refine mb_aload_n (pn := 4) 0 dX6_ends_3 rfl rfl rfl ?_
    refine gf_X6_7 (pn := 7) dX6_ends_4 rfl ?_
    refine mb_bipush (v := 7) (pn := 9) dX6_ends_7 (by decide) rfl ?_
    refine mb_iald (pn := 10) (n := 270) rfl dX6_ends_9 rfl hr (fun hr => ?_)
    refine mb_ic_ge (tgt := 75) (pn := 13) dX6_ends_10 (by decide) rfl hr (fun hr => ?_) (fun hr => ?_)
    · refine mb_iconst (v := 0) (pn := 76) dX6_ends_75 (by decide) rfl ?_
      refine mb_istore_n (pn := 77) (lv2 := [(1, .inl 0), (0, mb_F 6 0 0)]) dX6_ends_76 rfl (by decide) rfl rfl ?_
      exact mb_lvs [1, 0] rfl (T_X6_ends_77 hst hg  mb_fu _ _ hr)
    · refine mb_aload_n (pn := 14) 0 dX6_ends_13 rfl rfl rfl ?_
      refine mb_iload_n (pn := 15) 1 dX6_ends_14 rfl rfl rfl ?_
      refine mb_bipush (v := 7) (pn := 17) dX6_ends_15 (by decide) rfl ?_
      refine cl_X6_50 (pn := 20) hst hg (Nat.le_of_ble_eq_true rfl) (Nat.le_of_ble_eq_true rfl) dX6_ends_17 rfl hr (fun y105 h104 hr => ?_)
      refine mb_istore_n (pn := 21) (lv2 := [(2, .inl y105), (0, mb_F 6 0 0), (1, .inl v1)]) dX6_ends_20 rfl (by decide) rfl rfl ?_
      refine mb_iload_n (pn := 22) 0 dX6_ends_21 rfl rfl rfl ?_
      refine mb_iconst (v := (-1)) (pn := 23) dX6_ends_22 (by decide) rfl ?_
      refine mb_ic_eq (tgt := 69) (pn := 26) dX6_ends_23 (by decide) rfl hr (fun hr => ?_) (fun hr => ?_)
      · refine mb_nmx hr (fun y106 qy106 hr => ?_)
        refine mb_iinc (v := y106) (pn := 72) (lv2 := [(1, .inl y106), (2, .inl y105), (0, mb_F 6 0 0)]) 2 dX6_ends_69 rfl (by rw [qy106]; rfl) (by decide) rfl rfl ?_
        refine mb_goto (tgt := 2) dX6_ends_72 (by decide) ?_
        exact mb_lvs [2, 0] rfl (ih _ _ hr)
      · refine mb_aload_n (pn := 27) 1 dX6_ends_26 rfl rfl rfl ?_
        refine mb_iload_n (pn := 28) 0 dX6_ends_27 rfl rfl rfl ?_
        refine cl_X6_68 (pn := 31) hst hg (Nat.le_of_ble_eq_true rfl) (Nat.le_of_ble_eq_true rfl) dX6_ends_28 rfl hr (fun y108 h107 hr => ?_)
        refine mb_iconst (v := (-1)) (pn := 32) dX6_ends_31 (by decide) rfl ?_
        refine mb_ic_ne (tgt := 54) (pn := 35) dX6_ends_32 (by decide) rfl hr (fun hr => ?_) (fun hr => ?_)
        · exact mb_lvs [1, 2] rfl (T_X6_ends_54 hst hg ih hr)
        · refine mb_aload_n (pn := 36) 1 dX6_ends_35 rfl rfl rfl ?_
          refine mb_iload_n (pn := 37) 2 dX6_ends_36 rfl rfl rfl ?_
          refine mb_iload_n (pn := 38) 0 dX6_ends_37 rfl rfl rfl ?_
          refine cl_X6_96 (pn := 41) hst hg (Nat.le_of_ble_eq_true rfl) (Nat.le_of_ble_eq_true rfl) dX6_ends_38 rfl hr (fun y115 h114 hr => ?_)
          refine mb_if_eq (tgt := 54) (pn := 44) dX6_ends_41 (by decide) rfl hr (fun hr => ?_) (fun hr => ?_)
          · exact mb_lvs [1, 2] rfl (T_X6_ends_54 hst hg ih hr)
          · refine mb_aload_n (pn := 45) 1 dX6_ends_44 rfl rfl rfl ?_
            refine mb_iload_n (pn := 46) 2 dX6_ends_45 rfl rfl rfl ?_
            refine mb_iconst (v := 1) (pn := 47) dX6_ends_46 (by decide) rfl ?_
            refine mb_iload_n (pn := 48) 0 dX6_ends_47 rfl rfl rfl ?_
            refine cl_X6_79 (pn := 51) hst hg (Nat.le_of_ble_eq_true rfl) (Nat.le_of_ble_eq_true rfl) dX6_ends_48 rfl hr (fun h116 hr => ?_)
            refine mb_goto (tgt := 69) dX6_ends_51 (by decide) ?_
            refine mb_nmx hr (fun y117 qy117 hr => ?_)
            refine mb_iinc (v := y117) (pn := 72) (lv2 := [(1, .inl y117), (2, .inl y105), (0, mb_F 6 0 0)]) 2 dX6_ends_69 rfl (by rw [qy117]; rfl) (by decide) rfl rfl ?_
            refine mb_goto (tgt := 2) dX6_ends_72 (by decide) ?_
            exact mb_lvs [2, 0] rfl (ih _ _ hr)
def F_X6_ends  (h : mb_AH) : Option mb_RS := (B_X6_ends_2  mb_fu 0 h)
set_option maxRecDepth 100000 in
set_option maxHeartbeats 4000000 in
theorem C_X6_ends {l : Launch} {G : mb_G} (hst : l.stackTraces = false) (hg : mb_gok G)  {h : mb_AH} {res : mb_RS} (hr : F_X6_ends  h = some res) : mb_Mt l G yX6_ends cX6_ends 3 none 3 [mb_F 6 0 0] h res := by
  refine mb_entry (own := RX6) (lv := [(0, mb_F 6 0 0)]) (by decide +kernel) rfl (Nat.le_of_ble_eq_true rfl) rfl rfl (fun _ => ?_) hst hg
  unfold F_X6_ends at hr
  refine mb_iconst (v := 0) (pn := 1) dX6_ends_0 (by decide) rfl ?_
  refine mb_istore_n (pn := 2) (lv2 := [(1, .inl 0), (0, mb_F 6 0 0)]) dX6_ends_1 rfl (by decide) rfl rfl ?_
  exact mb_lvs [1, 0] rfl (T_X6_ends_2 hst hg  mb_fu _ _ hr)
def B_X6_fee_43  (v1 : Int32) (s0 : Int64) (h : mb_AH) : Option mb_RS := (mb_cI (F_X6_ofBoat v1 (0 : Int32) h) fun y104 h103 => (mb_gL 10 (some (.inl (some (.inl (((y104.toInt64 * s0) / 10).toInt32))), h103))))
set_option maxRecDepth 100000 in
set_option maxHeartbeats 4000000 in
theorem T_X6_fee_43 {l : Launch} {G : mb_G} {res : mb_RS} (hst : l.stackTraces = false) (hg : mb_gok G)   {v1 : Int32} {s0 : Int64} {h : mb_AH} (hr : B_X6_fee_43  v1 s0 h = some res) : mb_Ev l G RX6 cX6_fee 5 (some .int) 1 43 [(0, mb_F 6 0 0), (1, .inl v1)] [.inr (.inl s0)] h res := by
  unfold B_X6_fee_43 at hr
  refine mb_lstore_n (pn := 44) (lv2 := [(3, .inr (.inl s0)), (0, mb_F 6 0 0), (1, .inl v1)]) dX6_fee_43 rfl (by decide) rfl rfl ?_
  refine mb_aload_n (pn := 45) 1 dX6_fee_44 rfl rfl rfl ?_
  refine mb_iload_n (pn := 46) 2 dX6_fee_45 rfl rfl rfl ?_
  refine mb_iconst (v := 0) (pn := 47) dX6_fee_46 (by decide) rfl ?_
  refine cl_X6_50 (pn := 50) hst hg (Nat.le_of_ble_eq_true rfl) (Nat.le_of_ble_eq_true rfl) dX6_fee_47 rfl hr (fun y104 h103 hr => ?_)
  refine mb_i2l (pn := 51) dX6_fee_50 rfl ?_
  refine mb_lload_n (pn := 52) 0 dX6_fee_51 rfl rfl rfl ?_
  refine mb_lmul (pn := 53) dX6_fee_52 rfl ?_
  refine mb_ldc2 (v := 10) (pn := 56) wk_X6_103 dX6_fee_53 rfl ?_
  refine mb_ldiv (pn := 57) dX6_fee_56 rfl hr (fun hr => ?_)
  refine mb_l2i (pn := 58) dX6_fee_57 rfl ?_
  cases hr
  exact mb_iret dX6_fee_58
def F_X6_fee (x1 : Int32) (h : mb_AH) : Option mb_RS := (mb_cI (F_X6_ofBoat x1 (3 : Int32) h) fun y102 h101 => (if y102 = 1 then (mb_cI (F_X6_ofBoat x1 (4 : Int32) h101) fun y106 h105 => (mb_cI (F_X6_ofBerth y106 (3 : Int32) h105) fun y108 h107 => (B_X6_fee_43  x1 y108.toInt64 h107))) else (if y102 = 3 then (mb_gB 1 270 (B_X6_fee_43  x1 ((h101.1 20 0 0 (1 : Int32).toNatClampNeg).toInt64) h101)) else (B_X6_fee_43  x1 0 h101))))
set_option maxRecDepth 100000 in
set_option maxHeartbeats 4000000 in
theorem C_X6_fee {l : Launch} {G : mb_G} (hst : l.stackTraces = false) (hg : mb_gok G) {x1 : Int32} {h : mb_AH} {res : mb_RS} (hr : F_X6_fee x1 h = some res) : mb_Mt l G yX6_fee cX6_fee 5 (some .int) 1 [mb_F 6 0 0, .inl x1] h res := by
  refine mb_entry (own := RX6) (lv := [(0, mb_F 6 0 0), (1, .inl x1)]) (by decide +kernel) rfl (Nat.le_of_ble_eq_true rfl) rfl rfl (fun _ => ?_) hst hg
  unfold F_X6_fee at hr
  refine mb_aload_n (pn := 1) 0 dX6_fee_0 rfl rfl rfl ?_
  refine mb_iload_n (pn := 2) 1 dX6_fee_1 rfl rfl rfl ?_
  refine mb_iconst (v := 3) (pn := 3) dX6_fee_2 (by decide) rfl ?_
  refine cl_X6_50 (pn := 6) hst hg (Nat.le_of_ble_eq_true rfl) (Nat.le_of_ble_eq_true rfl) dX6_fee_3 rfl hr (fun y102 h101 hr => ?_)
  refine mb_istore_n (pn := 7) (lv2 := [(2, .inl y102), (0, mb_F 6 0 0), (1, .inl x1)]) dX6_fee_6 rfl (by decide) rfl rfl ?_
  refine mb_iload_n (pn := 8) 0 dX6_fee_7 rfl rfl rfl ?_
  refine mb_iconst (v := 1) (pn := 9) dX6_fee_8 (by decide) rfl ?_
  refine mb_ic_ne (tgt := 27) (pn := 12) dX6_fee_9 (by decide) rfl hr (fun hr => ?_) (fun hr => ?_)
  · refine mb_iload_n (pn := 28) 0 dX6_fee_27 rfl rfl rfl ?_
    refine mb_iconst (v := 3) (pn := 29) dX6_fee_28 (by decide) rfl ?_
    refine mb_ic_ne (tgt := 42) (pn := 32) dX6_fee_29 (by decide) rfl hr (fun hr => ?_) (fun hr => ?_)
    · refine mb_lconst (v := 0) (pn := 43) dX6_fee_42 (by decide) rfl ?_
      exact mb_lvs [1, 2] rfl (T_X6_fee_43 hst hg  hr)
    · refine mb_aload_n (pn := 33) 1 dX6_fee_32 rfl rfl rfl ?_
      refine gf_X6_7 (pn := 36) dX6_fee_33 rfl ?_
      refine mb_iconst (v := 1) (pn := 37) dX6_fee_36 (by decide) rfl ?_
      refine mb_iald (pn := 38) (n := 270) rfl dX6_fee_37 rfl hr (fun hr => ?_)
      refine mb_i2l (pn := 39) dX6_fee_38 rfl ?_
      refine mb_goto (tgt := 43) dX6_fee_39 (by decide) ?_
      exact mb_lvs [1, 2] rfl (T_X6_fee_43 hst hg  hr)
  · refine mb_aload_n (pn := 13) 1 dX6_fee_12 rfl rfl rfl ?_
    refine mb_aload_n (pn := 14) 1 dX6_fee_13 rfl rfl rfl ?_
    refine mb_iload_n (pn := 15) 2 dX6_fee_14 rfl rfl rfl ?_
    refine mb_iconst (v := 4) (pn := 16) dX6_fee_15 (by decide) rfl ?_
    refine cl_X6_50 (pn := 19) hst hg (Nat.le_of_ble_eq_true rfl) (Nat.le_of_ble_eq_true rfl) dX6_fee_16 rfl hr (fun y106 h105 hr => ?_)
    refine mb_iconst (v := 3) (pn := 20) dX6_fee_19 (by decide) rfl ?_
    refine cl_X6_54 (pn := 23) hst hg (Nat.le_of_ble_eq_true rfl) (Nat.le_of_ble_eq_true rfl) dX6_fee_20 rfl hr (fun y108 h107 hr => ?_)
    refine mb_i2l (pn := 24) dX6_fee_23 rfl ?_
    refine mb_goto (tgt := 43) dX6_fee_24 (by decide) ?_
    exact mb_lvs [1, 2] rfl (T_X6_fee_43 hst hg  hr)
set_option maxRecDepth 100000 in
set_option maxHeartbeats 4000000 in
theorem cl_X6_112 {l : Launch} {G : mb_G} {cc : ByteArray} {nL : Nat} {ret : Option FieldType} {d pc pn : Nat} {lv : List (Nat × mb_AV)} {st : List mb_AV} {h : mb_AH} {res : mb_RS} (hst : l.stackTraces = false) (hg : mb_gok G)  {K : mb_AH → Option mb_RS} (hd2 : 3 + 1 ≤ d) (hs4 : st.length ≤ 4) (dg : decode cc pc = .ok (.invokevirtual 112, 3)) (hn : pc + 3 = pn) (hr : mb_cV (F_X6_ends  h) K = some res) (kk : ∀ (h2 : mb_AH), K h2 = some res → mb_Ev l G RX6 cc nL ret d pn lv st h2 res) : mb_Ev l G RX6 cc nL ret d pc lv (mb_F 6 0 0 :: st) h res := mb_kVV (as := []) (n := 0) (d2 := 3) (ci := 6) (fun _ hf => C_X6_ends hst hg hf) (mb_gV wl_X6_112 mi_X6_ends ms_X6_ends mn_X6 mc_X6_ends) (by decide +kernel) rfl rfl rfl hd2 (by decide) hs4 rfl dg hn hr kk
def B_X6_passes_171  (v1 : Int32) (h : mb_AH) : Option mb_RS := (mb_gB 3 270 (if v1 = (h.1 20 0 0 (3 : Int32).toNatClampNeg) then (mb_gB 5 270 (if (h.1 20 0 0 (5 : Int32).toNatClampNeg) = 1 then (mb_cV (F_X6_ends h) fun h103 => (some (.inl (some (.inl 1)), h103))) else (some (.inl (some (.inl 0)), h)))) else (some (.inl (some (.inl 0)), h))))
set_option maxRecDepth 100000 in
set_option maxHeartbeats 4000000 in
theorem T_X6_passes_171 {l : Launch} {G : mb_G} {res : mb_RS} (hst : l.stackTraces = false) (hg : mb_gok G)   {v1 : Int32} {h : mb_AH} (hr : B_X6_passes_171  v1 h = some res) : mb_Ev l G RX6 cX6_passes 2 (some .int) 6 171 [(0, mb_F 6 0 0), (1, .inl v1)] [] h res := by
  unfold B_X6_passes_171 at hr
  refine mb_iload_n (pn := 172) 1 dX6_passes_171 rfl rfl rfl ?_
  refine mb_aload_n (pn := 173) 0 dX6_passes_172 rfl rfl rfl ?_
  refine gf_X6_7 (pn := 176) dX6_passes_173 rfl ?_
  refine mb_iconst (v := 3) (pn := 177) dX6_passes_176 (by decide) rfl ?_
  refine mb_iald (pn := 178) (n := 270) rfl dX6_passes_177 rfl hr (fun hr => ?_)
  refine mb_ic_ne (tgt := 197) (pn := 181) dX6_passes_178 (by decide) rfl hr (fun hr => ?_) (fun hr => ?_)
  · refine mb_iconst (v := 0) (pn := 198) dX6_passes_197 (by decide) rfl ?_
    cases hr
    exact mb_iret dX6_passes_198
  · refine mb_aload_n (pn := 182) 0 dX6_passes_181 rfl rfl rfl ?_
    refine gf_X6_7 (pn := 185) dX6_passes_182 rfl ?_
    refine mb_iconst (v := 5) (pn := 186) dX6_passes_185 (by decide) rfl ?_
    refine mb_iald (pn := 187) (n := 270) rfl dX6_passes_186 rfl hr (fun hr => ?_)
    refine mb_iconst (v := 1) (pn := 188) dX6_passes_187 (by decide) rfl ?_
    refine mb_ic_ne (tgt := 197) (pn := 191) dX6_passes_188 (by decide) rfl hr (fun hr => ?_) (fun hr => ?_)
    · refine mb_iconst (v := 0) (pn := 198) dX6_passes_197 (by decide) rfl ?_
      cases hr
      exact mb_iret dX6_passes_198
    · refine mb_aload_n (pn := 192) 0 dX6_passes_191 rfl rfl rfl ?_
      refine cl_X6_112 (pn := 195) hst hg (Nat.le_of_ble_eq_true rfl) (Nat.le_of_ble_eq_true rfl) dX6_passes_192 rfl hr (fun h103 hr => ?_)
      refine mb_iconst (v := 1) (pn := 196) dX6_passes_195 (by decide) rfl ?_
      cases hr
      exact mb_iret dX6_passes_196
set_option maxRecDepth 100000 in
set_option maxHeartbeats 4000000 in
theorem cl_X6_109 {l : Launch} {G : mb_G} {cc : ByteArray} {nL : Nat} {ret : Option FieldType} {d pc pn : Nat} {lv : List (Nat × mb_AV)} {st : List mb_AV} {h : mb_AH} {res : mb_RS} (hst : l.stackTraces = false) (hg : mb_gok G)  {K : mb_AH → Option mb_RS} (hd2 : 5 + 1 ≤ d) (hs4 : st.length ≤ 4) (dg : decode cc pc = .ok (.invokevirtual 109, 3)) (hn : pc + 3 = pn) (hr : mb_cV (F_X6_begins  h) K = some res) (kk : ∀ (h2 : mb_AH), K h2 = some res → mb_Ev l G RX6 cc nL ret d pn lv st h2 res) : mb_Ev l G RX6 cc nL ret d pc lv (mb_F 6 0 0 :: st) h res := mb_kVV (as := []) (n := 0) (d2 := 5) (ci := 6) (fun _ hf => C_X6_begins hst hg hf) (mb_gV wl_X6_109 mi_X6_begins ms_X6_begins mn_X6 mc_X6_begins) (by decide +kernel) rfl rfl rfl hd2 (by decide) hs4 rfl dg hn hr kk
def B_X6_passes_125 (K90 : Int32 → mb_AH → Option mb_RS) (v1 : Int32) (s0 : Int32) (s1 : Int32) (s2 : Int32) (s3 : Int32) (h : mb_AH) : Option mb_RS := (mb_cV (F_X6_sets s3 s2 (s1 + s0) h) fun h109 => (mb_lI (v1 + 1) fun y110 => (K90 y110 h109)))
set_option maxRecDepth 100000 in
set_option maxHeartbeats 4000000 in
theorem T_X6_passes_125 {l : Launch} {G : mb_G} {res : mb_RS} (hst : l.stackTraces = false) (hg : mb_gok G) {K90 : Int32 → mb_AH → Option mb_RS} (hK90 : ∀ (v1z : Int32) (hz : mb_AH), K90 v1z hz = some res → mb_Ev l G RX6 cX6_passes 2 (some .int) 6 90 [(0, mb_F 6 0 0), (1, .inl v1z)] [] hz res) {v1 : Int32} {s0 : Int32} {s1 : Int32} {s2 : Int32} {s3 : Int32} {h : mb_AH} (hr : B_X6_passes_125 K90 v1 s0 s1 s2 s3 h = some res) : mb_Ev l G RX6 cX6_passes 2 (some .int) 6 125 [(0, mb_F 6 0 0), (1, .inl v1)] [.inl s0, .inl s1, .inl s2, .inl s3, mb_F 6 0 0] h res := by
  unfold B_X6_passes_125 at hr
  refine mb_iadd (pn := 126) dX6_passes_125 rfl ?_
  refine cl_X6_75 (pn := 129) hst hg (Nat.le_of_ble_eq_true rfl) (Nat.le_of_ble_eq_true rfl) dX6_passes_126 rfl hr (fun h109 hr => ?_)
  refine mb_nmx hr (fun y110 qy110 hr => ?_)
  refine mb_iinc (v := y110) (pn := 132) (lv2 := [(1, .inl y110), (0, mb_F 6 0 0)]) 1 dX6_passes_129 rfl (by rw [qy110]; rfl) (by decide) rfl rfl ?_
  refine mb_goto (tgt := 90) dX6_passes_132 (by decide) ?_
  exact mb_lvs [1, 0] rfl (hK90 _ _ hr)
def B_X6_passes_90  : Nat → Int32 → mb_AH → Option mb_RS
  | 0, _, _ => none
  | n + 1, v1, h => (mb_gB 7 270 (if (h.1 20 0 0 (7 : Int32).toNatClampNeg) ≤ v1 then (mb_gB 4 270 (mb_g0 360 (mb_lI ((h.1 20 0 0 (4 : Int32).toNatClampNeg) - (h.1 20 0 0 (4 : Int32).toNatClampNeg) / 360 * 360) fun y102 => (mb_gB 2 270 (if y102 = (h.1 20 0 0 (2 : Int32).toNatClampNeg) then (mb_gB 5 270 (if (h.1 20 0 0 (5 : Int32).toNatClampNeg) = 0 then (mb_cV (F_X6_begins h) fun h104 => (some (.inl (some (.inl 1)), h104))) else (B_X6_passes_171  y102 h))) else (B_X6_passes_171  y102 h)))))) else (mb_cI (F_X6_ofBoat v1 (5 : Int32) h) fun y106 h105 => (mb_cI (F_X6_ofBoat v1 (3 : Int32) h105) fun y108 h107 => (if y108 = 2 then (B_X6_passes_125 (B_X6_passes_90  n) v1 1 y106 5 v1 h107) else (B_X6_passes_125 (B_X6_passes_90  n) v1 0 y106 5 v1 h107))))))
set_option maxRecDepth 100000 in
set_option maxHeartbeats 4000000 in
theorem T_X6_passes_90 {l : Launch} {G : mb_G} {res : mb_RS} (hst : l.stackTraces = false) (hg : mb_gok G)   : ∀ (n : Nat) (v1 : Int32) (h : mb_AH), B_X6_passes_90  n v1 h = some res → mb_Ev l G RX6 cX6_passes 2 (some .int) 6 90 [(0, mb_F 6 0 0), (1, .inl v1)] [] h res := by
  intro n
  induction n with
  | zero => intro v1 h hr; cases hr
  | succ n ih =>
    intro v1 h hr
    rw [B_X6_passes_90] at hr
    refine mb_iload_n (pn := 91) 1 dX6_passes_90 rfl rfl rfl ?_
    refine mb_aload_n (pn := 92) 0 dX6_passes_91 rfl rfl rfl ?_
    refine gf_X6_7 (pn := 95) dX6_passes_92 rfl ?_
    refine mb_bipush (v := 7) (pn := 97) dX6_passes_95 (by decide) rfl ?_
    refine mb_iald (pn := 98) (n := 270) rfl dX6_passes_97 rfl hr (fun hr => ?_)
    refine mb_ic_ge (tgt := 135) (pn := 101) dX6_passes_98 (by decide) rfl hr (fun hr => ?_) (fun hr => ?_)
    · refine mb_aload_n (pn := 136) 0 dX6_passes_135 rfl rfl rfl ?_
      refine gf_X6_7 (pn := 139) dX6_passes_136 rfl ?_
      refine mb_iconst (v := 4) (pn := 140) dX6_passes_139 (by decide) rfl ?_
      refine mb_iald (pn := 141) (n := 270) rfl dX6_passes_140 rfl hr (fun hr => ?_)
      refine mb_sipush (v := 360) (pn := 144) dX6_passes_141 (by decide) rfl ?_
      refine mb_irem (pn := 145) dX6_passes_144 rfl hr (fun hr => ?_)
      refine mb_nmI hr (fun y102 hr => ?_)
      refine mb_istore_n (pn := 146) (lv2 := [(1, .inl y102), (0, mb_F 6 0 0)]) dX6_passes_145 rfl (by decide) rfl rfl ?_
      refine mb_iload_n (pn := 147) 0 dX6_passes_146 rfl rfl rfl ?_
      refine mb_aload_n (pn := 148) 1 dX6_passes_147 rfl rfl rfl ?_
      refine gf_X6_7 (pn := 151) dX6_passes_148 rfl ?_
      refine mb_iconst (v := 2) (pn := 152) dX6_passes_151 (by decide) rfl ?_
      refine mb_iald (pn := 153) (n := 270) rfl dX6_passes_152 rfl hr (fun hr => ?_)
      refine mb_ic_ne (tgt := 171) (pn := 156) dX6_passes_153 (by decide) rfl hr (fun hr => ?_) (fun hr => ?_)
      · exact mb_lvs [1, 0] rfl (T_X6_passes_171 hst hg  hr)
      · refine mb_aload_n (pn := 157) 1 dX6_passes_156 rfl rfl rfl ?_
        refine gf_X6_7 (pn := 160) dX6_passes_157 rfl ?_
        refine mb_iconst (v := 5) (pn := 161) dX6_passes_160 (by decide) rfl ?_
        refine mb_iald (pn := 162) (n := 270) rfl dX6_passes_161 rfl hr (fun hr => ?_)
        refine mb_if_ne (tgt := 171) (pn := 165) dX6_passes_162 (by decide) rfl hr (fun hr => ?_) (fun hr => ?_)
        · exact mb_lvs [1, 0] rfl (T_X6_passes_171 hst hg  hr)
        · refine mb_aload_n (pn := 166) 1 dX6_passes_165 rfl rfl rfl ?_
          refine cl_X6_109 (pn := 169) hst hg (Nat.le_of_ble_eq_true rfl) (Nat.le_of_ble_eq_true rfl) dX6_passes_166 rfl hr (fun h104 hr => ?_)
          refine mb_iconst (v := 1) (pn := 170) dX6_passes_169 (by decide) rfl ?_
          cases hr
          exact mb_iret dX6_passes_170
    · refine mb_aload_n (pn := 102) 0 dX6_passes_101 rfl rfl rfl ?_
      refine mb_iload_n (pn := 103) 1 dX6_passes_102 rfl rfl rfl ?_
      refine mb_iconst (v := 5) (pn := 104) dX6_passes_103 (by decide) rfl ?_
      refine mb_aload_n (pn := 105) 0 dX6_passes_104 rfl rfl rfl ?_
      refine mb_iload_n (pn := 106) 1 dX6_passes_105 rfl rfl rfl ?_
      refine mb_iconst (v := 5) (pn := 107) dX6_passes_106 (by decide) rfl ?_
      refine cl_X6_50 (pn := 110) hst hg (Nat.le_of_ble_eq_true rfl) (Nat.le_of_ble_eq_true rfl) dX6_passes_107 rfl hr (fun y106 h105 hr => ?_)
      refine mb_aload_n (pn := 111) 0 dX6_passes_110 rfl rfl rfl ?_
      refine mb_iload_n (pn := 112) 1 dX6_passes_111 rfl rfl rfl ?_
      refine mb_iconst (v := 3) (pn := 113) dX6_passes_112 (by decide) rfl ?_
      refine cl_X6_50 (pn := 116) hst hg (Nat.le_of_ble_eq_true rfl) (Nat.le_of_ble_eq_true rfl) dX6_passes_113 rfl hr (fun y108 h107 hr => ?_)
      refine mb_iconst (v := 2) (pn := 117) dX6_passes_116 (by decide) rfl ?_
      refine mb_ic_ne (tgt := 124) (pn := 120) dX6_passes_117 (by decide) rfl hr (fun hr => ?_) (fun hr => ?_)
      · refine mb_iconst (v := 0) (pn := 125) dX6_passes_124 (by decide) rfl ?_
        exact mb_lvs [0, 1] rfl (T_X6_passes_125 hst hg ih hr)
      · refine mb_iconst (v := 1) (pn := 121) dX6_passes_120 (by decide) rfl ?_
        refine mb_goto (tgt := 125) dX6_passes_121 (by decide) ?_
        exact mb_lvs [0, 1] rfl (T_X6_passes_125 hst hg ih hr)
set_option maxRecDepth 100000 in
set_option maxHeartbeats 4000000 in
theorem cl_X6_105 {l : Launch} {G : mb_G} {cc : ByteArray} {nL : Nat} {ret : Option FieldType} {d pc pn : Nat} {lv : List (Nat × mb_AV)} {st : List mb_AV} {h : mb_AH} {res : mb_RS} (hst : l.stackTraces = false) (hg : mb_gok G) {x1 : Int32} {K : Int32 → mb_AH → Option mb_RS} (hd2 : 1 + 1 ≤ d) (hs4 : st.length ≤ 4) (dg : decode cc pc = .ok (.invokevirtual 105, 3)) (hn : pc + 3 = pn) (hr : mb_cI (F_X6_fee x1 h) K = some res) (kk : ∀ (x : Int32) (h2 : mb_AH), K x h2 = some res → mb_Ev l G RX6 cc nL ret d pn lv (.inl x :: st) h2 res) : mb_Ev l G RX6 cc nL ret d pc lv (.inl x1 :: mb_F 6 0 0 :: st) h res := mb_kVI (as := [.inl x1]) (n := 1) (d2 := 1) (ci := 6) (fun _ hf => C_X6_fee hst hg hf) (mb_gV wl_X6_105 mi_X6_fee ms_X6_fee mn_X6 mc_X6_fee) (by decide +kernel) rfl rfl rfl hd2 (by decide) hs4 rfl dg hn hr kk
def B_X6_passes_41  : Nat → Int32 → mb_AH → Option mb_RS
  | 0, _, _ => none
  | n + 1, v1, h => (mb_gB 7 270 (if (h.1 20 0 0 (7 : Int32).toNatClampNeg) ≤ v1 then (mb_gB 4 270 (mb_gB 4 270 (mb_up (mb_sI h 20 0 0 (4 : Int32).toNatClampNeg ((h.1 20 0 0 (4 : Int32).toNatClampNeg) + 1)) fun h101 => (B_X6_passes_90  mb_fu 0 h101)))) else (mb_cI (F_X6_ofBoat v1 (8 : Int32) h) fun y112 h111 => (mb_cI (F_X6_fee v1 h111) fun y114 h113 => (mb_cV (F_X6_sets v1 (8 : Int32) (y112 + y114) h113) fun h115 => (mb_lI (v1 + 1) fun y116 => ((B_X6_passes_41  n) y116 h115)))))))
set_option maxRecDepth 100000 in
set_option maxHeartbeats 4000000 in
theorem T_X6_passes_41 {l : Launch} {G : mb_G} {res : mb_RS} (hst : l.stackTraces = false) (hg : mb_gok G)   : ∀ (n : Nat) (v1 : Int32) (h : mb_AH), B_X6_passes_41  n v1 h = some res → mb_Ev l G RX6 cX6_passes 2 (some .int) 6 41 [(0, mb_F 6 0 0), (1, .inl v1)] [] h res := by
  intro n
  induction n with
  | zero => intro v1 h hr; cases hr
  | succ n ih =>
    intro v1 h hr
    rw [B_X6_passes_41] at hr
    refine mb_iload_n (pn := 42) 1 dX6_passes_41 rfl rfl rfl ?_
    refine mb_aload_n (pn := 43) 0 dX6_passes_42 rfl rfl rfl ?_
    refine gf_X6_7 (pn := 46) dX6_passes_43 rfl ?_
    refine mb_bipush (v := 7) (pn := 48) dX6_passes_46 (by decide) rfl ?_
    refine mb_iald (pn := 49) (n := 270) rfl dX6_passes_48 rfl hr (fun hr => ?_)
    refine mb_ic_ge (tgt := 78) (pn := 52) dX6_passes_49 (by decide) rfl hr (fun hr => ?_) (fun hr => ?_)
    · refine mb_aload_n (pn := 79) 0 dX6_passes_78 rfl rfl rfl ?_
      refine gf_X6_7 (pn := 82) dX6_passes_79 rfl ?_
      refine mb_iconst (v := 4) (pn := 83) dX6_passes_82 (by decide) rfl ?_
      refine mb_dup2 (pn := 84) rfl rfl dX6_passes_83 rfl ?_
      refine mb_iald (pn := 85) (n := 270) rfl dX6_passes_84 rfl hr (fun hr => ?_)
      refine mb_iconst (v := 1) (pn := 86) dX6_passes_85 (by decide) rfl ?_
      refine mb_iadd (pn := 87) dX6_passes_86 rfl ?_
      refine mb_iast (pn := 88) (n := 270) rfl rfl dX6_passes_87 rfl hr (fun hr => ?_)
      refine mb_nmh hr (fun h101 hr => ?_)
      refine mb_iconst (v := 0) (pn := 89) dX6_passes_88 (by decide) rfl ?_
      refine mb_istore_n (pn := 90) (lv2 := [(1, .inl 0), (0, mb_F 6 0 0)]) dX6_passes_89 rfl (by decide) rfl rfl ?_
      exact mb_lvs [1, 0] rfl (T_X6_passes_90 hst hg  mb_fu _ _ hr)
    · refine mb_aload_n (pn := 53) 0 dX6_passes_52 rfl rfl rfl ?_
      refine mb_iload_n (pn := 54) 1 dX6_passes_53 rfl rfl rfl ?_
      refine mb_bipush (v := 8) (pn := 56) dX6_passes_54 (by decide) rfl ?_
      refine mb_aload_n (pn := 57) 0 dX6_passes_56 rfl rfl rfl ?_
      refine mb_iload_n (pn := 58) 1 dX6_passes_57 rfl rfl rfl ?_
      refine mb_bipush (v := 8) (pn := 60) dX6_passes_58 (by decide) rfl ?_
      refine cl_X6_50 (pn := 63) hst hg (Nat.le_of_ble_eq_true rfl) (Nat.le_of_ble_eq_true rfl) dX6_passes_60 rfl hr (fun y112 h111 hr => ?_)
      refine mb_aload_n (pn := 64) 0 dX6_passes_63 rfl rfl rfl ?_
      refine mb_iload_n (pn := 65) 1 dX6_passes_64 rfl rfl rfl ?_
      refine cl_X6_105 (pn := 68) hst hg (Nat.le_of_ble_eq_true rfl) (Nat.le_of_ble_eq_true rfl) dX6_passes_65 rfl hr (fun y114 h113 hr => ?_)
      refine mb_iadd (pn := 69) dX6_passes_68 rfl ?_
      refine cl_X6_75 (pn := 72) hst hg (Nat.le_of_ble_eq_true rfl) (Nat.le_of_ble_eq_true rfl) dX6_passes_69 rfl hr (fun h115 hr => ?_)
      refine mb_nmx hr (fun y116 qy116 hr => ?_)
      refine mb_iinc (v := y116) (pn := 75) (lv2 := [(1, .inl y116), (0, mb_F 6 0 0)]) 1 dX6_passes_72 rfl (by rw [qy116]; rfl) (by decide) rfl rfl ?_
      refine mb_goto (tgt := 41) dX6_passes_75 (by decide) ?_
      exact mb_lvs [1, 0] rfl (ih _ _ hr)
def B_X6_passes_2  : Nat → Int32 → mb_AH → Option mb_RS
  | 0, _, _ => none
  | n + 1, v1, h => (mb_gB 7 270 (if (h.1 20 0 0 (7 : Int32).toNatClampNeg) ≤ v1 then (B_X6_passes_41  mb_fu 0 h) else (mb_cI (F_X6_fee v1 h) fun y118 h117 => (mb_cI (F_X6_ofBoat v1 (8 : Int32) h117) fun y120 h119 => (if y118 ≤ ((2147483647 : Int32) - y120) then (mb_lI (v1 + 1) fun y121 => ((B_X6_passes_2  n) y121 h119)) else (some (.inl (some (.inl (-1))), h119)))))))
set_option maxRecDepth 100000 in
set_option maxHeartbeats 4000000 in
theorem T_X6_passes_2 {l : Launch} {G : mb_G} {res : mb_RS} (hst : l.stackTraces = false) (hg : mb_gok G)   : ∀ (n : Nat) (v1 : Int32) (h : mb_AH), B_X6_passes_2  n v1 h = some res → mb_Ev l G RX6 cX6_passes 2 (some .int) 6 2 [(0, mb_F 6 0 0), (1, .inl v1)] [] h res := by
  intro n
  induction n with
  | zero => intro v1 h hr; cases hr
  | succ n ih =>
    intro v1 h hr
    rw [B_X6_passes_2] at hr
    refine mb_iload_n (pn := 3) 1 dX6_passes_2 rfl rfl rfl ?_
    refine mb_aload_n (pn := 4) 0 dX6_passes_3 rfl rfl rfl ?_
    refine gf_X6_7 (pn := 7) dX6_passes_4 rfl ?_
    refine mb_bipush (v := 7) (pn := 9) dX6_passes_7 (by decide) rfl ?_
    refine mb_iald (pn := 10) (n := 270) rfl dX6_passes_9 rfl hr (fun hr => ?_)
    refine mb_ic_ge (tgt := 39) (pn := 13) dX6_passes_10 (by decide) rfl hr (fun hr => ?_) (fun hr => ?_)
    · refine mb_iconst (v := 0) (pn := 40) dX6_passes_39 (by decide) rfl ?_
      refine mb_istore_n (pn := 41) (lv2 := [(1, .inl 0), (0, mb_F 6 0 0)]) dX6_passes_40 rfl (by decide) rfl rfl ?_
      exact mb_lvs [1, 0] rfl (T_X6_passes_41 hst hg  mb_fu _ _ hr)
    · refine mb_aload_n (pn := 14) 0 dX6_passes_13 rfl rfl rfl ?_
      refine mb_iload_n (pn := 15) 1 dX6_passes_14 rfl rfl rfl ?_
      refine cl_X6_105 (pn := 18) hst hg (Nat.le_of_ble_eq_true rfl) (Nat.le_of_ble_eq_true rfl) dX6_passes_15 rfl hr (fun y118 h117 hr => ?_)
      refine mb_ldc (v := 2147483647) (pn := 20) wk_X6_108 dX6_passes_18 rfl ?_
      refine mb_aload_n (pn := 21) 0 dX6_passes_20 rfl rfl rfl ?_
      refine mb_iload_n (pn := 22) 1 dX6_passes_21 rfl rfl rfl ?_
      refine mb_bipush (v := 8) (pn := 24) dX6_passes_22 (by decide) rfl ?_
      refine cl_X6_50 (pn := 27) hst hg (Nat.le_of_ble_eq_true rfl) (Nat.le_of_ble_eq_true rfl) dX6_passes_24 rfl hr (fun y120 h119 hr => ?_)
      refine mb_isub (pn := 28) dX6_passes_27 rfl ?_
      refine mb_ic_le (tgt := 33) (pn := 31) dX6_passes_28 (by decide) rfl hr (fun hr => ?_) (fun hr => ?_)
      · refine mb_nmx hr (fun y121 qy121 hr => ?_)
        refine mb_iinc (v := y121) (pn := 36) (lv2 := [(1, .inl y121), (0, mb_F 6 0 0)]) 1 dX6_passes_33 rfl (by rw [qy121]; rfl) (by decide) rfl rfl ?_
        refine mb_goto (tgt := 2) dX6_passes_36 (by decide) ?_
        exact mb_lvs [1, 0] rfl (ih _ _ hr)
      · refine mb_iconst (v := (-1)) (pn := 32) dX6_passes_31 (by decide) rfl ?_
        cases hr
        exact mb_iret dX6_passes_32
def F_X6_passes  (h : mb_AH) : Option mb_RS := (B_X6_passes_2  mb_fu 0 h)
set_option maxRecDepth 100000 in
set_option maxHeartbeats 4000000 in
theorem C_X6_passes {l : Launch} {G : mb_G} (hst : l.stackTraces = false) (hg : mb_gok G)  {h : mb_AH} {res : mb_RS} (hr : F_X6_passes  h = some res) : mb_Mt l G yX6_passes cX6_passes 2 (some .int) 6 [mb_F 6 0 0] h res := by
  refine mb_entry (own := RX6) (lv := [(0, mb_F 6 0 0)]) (by decide +kernel) rfl (Nat.le_of_ble_eq_true rfl) rfl rfl (fun _ => ?_) hst hg
  unfold F_X6_passes at hr
  refine mb_iconst (v := 0) (pn := 1) dX6_passes_0 (by decide) rfl ?_
  refine mb_istore_n (pn := 2) (lv2 := [(1, .inl 0), (0, mb_F 6 0 0)]) dX6_passes_1 rfl (by decide) rfl rfl ?_
  exact mb_lvs [1, 0] rfl (T_X6_passes_2 hst hg  mb_fu _ _ hr)
def F_X6_next  (h : mb_AH) : Option mb_RS := (if (h.1 6 0 0 6) ≤ (h.1 6 0 0 10) then (some (.inl (some (.inl 0)), h)) else (mb_gB (h.1 6 0 0 10) 70 (some (.inl (some (.inl (h.1 23 0 0 (h.1 6 0 0 10).toNatClampNeg))), h))))
set_option maxRecDepth 100000 in
set_option maxHeartbeats 4000000 in
theorem C_X6_next {l : Launch} {G : mb_G} (hst : l.stackTraces = false) (hg : mb_gok G)  {h : mb_AH} {res : mb_RS} (hr : F_X6_next  h = some res) : mb_Mt l G yX6_next cX6_next 1 (some .int) 0 [mb_F 6 0 0] h res := by
  refine mb_entry (own := RX6) (lv := [(0, mb_F 6 0 0)]) (by decide +kernel) rfl (Nat.le_of_ble_eq_true rfl) rfl rfl (fun _ => ?_) hst hg
  unfold F_X6_next at hr
  refine mb_aload_n (pn := 1) 0 dX6_next_0 rfl rfl rfl ?_
  refine gf_X6_115 (pn := 4) dX6_next_1 rfl ?_
  refine mb_aload_n (pn := 5) 0 dX6_next_4 rfl rfl rfl ?_
  refine gf_X6_118 (pn := 8) dX6_next_5 rfl ?_
  refine mb_ic_ge (tgt := 23) (pn := 11) dX6_next_8 (by decide) rfl hr (fun hr => ?_) (fun hr => ?_)
  · refine mb_iconst (v := 0) (pn := 24) dX6_next_23 (by decide) rfl ?_
    cases hr
    exact mb_iret dX6_next_24
  · refine mb_aload_n (pn := 12) 0 dX6_next_11 rfl rfl rfl ?_
    refine gf_X6_19 (pn := 15) dX6_next_12 rfl ?_
    refine mb_aload_n (pn := 16) 0 dX6_next_15 rfl rfl rfl ?_
    refine gf_X6_115 (pn := 19) dX6_next_16 rfl ?_
    refine mb_iald (pn := 20) (n := 70) rfl dX6_next_19 rfl hr (fun hr => ?_)
    refine mb_goto (tgt := 24) dX6_next_20 (by decide) ?_
    cases hr
    exact mb_iret dX6_next_24
def B_X6_takes_40  (v1 : Int32) (s0 : Int32) (h : mb_AH) : Option mb_RS := (mb_up (mb_sI h 6 0 0 11 s0) fun h101 => (some (.inl (some (.inl v1)), h101)))
set_option maxRecDepth 100000 in
set_option maxHeartbeats 4000000 in
theorem T_X6_takes_40 {l : Launch} {G : mb_G} {res : mb_RS} (hst : l.stackTraces = false) (hg : mb_gok G)   {v1 : Int32} {s0 : Int32} {h : mb_AH} (hr : B_X6_takes_40  v1 s0 h = some res) : mb_Ev l G RX6 cX6_takes 3 (some .int) 1 40 [(1, .inl v1)] [.inl s0, mb_F 6 0 0] h res := by
  unfold B_X6_takes_40 at hr
  refine pf_X6_121 (pn := 43) dX6_takes_40 rfl hr (fun h101 hr => ?_)
  refine mb_iload_n (pn := 44) 0 dX6_takes_43 rfl rfl rfl ?_
  cases hr
  exact mb_iret dX6_takes_44
def B_X6_takes_20  (v1 : Int32) (h : mb_AH) : Option mb_RS := (if (h.1 6 0 0 11) = (-1) then (B_X6_takes_40  v1 (h.1 6 0 0 10) h) else (B_X6_takes_40  v1 (h.1 6 0 0 11) h))
set_option maxRecDepth 100000 in
set_option maxHeartbeats 4000000 in
theorem T_X6_takes_20 {l : Launch} {G : mb_G} {res : mb_RS} (hst : l.stackTraces = false) (hg : mb_gok G)   {v1 : Int32} {h : mb_AH} (hr : B_X6_takes_20  v1 h = some res) : mb_Ev l G RX6 cX6_takes 3 (some .int) 1 20 [(0, mb_F 6 0 0), (1, .inl v1)] [] h res := by
  unfold B_X6_takes_20 at hr
  refine mb_aload_n (pn := 21) 0 dX6_takes_20 rfl rfl rfl ?_
  refine mb_aload_n (pn := 22) 0 dX6_takes_21 rfl rfl rfl ?_
  refine gf_X6_121 (pn := 25) dX6_takes_22 rfl ?_
  refine mb_iconst (v := (-1)) (pn := 26) dX6_takes_25 (by decide) rfl ?_
  refine mb_ic_ne (tgt := 36) (pn := 29) dX6_takes_26 (by decide) rfl hr (fun hr => ?_) (fun hr => ?_)
  · refine mb_aload_n (pn := 37) 0 dX6_takes_36 rfl rfl rfl ?_
    refine gf_X6_121 (pn := 40) dX6_takes_37 rfl ?_
    exact mb_lvs [1] rfl (T_X6_takes_40 hst hg  hr)
  · refine mb_aload_n (pn := 30) 0 dX6_takes_29 rfl rfl rfl ?_
    refine gf_X6_115 (pn := 33) dX6_takes_30 rfl ?_
    refine mb_goto (tgt := 40) dX6_takes_33 (by decide) ?_
    exact mb_lvs [1] rfl (T_X6_takes_40 hst hg  hr)
set_option maxRecDepth 100000 in
set_option maxHeartbeats 4000000 in
theorem cl_X6_124 {l : Launch} {G : mb_G} {cc : ByteArray} {nL : Nat} {ret : Option FieldType} {d pc pn : Nat} {lv : List (Nat × mb_AV)} {st : List mb_AV} {h : mb_AH} {res : mb_RS} (hst : l.stackTraces = false) (hg : mb_gok G)  {K : Int32 → mb_AH → Option mb_RS} (hd2 : 0 + 1 ≤ d) (hs4 : st.length ≤ 4) (dg : decode cc pc = .ok (.invokevirtual 124, 3)) (hn : pc + 3 = pn) (hr : mb_cI (F_X6_next  h) K = some res) (kk : ∀ (x : Int32) (h2 : mb_AH), K x h2 = some res → mb_Ev l G RX6 cc nL ret d pn lv (.inl x :: st) h2 res) : mb_Ev l G RX6 cc nL ret d pc lv (mb_F 6 0 0 :: st) h res := mb_kVI (as := []) (n := 0) (d2 := 0) (ci := 6) (fun _ hf => C_X6_next hst hg hf) (mb_gV wl_X6_124 mi_X6_next ms_X6_next mn_X6 mc_X6_next) (by decide +kernel) rfl rfl rfl hd2 (by decide) hs4 rfl dg hn hr kk
def F_X6_takes (x1 : Int32) (x2 : Int32) (h : mb_AH) : Option mb_RS := (if (h.1 6 0 0 11) = (-1) then (mb_cI (F_X6_next h) fun y103 h102 => (mb_cI (F_X6_within y103 x1 x2 h102) fun y105 h104 => (if y105 = 0 then (B_X6_takes_20  x1 h104) else (mb_up (mb_sI h104 6 0 0 10 ((h104.1 6 0 0 10) + 1)) fun h106 => (mb_gB ((h106.1 6 0 0 10) - 1) 70 (some (.inl (some (.inl (h106.1 23 0 0 ((h106.1 6 0 0 10) - 1).toNatClampNeg))), h106))))))) else (B_X6_takes_20  x1 h))
set_option maxRecDepth 100000 in
set_option maxHeartbeats 4000000 in
theorem C_X6_takes {l : Launch} {G : mb_G} (hst : l.stackTraces = false) (hg : mb_gok G) {x1 : Int32} {x2 : Int32} {h : mb_AH} {res : mb_RS} (hr : F_X6_takes x1 x2 h = some res) : mb_Mt l G yX6_takes cX6_takes 3 (some .int) 1 [mb_F 6 0 0, .inl x1, .inl x2] h res := by
  refine mb_entry (own := RX6) (lv := [(0, mb_F 6 0 0), (1, .inl x1), (2, .inl x2)]) (by decide +kernel) rfl (Nat.le_of_ble_eq_true rfl) rfl rfl (fun _ => ?_) hst hg
  unfold F_X6_takes at hr
  refine mb_aload_n (pn := 1) 0 dX6_takes_0 rfl rfl rfl ?_
  refine gf_X6_121 (pn := 4) dX6_takes_1 rfl ?_
  refine mb_iconst (v := (-1)) (pn := 5) dX6_takes_4 (by decide) rfl ?_
  refine mb_ic_ne (tgt := 20) (pn := 8) dX6_takes_5 (by decide) rfl hr (fun hr => ?_) (fun hr => ?_)
  · exact mb_lvs [0, 1] rfl (T_X6_takes_20 hst hg  hr)
  · refine mb_aload_n (pn := 9) 0 dX6_takes_8 rfl rfl rfl ?_
    refine cl_X6_124 (pn := 12) hst hg (Nat.le_of_ble_eq_true rfl) (Nat.le_of_ble_eq_true rfl) dX6_takes_9 rfl hr (fun y103 h102 hr => ?_)
    refine mb_iload_n (pn := 13) 1 dX6_takes_12 rfl rfl rfl ?_
    refine mb_iload_n (pn := 14) 2 dX6_takes_13 rfl rfl rfl ?_
    refine cl_X6_46 (pn := 17) hst hg (Nat.le_of_ble_eq_true rfl) (Nat.le_of_ble_eq_true rfl) dX6_takes_14 rfl hr (fun y105 h104 hr => ?_)
    refine mb_if_ne (tgt := 45) (pn := 20) dX6_takes_17 (by decide) rfl hr (fun hr => ?_) (fun hr => ?_)
    · refine mb_aload_n (pn := 46) 0 dX6_takes_45 rfl rfl rfl ?_
      refine mb_dup (pn := 47) rfl dX6_takes_46 rfl ?_
      refine gf_X6_115 (pn := 50) dX6_takes_47 rfl ?_
      refine mb_iconst (v := 1) (pn := 51) dX6_takes_50 (by decide) rfl ?_
      refine mb_iadd (pn := 52) dX6_takes_51 rfl ?_
      refine pf_X6_115 (pn := 55) dX6_takes_52 rfl hr (fun h106 hr => ?_)
      refine mb_aload_n (pn := 56) 0 dX6_takes_55 rfl rfl rfl ?_
      refine gf_X6_19 (pn := 59) dX6_takes_56 rfl ?_
      refine mb_aload_n (pn := 60) 0 dX6_takes_59 rfl rfl rfl ?_
      refine gf_X6_115 (pn := 63) dX6_takes_60 rfl ?_
      refine mb_iconst (v := 1) (pn := 64) dX6_takes_63 (by decide) rfl ?_
      refine mb_isub (pn := 65) dX6_takes_64 rfl ?_
      refine mb_iald (pn := 66) (n := 70) rfl dX6_takes_65 rfl hr (fun hr => ?_)
      cases hr
      exact mb_iret dX6_takes_66
    · exact mb_lvs [0, 1] rfl (T_X6_takes_20 hst hg  hr)
set_option maxRecDepth 100000 in
set_option maxHeartbeats 4000000 in
theorem cl_X6_127 {l : Launch} {G : mb_G} {cc : ByteArray} {nL : Nat} {ret : Option FieldType} {d pc pn : Nat} {lv : List (Nat × mb_AV)} {st : List mb_AV} {h : mb_AH} {res : mb_RS} (hst : l.stackTraces = false) (hg : mb_gok G) {x1 : Int32} {x2 : Int32} {K : Int32 → mb_AH → Option mb_RS} (hd2 : 1 + 1 ≤ d) (hs4 : st.length ≤ 4) (dg : decode cc pc = .ok (.invokevirtual 127, 3)) (hn : pc + 3 = pn) (hr : mb_cI (F_X6_takes x1 x2 h) K = some res) (kk : ∀ (x : Int32) (h2 : mb_AH), K x h2 = some res → mb_Ev l G RX6 cc nL ret d pn lv (.inl x :: st) h2 res) : mb_Ev l G RX6 cc nL ret d pc lv (.inl x2 :: .inl x1 :: mb_F 6 0 0 :: st) h res := mb_kVI (as := [.inl x1, .inl x2]) (n := 2) (d2 := 1) (ci := 6) (fun _ hf => C_X6_takes hst hg hf) (mb_gV wl_X6_127 mi_X6_takes ms_X6_takes mn_X6 mc_X6_takes) (by decide +kernel) rfl rfl rfl hd2 (by decide) hs4 rfl dg hn hr kk
def B_X6_readsNumber_149  (s0 : Int32) (s1 : Int32) (h : mb_AH) : Option mb_RS := (mb_gB s1 14 (mb_up (mb_sI h 27 0 0 s1.toNatClampNeg s0) fun h109 => (mb_up (mb_sI h109 6 0 0 13 ((h109.1 6 0 0 13) + 1)) fun h110 => (some (.inl none, h110)))))
set_option maxRecDepth 100000 in
set_option maxHeartbeats 4000000 in
theorem T_X6_readsNumber_149 {l : Launch} {G : mb_G} {res : mb_RS} (hst : l.stackTraces = false) (hg : mb_gok G)   {s0 : Int32} {s1 : Int32} {h : mb_AH} (hr : B_X6_readsNumber_149  s0 s1 h = some res) : mb_Ev l G RX6 cX6_readsNumber 5 none 2 149 [(0, mb_F 6 0 0)] [.inl s0, .inl s1, mb_F 27 0 0] h res := by
  unfold B_X6_readsNumber_149 at hr
  refine mb_iast (pn := 150) (n := 14) rfl rfl dX6_readsNumber_149 rfl hr (fun hr => ?_)
  refine mb_nmh hr (fun h109 hr => ?_)
  refine mb_aload_n (pn := 151) 0 dX6_readsNumber_150 rfl rfl rfl ?_
  refine mb_dup (pn := 152) rfl dX6_readsNumber_151 rfl ?_
  refine gf_X6_133 (pn := 155) dX6_readsNumber_152 rfl ?_
  refine mb_iconst (v := 1) (pn := 156) dX6_readsNumber_155 (by decide) rfl ?_
  refine mb_iadd (pn := 157) dX6_readsNumber_156 rfl ?_
  refine pf_X6_133 (pn := 160) dX6_readsNumber_157 rfl hr (fun h110 hr => ?_)
  cases hr
  exact mb_vret dX6_readsNumber_160
def B_X6_readsNumber_128  (v2 : Int32) (v3 : Int32) (s0 : Int32) (h : mb_AH) : Option mb_RS := (mb_up (mb_sI h 6 0 0 12 s0) fun h108 => (if v2 = 0 then (B_X6_readsNumber_149  v3 (h108.1 6 0 0 13) h108) else (B_X6_readsNumber_149  (-v3) (h108.1 6 0 0 13) h108)))
set_option maxRecDepth 100000 in
set_option maxHeartbeats 4000000 in
theorem T_X6_readsNumber_128 {l : Launch} {G : mb_G} {res : mb_RS} (hst : l.stackTraces = false) (hg : mb_gok G)   {v2 : Int32} {v3 : Int32} {s0 : Int32} {h : mb_AH} (hr : B_X6_readsNumber_128  v2 v3 s0 h = some res) : mb_Ev l G RX6 cX6_readsNumber 5 none 2 128 [(0, mb_F 6 0 0), (2, .inl v2), (3, .inl v3)] [.inl s0, mb_F 6 0 0] h res := by
  unfold B_X6_readsNumber_128 at hr
  refine pf_X6_130 (pn := 131) dX6_readsNumber_128 rfl hr (fun h108 hr => ?_)
  refine mb_aload_n (pn := 132) 0 dX6_readsNumber_131 rfl rfl rfl ?_
  refine gf_X6_32 (pn := 135) dX6_readsNumber_132 rfl ?_
  refine mb_aload_n (pn := 136) 0 dX6_readsNumber_135 rfl rfl rfl ?_
  refine gf_X6_133 (pn := 139) dX6_readsNumber_136 rfl ?_
  refine mb_iload_n (pn := 140) 1 dX6_readsNumber_139 rfl rfl rfl ?_
  refine mb_if_eq (tgt := 148) (pn := 143) dX6_readsNumber_140 (by decide) rfl hr (fun hr => ?_) (fun hr => ?_)
  · refine mb_iload_n (pn := 149) 2 dX6_readsNumber_148 rfl rfl rfl ?_
    exact mb_lvs [0] rfl (T_X6_readsNumber_149 hst hg  hr)
  · refine mb_iload_n (pn := 144) 2 dX6_readsNumber_143 rfl rfl rfl ?_
    refine mb_ineg (pn := 145) dX6_readsNumber_144 rfl ?_
    refine mb_goto (tgt := 149) dX6_readsNumber_145 (by decide) ?_
    exact mb_lvs [0] rfl (T_X6_readsNumber_149 hst hg  hr)
def B_X6_readsNumber_124  (v2 : Int32) (v3 : Int32) (h : mb_AH) : Option mb_RS := (B_X6_readsNumber_128  v2 v3 (h.1 6 0 0 12) h)
set_option maxRecDepth 100000 in
set_option maxHeartbeats 4000000 in
theorem T_X6_readsNumber_124 {l : Launch} {G : mb_G} {res : mb_RS} (hst : l.stackTraces = false) (hg : mb_gok G)   {v2 : Int32} {v3 : Int32} {h : mb_AH} (hr : B_X6_readsNumber_124  v2 v3 h = some res) : mb_Ev l G RX6 cX6_readsNumber 5 none 2 124 [(0, mb_F 6 0 0), (2, .inl v2), (3, .inl v3)] [mb_F 6 0 0] h res := by
  unfold B_X6_readsNumber_124 at hr
  refine mb_aload_n (pn := 125) 0 dX6_readsNumber_124 rfl rfl rfl ?_
  refine gf_X6_130 (pn := 128) dX6_readsNumber_125 rfl ?_
  exact mb_lvs [0, 1, 2] rfl (T_X6_readsNumber_128 hst hg  hr)
def B_X6_readsNumber_104  (v1 : Int32) (v2 : Int32) (v3 : Int32) (h : mb_AH) : Option mb_RS := (if v3 ≤ 300 then (B_X6_readsNumber_124  v2 v3 h) else (if (h.1 6 0 0 12) = (-1) then (B_X6_readsNumber_128  v2 v3 v1 h) else (B_X6_readsNumber_124  v2 v3 h)))
set_option maxRecDepth 100000 in
set_option maxHeartbeats 4000000 in
theorem T_X6_readsNumber_104 {l : Launch} {G : mb_G} {res : mb_RS} (hst : l.stackTraces = false) (hg : mb_gok G)   {v1 : Int32} {v2 : Int32} {v3 : Int32} {h : mb_AH} (hr : B_X6_readsNumber_104  v1 v2 v3 h = some res) : mb_Ev l G RX6 cX6_readsNumber 5 none 2 104 [(0, mb_F 6 0 0), (1, .inl v1), (2, .inl v2), (3, .inl v3)] [] h res := by
  unfold B_X6_readsNumber_104 at hr
  refine mb_aload_n (pn := 105) 0 dX6_readsNumber_104 rfl rfl rfl ?_
  refine mb_iload_n (pn := 106) 3 dX6_readsNumber_105 rfl rfl rfl ?_
  refine mb_sipush (v := 300) (pn := 109) dX6_readsNumber_106 (by decide) rfl ?_
  refine mb_ic_le (tgt := 124) (pn := 112) dX6_readsNumber_109 (by decide) rfl hr (fun hr => ?_) (fun hr => ?_)
  · exact mb_lvs [0, 2, 3] rfl (T_X6_readsNumber_124 hst hg  hr)
  · refine mb_aload_n (pn := 113) 0 dX6_readsNumber_112 rfl rfl rfl ?_
    refine gf_X6_130 (pn := 116) dX6_readsNumber_113 rfl ?_
    refine mb_iconst (v := (-1)) (pn := 117) dX6_readsNumber_116 (by decide) rfl ?_
    refine mb_ic_ne (tgt := 124) (pn := 120) dX6_readsNumber_117 (by decide) rfl hr (fun hr => ?_) (fun hr => ?_)
    · exact mb_lvs [0, 2, 3] rfl (T_X6_readsNumber_124 hst hg  hr)
    · refine mb_iload_n (pn := 121) 1 dX6_readsNumber_120 rfl rfl rfl ?_
      refine mb_goto (tgt := 128) dX6_readsNumber_121 (by decide) ?_
      exact mb_lvs [0, 2, 3] rfl (T_X6_readsNumber_128 hst hg  hr)
def B_X6_readsNumber_53  : Nat → Int32 → Int32 → Int32 → Int32 → mb_AH → Option mb_RS
  | 0, _, _, _, _, _ => none
  | n + 1, v1, v2, v3, v4, h => (if 3 ≤ v4 then (B_X6_readsNumber_104  v1 v2 v3 h) else (if (h.1 6 0 0 11) = (-1) then (mb_cI (F_X6_next h) fun y112 h111 => (mb_cI (F_X6_within y112 (48 : Int32) (57 : Int32) h111) fun y114 h113 => (if y114 = 0 then (B_X6_readsNumber_104  v1 v2 v3 h113) else (mb_cI (F_X6_takes (48 : Int32) (57 : Int32) h113) fun y116 h115 => (mb_lI ((((10 : Int32) * v3) + y116) - 48) fun y117 => (mb_lI (v4 + 1) fun y118 => ((B_X6_readsNumber_53  n) v1 v2 y117 y118 h115))))))) else (B_X6_readsNumber_104  v1 v2 v3 h)))
set_option maxRecDepth 100000 in
set_option maxHeartbeats 4000000 in
theorem T_X6_readsNumber_53 {l : Launch} {G : mb_G} {res : mb_RS} (hst : l.stackTraces = false) (hg : mb_gok G)   : ∀ (n : Nat) (v1 : Int32) (v2 : Int32) (v3 : Int32) (v4 : Int32) (h : mb_AH), B_X6_readsNumber_53  n v1 v2 v3 v4 h = some res → mb_Ev l G RX6 cX6_readsNumber 5 none 2 53 [(0, mb_F 6 0 0), (1, .inl v1), (2, .inl v2), (3, .inl v3), (4, .inl v4)] [] h res := by
  intro n
  induction n with
  | zero => intro v1 v2 v3 v4 h hr; cases hr
  | succ n ih =>
    intro v1 v2 v3 v4 h hr
    rw [B_X6_readsNumber_53] at hr
    refine mb_iload (pn := 55) 4 dX6_readsNumber_53 rfl rfl ?_
    refine mb_iconst (v := 3) (pn := 56) dX6_readsNumber_55 (by decide) rfl ?_
    refine mb_ic_ge (tgt := 104) (pn := 59) dX6_readsNumber_56 (by decide) rfl hr (fun hr => ?_) (fun hr => ?_)
    · exact mb_lvs [0, 1, 2, 3] rfl (T_X6_readsNumber_104 hst hg  hr)
    · refine mb_aload_n (pn := 60) 0 dX6_readsNumber_59 rfl rfl rfl ?_
      refine gf_X6_121 (pn := 63) dX6_readsNumber_60 rfl ?_
      refine mb_iconst (v := (-1)) (pn := 64) dX6_readsNumber_63 (by decide) rfl ?_
      refine mb_ic_ne (tgt := 104) (pn := 67) dX6_readsNumber_64 (by decide) rfl hr (fun hr => ?_) (fun hr => ?_)
      · exact mb_lvs [0, 1, 2, 3] rfl (T_X6_readsNumber_104 hst hg  hr)
      · refine mb_aload_n (pn := 68) 0 dX6_readsNumber_67 rfl rfl rfl ?_
        refine cl_X6_124 (pn := 71) hst hg (Nat.le_of_ble_eq_true rfl) (Nat.le_of_ble_eq_true rfl) dX6_readsNumber_68 rfl hr (fun y112 h111 hr => ?_)
        refine mb_bipush (v := 48) (pn := 73) dX6_readsNumber_71 (by decide) rfl ?_
        refine mb_bipush (v := 57) (pn := 75) dX6_readsNumber_73 (by decide) rfl ?_
        refine cl_X6_46 (pn := 78) hst hg (Nat.le_of_ble_eq_true rfl) (Nat.le_of_ble_eq_true rfl) dX6_readsNumber_75 rfl hr (fun y114 h113 hr => ?_)
        refine mb_if_eq (tgt := 104) (pn := 81) dX6_readsNumber_78 (by decide) rfl hr (fun hr => ?_) (fun hr => ?_)
        · exact mb_lvs [0, 1, 2, 3] rfl (T_X6_readsNumber_104 hst hg  hr)
        · refine mb_bipush (v := 10) (pn := 83) dX6_readsNumber_81 (by decide) rfl ?_
          refine mb_iload_n (pn := 84) 3 dX6_readsNumber_83 rfl rfl rfl ?_
          refine mb_imul (pn := 85) dX6_readsNumber_84 rfl ?_
          refine mb_aload_n (pn := 86) 0 dX6_readsNumber_85 rfl rfl rfl ?_
          refine mb_bipush (v := 48) (pn := 88) dX6_readsNumber_86 (by decide) rfl ?_
          refine mb_bipush (v := 57) (pn := 90) dX6_readsNumber_88 (by decide) rfl ?_
          refine cl_X6_127 (pn := 93) hst hg (Nat.le_of_ble_eq_true rfl) (Nat.le_of_ble_eq_true rfl) dX6_readsNumber_90 rfl hr (fun y116 h115 hr => ?_)
          refine mb_iadd (pn := 94) dX6_readsNumber_93 rfl ?_
          refine mb_bipush (v := 48) (pn := 96) dX6_readsNumber_94 (by decide) rfl ?_
          refine mb_isub (pn := 97) dX6_readsNumber_96 rfl ?_
          refine mb_nmI hr (fun y117 hr => ?_)
          refine mb_istore_n (pn := 98) (lv2 := [(3, .inl y117), (0, mb_F 6 0 0), (1, .inl v1), (2, .inl v2), (4, .inl v4)]) dX6_readsNumber_97 rfl (by decide) rfl rfl ?_
          refine mb_nmx hr (fun y118 qy118 hr => ?_)
          refine mb_iinc (v := y118) (pn := 101) (lv2 := [(4, .inl y118), (3, .inl y117), (0, mb_F 6 0 0), (1, .inl v1), (2, .inl v2)]) 4 dX6_readsNumber_98 rfl (by rw [qy118]; rfl) (by decide) rfl rfl ?_
          refine mb_goto (tgt := 53) dX6_readsNumber_101 (by decide) ?_
          exact mb_lvs [2, 3, 4, 1, 0] rfl (ih _ _ _ _ _ hr)
def B_X6_readsNumber_34  (v1 : Int32) (v2 : Int32) (s0 : Int32) (s1 : Int32) (h : mb_AH) : Option mb_RS := (mb_up (mb_sI h 6 0 0 10 (s1 + s0)) fun h104 => (mb_cI (F_X6_takes (48 : Int32) (57 : Int32) h104) fun y106 h105 => (mb_lI (y106 - 48) fun y107 => (B_X6_readsNumber_53  mb_fu v1 v2 y107 1 h105))))
set_option maxRecDepth 100000 in
set_option maxHeartbeats 4000000 in
theorem T_X6_readsNumber_34 {l : Launch} {G : mb_G} {res : mb_RS} (hst : l.stackTraces = false) (hg : mb_gok G)   {v1 : Int32} {v2 : Int32} {s0 : Int32} {s1 : Int32} {h : mb_AH} (hr : B_X6_readsNumber_34  v1 v2 s0 s1 h = some res) : mb_Ev l G RX6 cX6_readsNumber 5 none 2 34 [(0, mb_F 6 0 0), (1, .inl v1), (2, .inl v2)] [.inl s0, .inl s1, mb_F 6 0 0] h res := by
  unfold B_X6_readsNumber_34 at hr
  refine mb_iadd (pn := 35) dX6_readsNumber_34 rfl ?_
  refine pf_X6_115 (pn := 38) dX6_readsNumber_35 rfl hr (fun h104 hr => ?_)
  refine mb_aload_n (pn := 39) 0 dX6_readsNumber_38 rfl rfl rfl ?_
  refine mb_bipush (v := 48) (pn := 41) dX6_readsNumber_39 (by decide) rfl ?_
  refine mb_bipush (v := 57) (pn := 43) dX6_readsNumber_41 (by decide) rfl ?_
  refine cl_X6_127 (pn := 46) hst hg (Nat.le_of_ble_eq_true rfl) (Nat.le_of_ble_eq_true rfl) dX6_readsNumber_43 rfl hr (fun y106 h105 hr => ?_)
  refine mb_bipush (v := 48) (pn := 48) dX6_readsNumber_46 (by decide) rfl ?_
  refine mb_isub (pn := 49) dX6_readsNumber_48 rfl ?_
  refine mb_nmI hr (fun y107 hr => ?_)
  refine mb_istore_n (pn := 50) (lv2 := [(3, .inl y107), (0, mb_F 6 0 0), (1, .inl v1), (2, .inl v2)]) dX6_readsNumber_49 rfl (by decide) rfl rfl ?_
  refine mb_iconst (v := 1) (pn := 51) dX6_readsNumber_50 (by decide) rfl ?_
  refine mb_istore (pn := 53) (lv2 := [(4, .inl 1), (3, .inl y107), (0, mb_F 6 0 0), (1, .inl v1), (2, .inl v2)]) dX6_readsNumber_51 (by decide) rfl rfl ?_
  exact mb_lvs [2, 3, 4, 1, 0] rfl (T_X6_readsNumber_53 hst hg  mb_fu _ _ _ _ _ hr)
def B_X6_readsNumber_19  (v1 : Int32) (s0 : Int32) (h : mb_AH) : Option mb_RS := (if s0 = 0 then (B_X6_readsNumber_34  v1 s0 0 (h.1 6 0 0 10) h) else (B_X6_readsNumber_34  v1 s0 1 (h.1 6 0 0 10) h))
set_option maxRecDepth 100000 in
set_option maxHeartbeats 4000000 in
theorem T_X6_readsNumber_19 {l : Launch} {G : mb_G} {res : mb_RS} (hst : l.stackTraces = false) (hg : mb_gok G)   {v1 : Int32} {s0 : Int32} {h : mb_AH} (hr : B_X6_readsNumber_19  v1 s0 h = some res) : mb_Ev l G RX6 cX6_readsNumber 5 none 2 19 [(0, mb_F 6 0 0), (1, .inl v1)] [.inl s0] h res := by
  unfold B_X6_readsNumber_19 at hr
  refine mb_istore_n (pn := 20) (lv2 := [(2, .inl s0), (0, mb_F 6 0 0), (1, .inl v1)]) dX6_readsNumber_19 rfl (by decide) rfl rfl ?_
  refine mb_aload_n (pn := 21) 1 dX6_readsNumber_20 rfl rfl rfl ?_
  refine mb_dup (pn := 22) rfl dX6_readsNumber_21 rfl ?_
  refine gf_X6_115 (pn := 25) dX6_readsNumber_22 rfl ?_
  refine mb_iload_n (pn := 26) 0 dX6_readsNumber_25 rfl rfl rfl ?_
  refine mb_if_eq (tgt := 33) (pn := 29) dX6_readsNumber_26 (by decide) rfl hr (fun hr => ?_) (fun hr => ?_)
  · refine mb_iconst (v := 0) (pn := 34) dX6_readsNumber_33 (by decide) rfl ?_
    exact mb_lvs [1, 2, 0] rfl (T_X6_readsNumber_34 hst hg  hr)
  · refine mb_iconst (v := 1) (pn := 30) dX6_readsNumber_29 (by decide) rfl ?_
    refine mb_goto (tgt := 34) dX6_readsNumber_30 (by decide) ?_
    exact mb_lvs [1, 2, 0] rfl (T_X6_readsNumber_34 hst hg  hr)
def F_X6_readsNumber  (h : mb_AH) : Option mb_RS := (mb_lI (h.1 6 0 0 10) fun y101 => (mb_cI (F_X6_next h) fun y103 h102 => (if y103 = 45 then (B_X6_readsNumber_19  y101 1 h102) else (B_X6_readsNumber_19  y101 0 h102))))
set_option maxRecDepth 100000 in
set_option maxHeartbeats 4000000 in
theorem C_X6_readsNumber {l : Launch} {G : mb_G} (hst : l.stackTraces = false) (hg : mb_gok G)  {h : mb_AH} {res : mb_RS} (hr : F_X6_readsNumber  h = some res) : mb_Mt l G yX6_readsNumber cX6_readsNumber 5 none 2 [mb_F 6 0 0] h res := by
  refine mb_entry (own := RX6) (lv := [(0, mb_F 6 0 0)]) (by decide +kernel) rfl (Nat.le_of_ble_eq_true rfl) rfl rfl (fun _ => ?_) hst hg
  unfold F_X6_readsNumber at hr
  refine mb_aload_n (pn := 1) 0 dX6_readsNumber_0 rfl rfl rfl ?_
  refine gf_X6_115 (pn := 4) dX6_readsNumber_1 rfl ?_
  refine mb_nmI hr (fun y101 hr => ?_)
  refine mb_istore_n (pn := 5) (lv2 := [(1, .inl y101), (0, mb_F 6 0 0)]) dX6_readsNumber_4 rfl (by decide) rfl rfl ?_
  refine mb_aload_n (pn := 6) 1 dX6_readsNumber_5 rfl rfl rfl ?_
  refine cl_X6_124 (pn := 9) hst hg (Nat.le_of_ble_eq_true rfl) (Nat.le_of_ble_eq_true rfl) dX6_readsNumber_6 rfl hr (fun y103 h102 hr => ?_)
  refine mb_bipush (v := 45) (pn := 11) dX6_readsNumber_9 (by decide) rfl ?_
  refine mb_ic_ne (tgt := 18) (pn := 14) dX6_readsNumber_11 (by decide) rfl hr (fun hr => ?_) (fun hr => ?_)
  · refine mb_iconst (v := 0) (pn := 19) dX6_readsNumber_18 (by decide) rfl ?_
    exact mb_lvs [1, 0] rfl (T_X6_readsNumber_19 hst hg  hr)
  · refine mb_iconst (v := 1) (pn := 15) dX6_readsNumber_14 (by decide) rfl ?_
    refine mb_goto (tgt := 19) dX6_readsNumber_15 (by decide) ?_
    exact mb_lvs [1, 0] rfl (T_X6_readsNumber_19 hst hg  hr)
set_option maxRecDepth 100000 in
set_option maxHeartbeats 4000000 in
theorem cl_X6_136 {l : Launch} {G : mb_G} {cc : ByteArray} {nL : Nat} {ret : Option FieldType} {d pc pn : Nat} {lv : List (Nat × mb_AV)} {st : List mb_AV} {h : mb_AH} {res : mb_RS} (hst : l.stackTraces = false) (hg : mb_gok G)  {K : mb_AH → Option mb_RS} (hd2 : 2 + 1 ≤ d) (hs4 : st.length ≤ 4) (dg : decode cc pc = .ok (.invokevirtual 136, 3)) (hn : pc + 3 = pn) (hr : mb_cV (F_X6_readsNumber  h) K = some res) (kk : ∀ (h2 : mb_AH), K h2 = some res → mb_Ev l G RX6 cc nL ret d pn lv st h2 res) : mb_Ev l G RX6 cc nL ret d pc lv (mb_F 6 0 0 :: st) h res := mb_kVV (as := []) (n := 0) (d2 := 2) (ci := 6) (fun _ hf => C_X6_readsNumber hst hg hf) (mb_gV wl_X6_136 mi_X6_readsNumber ms_X6_readsNumber mn_X6 mc_X6_readsNumber) (by decide +kernel) rfl rfl rfl hd2 (by decide) hs4 rfl dg hn hr kk
def B_X6_reads_87   (h : mb_AH) : Option mb_RS := (if (h.1 6 0 0 11) = (-1) then (some (.inl (some (.inl (h.1 6 0 0 12))), h)) else (some (.inl (some (.inl (h.1 6 0 0 11))), h)))
set_option maxRecDepth 100000 in
set_option maxHeartbeats 4000000 in
theorem T_X6_reads_87 {l : Launch} {G : mb_G} {res : mb_RS} (hst : l.stackTraces = false) (hg : mb_gok G)    {h : mb_AH} (hr : B_X6_reads_87   h = some res) : mb_Ev l G RX6 cX6_reads 2 (some .int) 3 87 [(0, mb_F 6 0 0)] [] h res := by
  unfold B_X6_reads_87 at hr
  refine mb_aload_n (pn := 88) 0 dX6_reads_87 rfl rfl rfl ?_
  refine gf_X6_121 (pn := 91) dX6_reads_88 rfl ?_
  refine mb_iconst (v := (-1)) (pn := 92) dX6_reads_91 (by decide) rfl ?_
  refine mb_ic_eq (tgt := 102) (pn := 95) dX6_reads_92 (by decide) rfl hr (fun hr => ?_) (fun hr => ?_)
  · refine mb_aload_n (pn := 103) 0 dX6_reads_102 rfl rfl rfl ?_
    refine gf_X6_130 (pn := 106) dX6_reads_103 rfl ?_
    cases hr
    exact mb_iret dX6_reads_106
  · refine mb_aload_n (pn := 96) 0 dX6_reads_95 rfl rfl rfl ?_
    refine gf_X6_121 (pn := 99) dX6_reads_96 rfl ?_
    refine mb_goto (tgt := 106) dX6_reads_99 (by decide) ?_
    cases hr
    exact mb_iret dX6_reads_106
def B_X6_reads_24  : Nat → mb_AH → Option mb_RS
  | 0, _ => none
  | n + 1, h => (if (h.1 6 0 0 11) = (-1) then (if (h.1 6 0 0 6) ≤ (h.1 6 0 0 10) then (B_X6_reads_87   h) else (if (h.1 6 0 0 13) = 14 then (mb_up (mb_sI h 6 0 0 11 (h.1 6 0 0 10)) fun h109 => ((B_X6_reads_24  n)  h109)) else (mb_cI (F_X6_takes (44 : Int32) (44 : Int32) h) fun y107 h106 => (if (h106.1 6 0 0 11) = (-1) then (mb_cV (F_X6_readsNumber h106) fun h108 => ((B_X6_reads_24  n)  h108)) else ((B_X6_reads_24  n)  h106))))) else (B_X6_reads_87   h))
set_option maxRecDepth 100000 in
set_option maxHeartbeats 4000000 in
theorem T_X6_reads_24 {l : Launch} {G : mb_G} {res : mb_RS} (hst : l.stackTraces = false) (hg : mb_gok G)   : ∀ (n : Nat)  (h : mb_AH), B_X6_reads_24  n  h = some res → mb_Ev l G RX6 cX6_reads 2 (some .int) 3 24 [(0, mb_F 6 0 0)] [] h res := by
  intro n
  induction n with
  | zero => intro  h hr; cases hr
  | succ n ih =>
    intro  h hr
    rw [B_X6_reads_24] at hr
    refine mb_aload_n (pn := 25) 0 dX6_reads_24 rfl rfl rfl ?_
    refine gf_X6_121 (pn := 28) dX6_reads_25 rfl ?_
    refine mb_iconst (v := (-1)) (pn := 29) dX6_reads_28 (by decide) rfl ?_
    refine mb_ic_ne (tgt := 87) (pn := 32) dX6_reads_29 (by decide) rfl hr (fun hr => ?_) (fun hr => ?_)
    · exact mb_lvs [0] rfl (T_X6_reads_87 hst hg  hr)
    · refine mb_aload_n (pn := 33) 0 dX6_reads_32 rfl rfl rfl ?_
      refine gf_X6_115 (pn := 36) dX6_reads_33 rfl ?_
      refine mb_aload_n (pn := 37) 0 dX6_reads_36 rfl rfl rfl ?_
      refine gf_X6_118 (pn := 40) dX6_reads_37 rfl ?_
      refine mb_ic_ge (tgt := 87) (pn := 43) dX6_reads_40 (by decide) rfl hr (fun hr => ?_) (fun hr => ?_)
      · exact mb_lvs [0] rfl (T_X6_reads_87 hst hg  hr)
      · refine mb_aload_n (pn := 44) 0 dX6_reads_43 rfl rfl rfl ?_
        refine gf_X6_133 (pn := 47) dX6_reads_44 rfl ?_
        refine mb_bipush (v := 14) (pn := 49) dX6_reads_47 (by decide) rfl ?_
        refine mb_ic_ne (tgt := 63) (pn := 52) dX6_reads_49 (by decide) rfl hr (fun hr => ?_) (fun hr => ?_)
        · refine mb_aload_n (pn := 64) 0 dX6_reads_63 rfl rfl rfl ?_
          refine mb_bipush (v := 44) (pn := 66) dX6_reads_64 (by decide) rfl ?_
          refine mb_bipush (v := 44) (pn := 68) dX6_reads_66 (by decide) rfl ?_
          refine cl_X6_127 (pn := 71) hst hg (Nat.le_of_ble_eq_true rfl) (Nat.le_of_ble_eq_true rfl) dX6_reads_68 rfl hr (fun y107 h106 hr => ?_)
          refine mb_istore_n (pn := 72) (lv2 := [(1, .inl y107), (0, mb_F 6 0 0)]) dX6_reads_71 rfl (by decide) rfl rfl ?_
          refine mb_aload_n (pn := 73) 1 dX6_reads_72 rfl rfl rfl ?_
          refine gf_X6_121 (pn := 76) dX6_reads_73 rfl ?_
          refine mb_iconst (v := (-1)) (pn := 77) dX6_reads_76 (by decide) rfl ?_
          refine mb_ic_ne (tgt := 84) (pn := 80) dX6_reads_77 (by decide) rfl hr (fun hr => ?_) (fun hr => ?_)
          · refine mb_goto (tgt := 24) dX6_reads_84 (by decide) ?_
            exact mb_lvs [1] rfl (ih  _ hr)
          · refine mb_aload_n (pn := 81) 1 dX6_reads_80 rfl rfl rfl ?_
            refine cl_X6_136 (pn := 84) hst hg (Nat.le_of_ble_eq_true rfl) (Nat.le_of_ble_eq_true rfl) dX6_reads_81 rfl hr (fun h108 hr => ?_)
            refine mb_goto (tgt := 24) dX6_reads_84 (by decide) ?_
            exact mb_lvs [1] rfl (ih  _ hr)
        · refine mb_aload_n (pn := 53) 0 dX6_reads_52 rfl rfl rfl ?_
          refine mb_aload_n (pn := 54) 0 dX6_reads_53 rfl rfl rfl ?_
          refine gf_X6_115 (pn := 57) dX6_reads_54 rfl ?_
          refine pf_X6_121 (pn := 60) dX6_reads_57 rfl hr (fun h109 hr => ?_)
          refine mb_goto (tgt := 24) dX6_reads_60 (by decide) ?_
          exact mb_lvs [0] rfl (ih  _ hr)
def F_X6_reads  (h : mb_AH) : Option mb_RS := (mb_up (mb_sI h 6 0 0 10 0) fun h101 => (mb_up (mb_sI h101 6 0 0 11 (-1)) fun h102 => (mb_up (mb_sI h102 6 0 0 12 (-1)) fun h103 => (mb_up (mb_sI h103 6 0 0 13 0) fun h104 => (mb_cV (F_X6_readsNumber h104) fun h105 => (B_X6_reads_24  mb_fu  h105))))))
set_option maxRecDepth 100000 in
set_option maxHeartbeats 4000000 in
theorem C_X6_reads {l : Launch} {G : mb_G} (hst : l.stackTraces = false) (hg : mb_gok G)  {h : mb_AH} {res : mb_RS} (hr : F_X6_reads  h = some res) : mb_Mt l G yX6_reads cX6_reads 2 (some .int) 3 [mb_F 6 0 0] h res := by
  refine mb_entry (own := RX6) (lv := [(0, mb_F 6 0 0)]) (by decide +kernel) rfl (Nat.le_of_ble_eq_true rfl) rfl rfl (fun _ => ?_) hst hg
  unfold F_X6_reads at hr
  refine mb_aload_n (pn := 1) 0 dX6_reads_0 rfl rfl rfl ?_
  refine mb_iconst (v := 0) (pn := 2) dX6_reads_1 (by decide) rfl ?_
  refine pf_X6_115 (pn := 5) dX6_reads_2 rfl hr (fun h101 hr => ?_)
  refine mb_aload_n (pn := 6) 0 dX6_reads_5 rfl rfl rfl ?_
  refine mb_iconst (v := (-1)) (pn := 7) dX6_reads_6 (by decide) rfl ?_
  refine pf_X6_121 (pn := 10) dX6_reads_7 rfl hr (fun h102 hr => ?_)
  refine mb_aload_n (pn := 11) 0 dX6_reads_10 rfl rfl rfl ?_
  refine mb_iconst (v := (-1)) (pn := 12) dX6_reads_11 (by decide) rfl ?_
  refine pf_X6_130 (pn := 15) dX6_reads_12 rfl hr (fun h103 hr => ?_)
  refine mb_aload_n (pn := 16) 0 dX6_reads_15 rfl rfl rfl ?_
  refine mb_iconst (v := 0) (pn := 17) dX6_reads_16 (by decide) rfl ?_
  refine pf_X6_133 (pn := 20) dX6_reads_17 rfl hr (fun h104 hr => ?_)
  refine mb_aload_n (pn := 21) 0 dX6_reads_20 rfl rfl rfl ?_
  refine cl_X6_136 (pn := 24) hst hg (Nat.le_of_ble_eq_true rfl) (Nat.le_of_ble_eq_true rfl) dX6_reads_21 rfl hr (fun h105 hr => ?_)
  exact mb_lvs [0] rfl (T_X6_reads_24 hst hg  mb_fu  _ hr)
set_option maxRecDepth 100000 in
set_option maxHeartbeats 4000000 in
theorem cl_X6_139 {l : Launch} {G : mb_G} {cc : ByteArray} {nL : Nat} {ret : Option FieldType} {d pc pn : Nat} {lv : List (Nat × mb_AV)} {st : List mb_AV} {h : mb_AH} {res : mb_RS} (hst : l.stackTraces = false) (hg : mb_gok G)  {K : Int32 → mb_AH → Option mb_RS} (hd2 : 3 + 1 ≤ d) (hs4 : st.length ≤ 4) (dg : decode cc pc = .ok (.invokevirtual 139, 3)) (hn : pc + 3 = pn) (hr : mb_cI (F_X6_reads  h) K = some res) (kk : ∀ (x : Int32) (h2 : mb_AH), K x h2 = some res → mb_Ev l G RX6 cc nL ret d pn lv (.inl x :: st) h2 res) : mb_Ev l G RX6 cc nL ret d pc lv (mb_F 6 0 0 :: st) h res := mb_kVI (as := []) (n := 0) (d2 := 3) (ci := 6) (fun _ hf => C_X6_reads hst hg hf) (mb_gV wl_X6_139 mi_X6_reads ms_X6_reads mn_X6 mc_X6_reads) (by decide +kernel) rfl rfl rfl hd2 (by decide) hs4 rfl dg hn hr kk
set_option maxRecDepth 100000 in
set_option maxHeartbeats 4000000 in
theorem cl_X6_142 {l : Launch} {G : mb_G} {cc : ByteArray} {nL : Nat} {ret : Option FieldType} {d pc pn : Nat} {lv : List (Nat × mb_AV)} {st : List mb_AV} {h : mb_AH} {res : mb_RS} (hst : l.stackTraces = false) (hg : mb_gok G)  {K : mb_AH → Option mb_RS} (hd2 : 0 + 1 ≤ d) (hs4 : st.length ≤ 4) (dg : decode cc pc = .ok (.invokevirtual 142, 3)) (hn : pc + 3 = pn) (hr : mb_cV (F_X6_saves  h) K = some res) (kk : ∀ (h2 : mb_AH), K h2 = some res → mb_Ev l G RX6 cc nL ret d pn lv st h2 res) : mb_Ev l G RX6 cc nL ret d pc lv (mb_F 6 0 0 :: st) h res := mb_kVV (as := []) (n := 0) (d2 := 0) (ci := 6) (fun _ hf => C_X6_saves hst hg hf) (mb_gV wl_X6_142 mi_X6_saves ms_X6_saves mn_X6 mc_X6_saves) (by decide +kernel) rfl rfl rfl hd2 (by decide) hs4 rfl dg hn hr kk
def B_X6_setTable_71 (K39 : Int32 → mb_AH → Option mb_RS) (v1 : Int32) (s0 : Int32) (s1 : Int32) (h : mb_AH) : Option mb_RS := (mb_gB s1 270 (mb_up (mb_sI h 20 0 0 s1.toNatClampNeg s0) fun h107 => (mb_lI (v1 + 1) fun y108 => (K39 y108 h107))))
set_option maxRecDepth 100000 in
set_option maxHeartbeats 4000000 in
theorem T_X6_setTable_71 {l : Launch} {G : mb_G} {res : mb_RS} (hst : l.stackTraces = false) (hg : mb_gok G) {K39 : Int32 → mb_AH → Option mb_RS} (hK39 : ∀ (v1z : Int32) (hz : mb_AH), K39 v1z hz = some res → mb_Ev l G RX6 cX6_setTable 2 (some .int) 4 39 [(0, mb_F 6 0 0), (1, .inl v1z)] [] hz res) {v1 : Int32} {s0 : Int32} {s1 : Int32} {h : mb_AH} (hr : B_X6_setTable_71 K39 v1 s0 s1 h = some res) : mb_Ev l G RX6 cX6_setTable 2 (some .int) 4 71 [(0, mb_F 6 0 0), (1, .inl v1)] [.inl s0, .inl s1, mb_F 20 0 0] h res := by
  unfold B_X6_setTable_71 at hr
  refine mb_iast (pn := 72) (n := 270) rfl rfl dX6_setTable_71 rfl hr (fun hr => ?_)
  refine mb_nmh hr (fun h107 hr => ?_)
  refine mb_nmx hr (fun y108 qy108 hr => ?_)
  refine mb_iinc (v := y108) (pn := 75) (lv2 := [(1, .inl y108), (0, mb_F 6 0 0)]) 1 dX6_setTable_72 rfl (by rw [qy108]; rfl) (by decide) rfl rfl ?_
  refine mb_goto (tgt := 39) dX6_setTable_75 (by decide) ?_
  exact mb_lvs [1, 0] rfl (hK39 _ _ hr)
def B_X6_setTable_39  : Nat → Int32 → mb_AH → Option mb_RS
  | 0, _, _ => none
  | n + 1, v1, h => (if 14 ≤ v1 then (some (.inl (some (.inl (h.1 6 0 0 13))), h)) else (if (h.1 6 0 0 13) ≤ v1 then (B_X6_setTable_71 (B_X6_setTable_39  n) v1 0 ((12 : Int32) + v1) h) else (mb_gB v1 14 (B_X6_setTable_71 (B_X6_setTable_39  n) v1 (h.1 27 0 0 v1.toNatClampNeg) ((12 : Int32) + v1) h))))
set_option maxRecDepth 100000 in
set_option maxHeartbeats 4000000 in
theorem T_X6_setTable_39 {l : Launch} {G : mb_G} {res : mb_RS} (hst : l.stackTraces = false) (hg : mb_gok G)   : ∀ (n : Nat) (v1 : Int32) (h : mb_AH), B_X6_setTable_39  n v1 h = some res → mb_Ev l G RX6 cX6_setTable 2 (some .int) 4 39 [(0, mb_F 6 0 0), (1, .inl v1)] [] h res := by
  intro n
  induction n with
  | zero => intro v1 h hr; cases hr
  | succ n ih =>
    intro v1 h hr
    rw [B_X6_setTable_39] at hr
    refine mb_iload_n (pn := 40) 1 dX6_setTable_39 rfl rfl rfl ?_
    refine mb_bipush (v := 14) (pn := 42) dX6_setTable_40 (by decide) rfl ?_
    refine mb_ic_ge (tgt := 78) (pn := 45) dX6_setTable_42 (by decide) rfl hr (fun hr => ?_) (fun hr => ?_)
    · refine mb_aload_n (pn := 79) 0 dX6_setTable_78 rfl rfl rfl ?_
      refine gf_X6_133 (pn := 82) dX6_setTable_79 rfl ?_
      cases hr
      exact mb_iret dX6_setTable_82
    · refine mb_aload_n (pn := 46) 0 dX6_setTable_45 rfl rfl rfl ?_
      refine gf_X6_7 (pn := 49) dX6_setTable_46 rfl ?_
      refine mb_bipush (v := 12) (pn := 51) dX6_setTable_49 (by decide) rfl ?_
      refine mb_iload_n (pn := 52) 1 dX6_setTable_51 rfl rfl rfl ?_
      refine mb_iadd (pn := 53) dX6_setTable_52 rfl ?_
      refine mb_iload_n (pn := 54) 1 dX6_setTable_53 rfl rfl rfl ?_
      refine mb_aload_n (pn := 55) 0 dX6_setTable_54 rfl rfl rfl ?_
      refine gf_X6_133 (pn := 58) dX6_setTable_55 rfl ?_
      refine mb_ic_ge (tgt := 70) (pn := 61) dX6_setTable_58 (by decide) rfl hr (fun hr => ?_) (fun hr => ?_)
      · refine mb_iconst (v := 0) (pn := 71) dX6_setTable_70 (by decide) rfl ?_
        exact mb_lvs [0, 1] rfl (T_X6_setTable_71 hst hg ih hr)
      · refine mb_aload_n (pn := 62) 0 dX6_setTable_61 rfl rfl rfl ?_
        refine gf_X6_32 (pn := 65) dX6_setTable_62 rfl ?_
        refine mb_iload_n (pn := 66) 1 dX6_setTable_65 rfl rfl rfl ?_
        refine mb_iald (pn := 67) (n := 14) rfl dX6_setTable_66 rfl hr (fun hr => ?_)
        refine mb_goto (tgt := 71) dX6_setTable_67 (by decide) ?_
        exact mb_lvs [0, 1] rfl (T_X6_setTable_71 hst hg ih hr)
def B_X6_setTable_14  (s0 : Int32) (h : mb_AH) : Option mb_RS := (mb_cI (F_X6_refused s0 h) fun y104 h103 => (if y104 = 0 then (mb_cV (F_X6_saves h103) fun h105 => (mb_gB 8 270 (mb_up (mb_sI h105 20 0 0 (8 : Int32).toNatClampNeg (h105.1 6 0 0 13)) fun h106 => (B_X6_setTable_39  mb_fu 0 h106)))) else (some (.inl (some (.inl 0)), h103))))
set_option maxRecDepth 100000 in
set_option maxHeartbeats 4000000 in
theorem T_X6_setTable_14 {l : Launch} {G : mb_G} {res : mb_RS} (hst : l.stackTraces = false) (hg : mb_gok G)   {s0 : Int32} {h : mb_AH} (hr : B_X6_setTable_14  s0 h = some res) : mb_Ev l G RX6 cX6_setTable 2 (some .int) 4 14 [(0, mb_F 6 0 0)] [.inl s0, mb_F 6 0 0] h res := by
  unfold B_X6_setTable_14 at hr
  refine cl_X6_42 (pn := 17) hst hg (Nat.le_of_ble_eq_true rfl) (Nat.le_of_ble_eq_true rfl) dX6_setTable_14 rfl hr (fun y104 h103 hr => ?_)
  refine mb_if_eq (tgt := 22) (pn := 20) dX6_setTable_17 (by decide) rfl hr (fun hr => ?_) (fun hr => ?_)
  · refine mb_aload_n (pn := 23) 0 dX6_setTable_22 rfl rfl rfl ?_
    refine cl_X6_142 (pn := 26) hst hg (Nat.le_of_ble_eq_true rfl) (Nat.le_of_ble_eq_true rfl) dX6_setTable_23 rfl hr (fun h105 hr => ?_)
    refine mb_aload_n (pn := 27) 0 dX6_setTable_26 rfl rfl rfl ?_
    refine gf_X6_7 (pn := 30) dX6_setTable_27 rfl ?_
    refine mb_bipush (v := 8) (pn := 32) dX6_setTable_30 (by decide) rfl ?_
    refine mb_aload_n (pn := 33) 0 dX6_setTable_32 rfl rfl rfl ?_
    refine gf_X6_133 (pn := 36) dX6_setTable_33 rfl ?_
    refine mb_iast (pn := 37) (n := 270) rfl rfl dX6_setTable_36 rfl hr (fun hr => ?_)
    refine mb_nmh hr (fun h106 hr => ?_)
    refine mb_iconst (v := 0) (pn := 38) dX6_setTable_37 (by decide) rfl ?_
    refine mb_istore_n (pn := 39) (lv2 := [(1, .inl 0), (0, mb_F 6 0 0)]) dX6_setTable_38 rfl (by decide) rfl rfl ?_
    exact mb_lvs [1, 0] rfl (T_X6_setTable_39 hst hg  mb_fu _ _ hr)
  · refine mb_iconst (v := 0) (pn := 21) dX6_setTable_20 (by decide) rfl ?_
    cases hr
    exact mb_iret dX6_setTable_21
def F_X6_setTable  (h : mb_AH) : Option mb_RS := (mb_cI (F_X6_reads h) fun y102 h101 => (if y102 = (-1) then (B_X6_setTable_14  0 h101) else (B_X6_setTable_14  1 h101)))
set_option maxRecDepth 100000 in
set_option maxHeartbeats 4000000 in
theorem C_X6_setTable {l : Launch} {G : mb_G} (hst : l.stackTraces = false) (hg : mb_gok G)  {h : mb_AH} {res : mb_RS} (hr : F_X6_setTable  h = some res) : mb_Mt l G yX6_setTable cX6_setTable 2 (some .int) 4 [mb_F 6 0 0] h res := by
  refine mb_entry (own := RX6) (lv := [(0, mb_F 6 0 0)]) (by decide +kernel) rfl (Nat.le_of_ble_eq_true rfl) rfl rfl (fun _ => ?_) hst hg
  unfold F_X6_setTable at hr
  refine mb_aload_n (pn := 1) 0 dX6_setTable_0 rfl rfl rfl ?_
  refine mb_aload_n (pn := 2) 0 dX6_setTable_1 rfl rfl rfl ?_
  refine cl_X6_139 (pn := 5) hst hg (Nat.le_of_ble_eq_true rfl) (Nat.le_of_ble_eq_true rfl) dX6_setTable_2 rfl hr (fun y102 h101 hr => ?_)
  refine mb_iconst (v := (-1)) (pn := 6) dX6_setTable_5 (by decide) rfl ?_
  refine mb_ic_ne (tgt := 13) (pn := 9) dX6_setTable_6 (by decide) rfl hr (fun hr => ?_) (fun hr => ?_)
  · refine mb_iconst (v := 1) (pn := 14) dX6_setTable_13 (by decide) rfl ?_
    exact mb_lvs [0] rfl (T_X6_setTable_14 hst hg  hr)
  · refine mb_iconst (v := 0) (pn := 10) dX6_setTable_9 (by decide) rfl ?_
    refine mb_goto (tgt := 14) dX6_setTable_10 (by decide) ?_
    exact mb_lvs [0] rfl (T_X6_setTable_14 hst hg  hr)
def B_X6_low_10  (v1 : Int32) (s0 : Int32) (h : mb_AH) : Option mb_RS := (mb_cI (F_X6_refused s0 h) fun y102 h101 => (if y102 = 0 then (mb_cI (F_X6_lowOn v1 h101) fun y104 h103 => (some (.inl (some (.inl y104)), h103))) else (some (.inl (some (.inl 0)), h101))))
set_option maxRecDepth 100000 in
set_option maxHeartbeats 4000000 in
theorem T_X6_low_10 {l : Launch} {G : mb_G} {res : mb_RS} (hst : l.stackTraces = false) (hg : mb_gok G)   {v1 : Int32} {s0 : Int32} {h : mb_AH} (hr : B_X6_low_10  v1 s0 h = some res) : mb_Ev l G RX6 cX6_low 2 (some .int) 1 10 [(0, mb_F 6 0 0), (1, .inl v1)] [.inl s0, mb_F 6 0 0] h res := by
  unfold B_X6_low_10 at hr
  refine cl_X6_42 (pn := 13) hst hg (Nat.le_of_ble_eq_true rfl) (Nat.le_of_ble_eq_true rfl) dX6_low_10 rfl hr (fun y102 h101 hr => ?_)
  refine mb_if_eq (tgt := 20) (pn := 16) dX6_low_13 (by decide) rfl hr (fun hr => ?_) (fun hr => ?_)
  · refine mb_aload_n (pn := 21) 0 dX6_low_20 rfl rfl rfl ?_
    refine mb_iload_n (pn := 22) 1 dX6_low_21 rfl rfl rfl ?_
    refine cl_X6_72 (pn := 25) hst hg (Nat.le_of_ble_eq_true rfl) (Nat.le_of_ble_eq_true rfl) dX6_low_22 rfl hr (fun y104 h103 hr => ?_)
    cases hr
    exact mb_iret dX6_low_25
  · refine mb_iconst (v := 0) (pn := 17) dX6_low_16 (by decide) rfl ?_
    refine mb_goto (tgt := 25) dX6_low_17 (by decide) ?_
    cases hr
    exact mb_iret dX6_low_25
def F_X6_low (x1 : Int32) (h : mb_AH) : Option mb_RS := (if 0 ≤ x1 then (B_X6_low_10  x1 0 h) else (B_X6_low_10  x1 1 h))
set_option maxRecDepth 100000 in
set_option maxHeartbeats 4000000 in
theorem C_X6_low {l : Launch} {G : mb_G} (hst : l.stackTraces = false) (hg : mb_gok G) {x1 : Int32} {h : mb_AH} {res : mb_RS} (hr : F_X6_low x1 h = some res) : mb_Mt l G yX6_low cX6_low 2 (some .int) 1 [mb_F 6 0 0, .inl x1] h res := by
  refine mb_entry (own := RX6) (lv := [(0, mb_F 6 0 0), (1, .inl x1)]) (by decide +kernel) rfl (Nat.le_of_ble_eq_true rfl) rfl rfl (fun _ => ?_) hst hg
  unfold F_X6_low at hr
  refine mb_aload_n (pn := 1) 0 dX6_low_0 rfl rfl rfl ?_
  refine mb_iload_n (pn := 2) 1 dX6_low_1 rfl rfl rfl ?_
  refine mb_if_ge (tgt := 9) (pn := 5) dX6_low_2 (by decide) rfl hr (fun hr => ?_) (fun hr => ?_)
  · refine mb_iconst (v := 0) (pn := 10) dX6_low_9 (by decide) rfl ?_
    exact mb_lvs [0, 1] rfl (T_X6_low_10 hst hg  hr)
  · refine mb_iconst (v := 1) (pn := 6) dX6_low_5 (by decide) rfl ?_
    refine mb_goto (tgt := 10) dX6_low_6 (by decide) ?_
    exact mb_lvs [0, 1] rfl (T_X6_low_10 hst hg  hr)
def F_X6_isRate (x1 : Int32) (h : mb_AH) : Option mb_RS := (mb_cI (F_X6_within x1 (0 : Int32) (9999999 : Int32) h) fun y102 h101 => (mb_gZ y102 (some (.inl (some (.inl y102)), h101))))
set_option maxRecDepth 100000 in
set_option maxHeartbeats 4000000 in
theorem C_X6_isRate {l : Launch} {G : mb_G} (hst : l.stackTraces = false) (hg : mb_gok G) {x1 : Int32} {h : mb_AH} {res : mb_RS} (hr : F_X6_isRate x1 h = some res) : mb_Mt l G yX6_isRate cX6_isRate 1 (some .boolean) 1 [.inl x1] h res := by
  refine mb_entry (own := RX6) (lv := [(0, .inl x1)]) (by decide +kernel) rfl (Nat.le_of_ble_eq_true rfl) rfl rfl (fun _ => ?_) hst hg
  unfold F_X6_isRate at hr
  refine mb_iload_n (pn := 1) 0 dX6_isRate_0 rfl rfl rfl ?_
  refine mb_iconst (v := 0) (pn := 2) dX6_isRate_1 (by decide) rfl ?_
  refine mb_ldc (v := 9999999) (pn := 4) wk_X6_145 dX6_isRate_2 rfl ?_
  refine cl_X6_46 (pn := 7) hst hg (Nat.le_of_ble_eq_true rfl) (Nat.le_of_ble_eq_true rfl) dX6_isRate_4 rfl hr (fun y102 h101 hr => ?_)
  exact mb_zret dX6_isRate_7 hr
def B_X6_addBerth_127  (v4 : Int32) (v6 : Int32) (s0 : Int32) (s1 : Int32) (h : mb_AH) : Option mb_RS := (mb_gB s1 270 (mb_up (mb_sI h 20 0 0 s1.toNatClampNeg s0) fun h109 => (mb_gB (v6 + 3) 270 (mb_up (mb_sI h109 20 0 0 (v6 + 3).toNatClampNeg v4) fun h110 => (mb_gB 6 270 (mb_gB 6 270 (mb_up (mb_sI h110 20 0 0 (6 : Int32).toNatClampNeg ((h110.1 20 0 0 (6 : Int32).toNatClampNeg) + 1)) fun h111 => (mb_gB 6 270 (some (.inl (some (.inl ((h111.1 20 0 0 (6 : Int32).toNatClampNeg) - 1))), h111))))))))))
set_option maxRecDepth 100000 in
set_option maxHeartbeats 4000000 in
theorem T_X6_addBerth_127 {l : Launch} {G : mb_G} {res : mb_RS} (hst : l.stackTraces = false) (hg : mb_gok G)   {v4 : Int32} {v6 : Int32} {s0 : Int32} {s1 : Int32} {h : mb_AH} (hr : B_X6_addBerth_127  v4 v6 s0 s1 h = some res) : mb_Ev l G RX6 cX6_addBerth 7 (some .int) 2 127 [(0, mb_F 6 0 0), (4, .inl v4), (6, .inl v6)] [.inl s0, .inl s1, mb_F 20 0 0] h res := by
  unfold B_X6_addBerth_127 at hr
  refine mb_iast (pn := 128) (n := 270) rfl rfl dX6_addBerth_127 rfl hr (fun hr => ?_)
  refine mb_nmh hr (fun h109 hr => ?_)
  refine mb_aload_n (pn := 129) 0 dX6_addBerth_128 rfl rfl rfl ?_
  refine gf_X6_7 (pn := 132) dX6_addBerth_129 rfl ?_
  refine mb_iload (pn := 134) 2 dX6_addBerth_132 rfl rfl ?_
  refine mb_iconst (v := 3) (pn := 135) dX6_addBerth_134 (by decide) rfl ?_
  refine mb_iadd (pn := 136) dX6_addBerth_135 rfl ?_
  refine mb_iload (pn := 138) 1 dX6_addBerth_136 rfl rfl ?_
  refine mb_iast (pn := 139) (n := 270) rfl rfl dX6_addBerth_138 rfl hr (fun hr => ?_)
  refine mb_nmh hr (fun h110 hr => ?_)
  refine mb_aload_n (pn := 140) 0 dX6_addBerth_139 rfl rfl rfl ?_
  refine gf_X6_7 (pn := 143) dX6_addBerth_140 rfl ?_
  refine mb_bipush (v := 6) (pn := 145) dX6_addBerth_143 (by decide) rfl ?_
  refine mb_dup2 (pn := 146) rfl rfl dX6_addBerth_145 rfl ?_
  refine mb_iald (pn := 147) (n := 270) rfl dX6_addBerth_146 rfl hr (fun hr => ?_)
  refine mb_iconst (v := 1) (pn := 148) dX6_addBerth_147 (by decide) rfl ?_
  refine mb_iadd (pn := 149) dX6_addBerth_148 rfl ?_
  refine mb_iast (pn := 150) (n := 270) rfl rfl dX6_addBerth_149 rfl hr (fun hr => ?_)
  refine mb_nmh hr (fun h111 hr => ?_)
  refine mb_aload_n (pn := 151) 0 dX6_addBerth_150 rfl rfl rfl ?_
  refine gf_X6_7 (pn := 154) dX6_addBerth_151 rfl ?_
  refine mb_bipush (v := 6) (pn := 156) dX6_addBerth_154 (by decide) rfl ?_
  refine mb_iald (pn := 157) (n := 270) rfl dX6_addBerth_156 rfl hr (fun hr => ?_)
  refine mb_iconst (v := 1) (pn := 158) dX6_addBerth_157 (by decide) rfl ?_
  refine mb_isub (pn := 159) dX6_addBerth_158 rfl ?_
  cases hr
  exact mb_iret dX6_addBerth_159
def B_X6_addBerth_66  (v1 : Int32) (v2 : Int32) (v3 : Int32) (v4 : Int32) (s0 : Int32) (h : mb_AH) : Option mb_RS := (mb_cI (F_X6_refused s0 h) fun y104 h103 => (if y104 = 0 then (mb_cV (F_X6_saves h103) fun h105 => (mb_gB 6 270 (mb_lI ((26 : Int32) + ((4 : Int32) * (h105.1 20 0 0 (6 : Int32).toNatClampNeg))) fun y106 => (mb_gB y106 270 (mb_up (mb_sI h105 20 0 0 y106.toNatClampNeg v1) fun h107 => (mb_gB (y106 + 1) 270 (mb_up (mb_sI h107 20 0 0 (y106 + 1).toNatClampNeg v2) fun h108 => (if v3 = 0 then (B_X6_addBerth_127  v4 y106 0 (y106 + 2) h108) else (B_X6_addBerth_127  v4 y106 1 (y106 + 2) h108))))))))) else (some (.inl (some (.inl 0)), h103))))
set_option maxRecDepth 100000 in
set_option maxHeartbeats 4000000 in
theorem T_X6_addBerth_66 {l : Launch} {G : mb_G} {res : mb_RS} (hst : l.stackTraces = false) (hg : mb_gok G)   {v1 : Int32} {v2 : Int32} {v3 : Int32} {v4 : Int32} {s0 : Int32} {h : mb_AH} (hr : B_X6_addBerth_66  v1 v2 v3 v4 s0 h = some res) : mb_Ev l G RX6 cX6_addBerth 7 (some .int) 2 66 [(0, mb_F 6 0 0), (1, .inl v1), (2, .inl v2), (3, .inl v3), (4, .inl v4)] [.inl s0, mb_F 6 0 0] h res := by
  unfold B_X6_addBerth_66 at hr
  refine cl_X6_42 (pn := 69) hst hg (Nat.le_of_ble_eq_true rfl) (Nat.le_of_ble_eq_true rfl) dX6_addBerth_66 rfl hr (fun y104 h103 hr => ?_)
  refine mb_if_eq (tgt := 74) (pn := 72) dX6_addBerth_69 (by decide) rfl hr (fun hr => ?_) (fun hr => ?_)
  · refine mb_aload_n (pn := 75) 0 dX6_addBerth_74 rfl rfl rfl ?_
    refine cl_X6_142 (pn := 78) hst hg (Nat.le_of_ble_eq_true rfl) (Nat.le_of_ble_eq_true rfl) dX6_addBerth_75 rfl hr (fun h105 hr => ?_)
    refine mb_bipush (v := 26) (pn := 80) dX6_addBerth_78 (by decide) rfl ?_
    refine mb_iconst (v := 4) (pn := 81) dX6_addBerth_80 (by decide) rfl ?_
    refine mb_aload_n (pn := 82) 0 dX6_addBerth_81 rfl rfl rfl ?_
    refine gf_X6_7 (pn := 85) dX6_addBerth_82 rfl ?_
    refine mb_bipush (v := 6) (pn := 87) dX6_addBerth_85 (by decide) rfl ?_
    refine mb_iald (pn := 88) (n := 270) rfl dX6_addBerth_87 rfl hr (fun hr => ?_)
    refine mb_imul (pn := 89) dX6_addBerth_88 rfl ?_
    refine mb_iadd (pn := 90) dX6_addBerth_89 rfl ?_
    refine mb_nmI hr (fun y106 hr => ?_)
    refine mb_istore (pn := 92) (lv2 := [(6, .inl y106), (0, mb_F 6 0 0), (1, .inl v1), (2, .inl v2), (3, .inl v3), (4, .inl v4)]) dX6_addBerth_90 (by decide) rfl rfl ?_
    refine mb_aload_n (pn := 93) 1 dX6_addBerth_92 rfl rfl rfl ?_
    refine gf_X6_7 (pn := 96) dX6_addBerth_93 rfl ?_
    refine mb_iload (pn := 98) 0 dX6_addBerth_96 rfl rfl ?_
    refine mb_iload_n (pn := 99) 2 dX6_addBerth_98 rfl rfl rfl ?_
    refine mb_iast (pn := 100) (n := 270) rfl rfl dX6_addBerth_99 rfl hr (fun hr => ?_)
    refine mb_nmh hr (fun h107 hr => ?_)
    refine mb_aload_n (pn := 101) 1 dX6_addBerth_100 rfl rfl rfl ?_
    refine gf_X6_7 (pn := 104) dX6_addBerth_101 rfl ?_
    refine mb_iload (pn := 106) 0 dX6_addBerth_104 rfl rfl ?_
    refine mb_iconst (v := 1) (pn := 107) dX6_addBerth_106 (by decide) rfl ?_
    refine mb_iadd (pn := 108) dX6_addBerth_107 rfl ?_
    refine mb_iload_n (pn := 109) 3 dX6_addBerth_108 rfl rfl rfl ?_
    refine mb_iast (pn := 110) (n := 270) rfl rfl dX6_addBerth_109 rfl hr (fun hr => ?_)
    refine mb_nmh hr (fun h108 hr => ?_)
    refine mb_aload_n (pn := 111) 1 dX6_addBerth_110 rfl rfl rfl ?_
    refine gf_X6_7 (pn := 114) dX6_addBerth_111 rfl ?_
    refine mb_iload (pn := 116) 0 dX6_addBerth_114 rfl rfl ?_
    refine mb_iconst (v := 2) (pn := 117) dX6_addBerth_116 (by decide) rfl ?_
    refine mb_iadd (pn := 118) dX6_addBerth_117 rfl ?_
    refine mb_iload_n (pn := 119) 4 dX6_addBerth_118 rfl rfl rfl ?_
    refine mb_if_eq (tgt := 126) (pn := 122) dX6_addBerth_119 (by decide) rfl hr (fun hr => ?_) (fun hr => ?_)
    · refine mb_iconst (v := 0) (pn := 127) dX6_addBerth_126 (by decide) rfl ?_
      exact mb_lvs [1, 5, 0] rfl (T_X6_addBerth_127 hst hg  hr)
    · refine mb_iconst (v := 1) (pn := 123) dX6_addBerth_122 (by decide) rfl ?_
      refine mb_goto (tgt := 127) dX6_addBerth_123 (by decide) ?_
      exact mb_lvs [1, 5, 0] rfl (T_X6_addBerth_127 hst hg  hr)
  · refine mb_iconst (v := 0) (pn := 73) dX6_addBerth_72 (by decide) rfl ?_
    cases hr
    exact mb_iret dX6_addBerth_73
def B_X6_addBerth_37  (v1 : Int32) (v2 : Int32) (v3 : Int32) (v4 : Int32) (s0 : Int32) (h : mb_AH) : Option mb_RS := (if s0 = 0 then (B_X6_addBerth_66  v1 v2 v3 v4 1 h) else (mb_gB 6 270 (if (h.1 20 0 0 (6 : Int32).toNatClampNeg) = 16 then (B_X6_addBerth_66  v1 v2 v3 v4 2 h) else (B_X6_addBerth_66  v1 v2 v3 v4 0 h))))
set_option maxRecDepth 100000 in
set_option maxHeartbeats 4000000 in
theorem T_X6_addBerth_37 {l : Launch} {G : mb_G} {res : mb_RS} (hst : l.stackTraces = false) (hg : mb_gok G)   {v1 : Int32} {v2 : Int32} {v3 : Int32} {v4 : Int32} {s0 : Int32} {h : mb_AH} (hr : B_X6_addBerth_37  v1 v2 v3 v4 s0 h = some res) : mb_Ev l G RX6 cX6_addBerth 7 (some .int) 2 37 [(0, mb_F 6 0 0), (1, .inl v1), (2, .inl v2), (3, .inl v3), (4, .inl v4)] [.inl s0] h res := by
  unfold B_X6_addBerth_37 at hr
  refine mb_istore (pn := 39) (lv2 := [(5, .inl s0), (0, mb_F 6 0 0), (1, .inl v1), (2, .inl v2), (3, .inl v3), (4, .inl v4)]) dX6_addBerth_37 (by decide) rfl rfl ?_
  refine mb_aload_n (pn := 40) 1 dX6_addBerth_39 rfl rfl rfl ?_
  refine mb_iload (pn := 42) 0 dX6_addBerth_40 rfl rfl ?_
  refine mb_if_ne (tgt := 49) (pn := 45) dX6_addBerth_42 (by decide) rfl hr (fun hr => ?_) (fun hr => ?_)
  · refine mb_aload_n (pn := 50) 1 dX6_addBerth_49 rfl rfl rfl ?_
    refine gf_X6_7 (pn := 53) dX6_addBerth_50 rfl ?_
    refine mb_bipush (v := 6) (pn := 55) dX6_addBerth_53 (by decide) rfl ?_
    refine mb_iald (pn := 56) (n := 270) rfl dX6_addBerth_55 rfl hr (fun hr => ?_)
    refine mb_bipush (v := 16) (pn := 58) dX6_addBerth_56 (by decide) rfl ?_
    refine mb_ic_ne (tgt := 65) (pn := 61) dX6_addBerth_58 (by decide) rfl hr (fun hr => ?_) (fun hr => ?_)
    · refine mb_iconst (v := 0) (pn := 66) dX6_addBerth_65 (by decide) rfl ?_
      exact mb_lvs [1, 2, 3, 4, 5] rfl (T_X6_addBerth_66 hst hg  hr)
    · refine mb_iconst (v := 2) (pn := 62) dX6_addBerth_61 (by decide) rfl ?_
      refine mb_goto (tgt := 66) dX6_addBerth_62 (by decide) ?_
      exact mb_lvs [1, 2, 3, 4, 5] rfl (T_X6_addBerth_66 hst hg  hr)
  · refine mb_iconst (v := 1) (pn := 46) dX6_addBerth_45 (by decide) rfl ?_
    refine mb_goto (tgt := 66) dX6_addBerth_46 (by decide) ?_
    exact mb_lvs [1, 2, 3, 4, 5] rfl (T_X6_addBerth_66 hst hg  hr)
def B_X6_addBerth_36  (v1 : Int32) (v2 : Int32) (v3 : Int32) (v4 : Int32) (h : mb_AH) : Option mb_RS := (B_X6_addBerth_37  v1 v2 v3 v4 0 h)
set_option maxRecDepth 100000 in
set_option maxHeartbeats 4000000 in
theorem T_X6_addBerth_36 {l : Launch} {G : mb_G} {res : mb_RS} (hst : l.stackTraces = false) (hg : mb_gok G)   {v1 : Int32} {v2 : Int32} {v3 : Int32} {v4 : Int32} {h : mb_AH} (hr : B_X6_addBerth_36  v1 v2 v3 v4 h = some res) : mb_Ev l G RX6 cX6_addBerth 7 (some .int) 2 36 [(0, mb_F 6 0 0), (1, .inl v1), (2, .inl v2), (3, .inl v3), (4, .inl v4)] [] h res := by
  unfold B_X6_addBerth_36 at hr
  refine mb_iconst (v := 0) (pn := 37) dX6_addBerth_36 (by decide) rfl ?_
  exact mb_lvs [0, 1, 2, 3, 4] rfl (T_X6_addBerth_37 hst hg  hr)
set_option maxRecDepth 100000 in
set_option maxHeartbeats 4000000 in
theorem cl_X6_146 {l : Launch} {G : mb_G} {cc : ByteArray} {nL : Nat} {ret : Option FieldType} {d pc pn : Nat} {lv : List (Nat × mb_AV)} {st : List mb_AV} {h : mb_AH} {res : mb_RS} (hst : l.stackTraces = false) (hg : mb_gok G) {x1 : Int32} {K : Int32 → mb_AH → Option mb_RS} (hd2 : 1 + 1 ≤ d) (hs4 : st.length ≤ 4) (dg : decode cc pc = .ok (.invokestatic 146, 3)) (hn : pc + 3 = pn) (hr : mb_cI (F_X6_isRate x1 h) K = some res) (kk : ∀ (x : Int32) (h2 : mb_AH), K x h2 = some res → mb_Ev l G RX6 cc nL ret d pn lv (.inl x :: st) h2 res) : mb_Ev l G RX6 cc nL ret d pc lv (.inl x1 :: st) h res := mb_kSI (as := [.inl x1]) (n := 1) (d2 := 1) (fun _ hf => C_X6_isRate hst hg hf) (mb_gS wl_X6_146 mt_X6_isRate mn_X6 mc_X6_isRate) (by decide +kernel) rfl hd2 (by decide) hs4 rfl dg hn hr kk
def F_X6_addBerth (x1 : Int32) (x2 : Int32) (x3 : Int32) (x4 : Int32) (h : mb_AH) : Option mb_RS := (mb_cI (F_X6_within x1 (50 : Int32) (900 : Int32) h) fun y102 h101 => (if y102 = 0 then (B_X6_addBerth_36  x1 x2 x3 x4 h101) else (mb_cI (F_X6_within x2 (30 : Int32) (400 : Int32) h101) fun y113 h112 => (if y113 = 0 then (B_X6_addBerth_36  x1 x2 x3 x4 h112) else (mb_cI (F_X6_isRate x4 h112) fun y115 h114 => (if y115 = 0 then (B_X6_addBerth_36  x1 x2 x3 x4 h114) else (B_X6_addBerth_37  x1 x2 x3 x4 1 h114)))))))
set_option maxRecDepth 100000 in
set_option maxHeartbeats 4000000 in
theorem C_X6_addBerth {l : Launch} {G : mb_G} (hst : l.stackTraces = false) (hg : mb_gok G) {x1 : Int32} {x2 : Int32} {x3 : Int32} {x4 : Int32} {h : mb_AH} {res : mb_RS} (hr : F_X6_addBerth x1 x2 x3 x4 h = some res) : mb_Mt l G yX6_addBerth cX6_addBerth 7 (some .int) 2 [mb_F 6 0 0, .inl x1, .inl x2, .inl x3, .inl x4] h res := by
  refine mb_entry (own := RX6) (lv := [(0, mb_F 6 0 0), (1, .inl x1), (2, .inl x2), (3, .inl x3), (4, .inl x4)]) (by decide +kernel) rfl (Nat.le_of_ble_eq_true rfl) rfl rfl (fun _ => ?_) hst hg
  unfold F_X6_addBerth at hr
  refine mb_iload_n (pn := 1) 1 dX6_addBerth_0 rfl rfl rfl ?_
  refine mb_bipush (v := 50) (pn := 3) dX6_addBerth_1 (by decide) rfl ?_
  refine mb_sipush (v := 900) (pn := 6) dX6_addBerth_3 (by decide) rfl ?_
  refine cl_X6_46 (pn := 9) hst hg (Nat.le_of_ble_eq_true rfl) (Nat.le_of_ble_eq_true rfl) dX6_addBerth_6 rfl hr (fun y102 h101 hr => ?_)
  refine mb_if_eq (tgt := 36) (pn := 12) dX6_addBerth_9 (by decide) rfl hr (fun hr => ?_) (fun hr => ?_)
  · exact mb_lvs [0, 1, 2, 3, 4] rfl (T_X6_addBerth_36 hst hg  hr)
  · refine mb_iload_n (pn := 13) 2 dX6_addBerth_12 rfl rfl rfl ?_
    refine mb_bipush (v := 30) (pn := 15) dX6_addBerth_13 (by decide) rfl ?_
    refine mb_sipush (v := 400) (pn := 18) dX6_addBerth_15 (by decide) rfl ?_
    refine cl_X6_46 (pn := 21) hst hg (Nat.le_of_ble_eq_true rfl) (Nat.le_of_ble_eq_true rfl) dX6_addBerth_18 rfl hr (fun y113 h112 hr => ?_)
    refine mb_if_eq (tgt := 36) (pn := 24) dX6_addBerth_21 (by decide) rfl hr (fun hr => ?_) (fun hr => ?_)
    · exact mb_lvs [0, 1, 2, 3, 4] rfl (T_X6_addBerth_36 hst hg  hr)
    · refine mb_iload (pn := 26) 4 dX6_addBerth_24 rfl rfl ?_
      refine cl_X6_146 (pn := 29) hst hg (Nat.le_of_ble_eq_true rfl) (Nat.le_of_ble_eq_true rfl) dX6_addBerth_26 rfl hr (fun y115 h114 hr => ?_)
      refine mb_if_eq (tgt := 36) (pn := 32) dX6_addBerth_29 (by decide) rfl hr (fun hr => ?_) (fun hr => ?_)
      · exact mb_lvs [0, 1, 2, 3, 4] rfl (T_X6_addBerth_36 hst hg  hr)
      · refine mb_iconst (v := 1) (pn := 33) dX6_addBerth_32 (by decide) rfl ?_
        refine mb_goto (tgt := 37) dX6_addBerth_33 (by decide) ?_
        exact mb_lvs [0, 1, 2, 3, 4] rfl (T_X6_addBerth_37 hst hg  hr)
def B_X6_addBoat_103  : Nat → Int32 → Int32 → Int32 → Int32 → Int32 → mb_AH → Option mb_RS
  | 0, _, _, _, _, _, _ => none
  | n + 1, v1, v2, v3, v5, v6, h => (if 9 ≤ v6 then (mb_cV (F_X6_sets v5 (0 : Int32) v1 h) fun h108 => (mb_cV (F_X6_sets v5 (1 : Int32) v2 h108) fun h109 => (mb_cV (F_X6_sets v5 (2 : Int32) v3 h109) fun h110 => (mb_cV (F_X6_sets v5 (4 : Int32) ((-1) : Int32) h110) fun h111 => (mb_cV (F_X6_sets v5 (7 : Int32) ((-1) : Int32) h111) fun h112 => (some (.inl (some (.inl v5)), h112))))))) else (mb_cV (F_X6_sets v5 v6 (0 : Int32) h) fun h113 => (mb_lI (v6 + 1) fun y114 => ((B_X6_addBoat_103  n) v1 v2 v3 v5 y114 h113))))
set_option maxRecDepth 100000 in
set_option maxHeartbeats 4000000 in
theorem T_X6_addBoat_103 {l : Launch} {G : mb_G} {res : mb_RS} (hst : l.stackTraces = false) (hg : mb_gok G)   : ∀ (n : Nat) (v1 : Int32) (v2 : Int32) (v3 : Int32) (v5 : Int32) (v6 : Int32) (h : mb_AH), B_X6_addBoat_103  n v1 v2 v3 v5 v6 h = some res → mb_Ev l G RX6 cX6_addBoat 7 (some .int) 1 103 [(0, mb_F 6 0 0), (1, .inl v1), (2, .inl v2), (3, .inl v3), (5, .inl v5), (6, .inl v6)] [] h res := by
  intro n
  induction n with
  | zero => intro v1 v2 v3 v5 v6 h hr; cases hr
  | succ n ih =>
    intro v1 v2 v3 v5 v6 h hr
    rw [B_X6_addBoat_103] at hr
    refine mb_iload (pn := 105) 5 dX6_addBoat_103 rfl rfl ?_
    refine mb_bipush (v := 9) (pn := 107) dX6_addBoat_105 (by decide) rfl ?_
    refine mb_ic_ge (tgt := 125) (pn := 110) dX6_addBoat_107 (by decide) rfl hr (fun hr => ?_) (fun hr => ?_)
    · refine mb_aload_n (pn := 126) 0 dX6_addBoat_125 rfl rfl rfl ?_
      refine mb_iload (pn := 128) 4 dX6_addBoat_126 rfl rfl ?_
      refine mb_iconst (v := 0) (pn := 129) dX6_addBoat_128 (by decide) rfl ?_
      refine mb_iload_n (pn := 130) 1 dX6_addBoat_129 rfl rfl rfl ?_
      refine cl_X6_75 (pn := 133) hst hg (Nat.le_of_ble_eq_true rfl) (Nat.le_of_ble_eq_true rfl) dX6_addBoat_130 rfl hr (fun h108 hr => ?_)
      refine mb_aload_n (pn := 134) 0 dX6_addBoat_133 rfl rfl rfl ?_
      refine mb_iload (pn := 136) 4 dX6_addBoat_134 rfl rfl ?_
      refine mb_iconst (v := 1) (pn := 137) dX6_addBoat_136 (by decide) rfl ?_
      refine mb_iload_n (pn := 138) 2 dX6_addBoat_137 rfl rfl rfl ?_
      refine cl_X6_75 (pn := 141) hst hg (Nat.le_of_ble_eq_true rfl) (Nat.le_of_ble_eq_true rfl) dX6_addBoat_138 rfl hr (fun h109 hr => ?_)
      refine mb_aload_n (pn := 142) 0 dX6_addBoat_141 rfl rfl rfl ?_
      refine mb_iload (pn := 144) 4 dX6_addBoat_142 rfl rfl ?_
      refine mb_iconst (v := 2) (pn := 145) dX6_addBoat_144 (by decide) rfl ?_
      refine mb_iload_n (pn := 146) 3 dX6_addBoat_145 rfl rfl rfl ?_
      refine cl_X6_75 (pn := 149) hst hg (Nat.le_of_ble_eq_true rfl) (Nat.le_of_ble_eq_true rfl) dX6_addBoat_146 rfl hr (fun h110 hr => ?_)
      refine mb_aload_n (pn := 150) 0 dX6_addBoat_149 rfl rfl rfl ?_
      refine mb_iload (pn := 152) 4 dX6_addBoat_150 rfl rfl ?_
      refine mb_iconst (v := 4) (pn := 153) dX6_addBoat_152 (by decide) rfl ?_
      refine mb_iconst (v := (-1)) (pn := 154) dX6_addBoat_153 (by decide) rfl ?_
      refine cl_X6_75 (pn := 157) hst hg (Nat.le_of_ble_eq_true rfl) (Nat.le_of_ble_eq_true rfl) dX6_addBoat_154 rfl hr (fun h111 hr => ?_)
      refine mb_aload_n (pn := 158) 0 dX6_addBoat_157 rfl rfl rfl ?_
      refine mb_iload (pn := 160) 4 dX6_addBoat_158 rfl rfl ?_
      refine mb_bipush (v := 7) (pn := 162) dX6_addBoat_160 (by decide) rfl ?_
      refine mb_iconst (v := (-1)) (pn := 163) dX6_addBoat_162 (by decide) rfl ?_
      refine cl_X6_75 (pn := 166) hst hg (Nat.le_of_ble_eq_true rfl) (Nat.le_of_ble_eq_true rfl) dX6_addBoat_163 rfl hr (fun h112 hr => ?_)
      refine mb_iload (pn := 168) 4 dX6_addBoat_166 rfl rfl ?_
      cases hr
      exact mb_iret dX6_addBoat_168
    · refine mb_aload_n (pn := 111) 0 dX6_addBoat_110 rfl rfl rfl ?_
      refine mb_iload (pn := 113) 4 dX6_addBoat_111 rfl rfl ?_
      refine mb_iload (pn := 115) 5 dX6_addBoat_113 rfl rfl ?_
      refine mb_iconst (v := 0) (pn := 116) dX6_addBoat_115 (by decide) rfl ?_
      refine cl_X6_75 (pn := 119) hst hg (Nat.le_of_ble_eq_true rfl) (Nat.le_of_ble_eq_true rfl) dX6_addBoat_116 rfl hr (fun h113 hr => ?_)
      refine mb_nmx hr (fun y114 qy114 hr => ?_)
      refine mb_iinc (v := y114) (pn := 122) (lv2 := [(6, .inl y114), (0, mb_F 6 0 0), (1, .inl v1), (2, .inl v2), (3, .inl v3), (5, .inl v5)]) 5 dX6_addBoat_119 rfl (by rw [qy114]; rfl) (by decide) rfl rfl ?_
      refine mb_goto (tgt := 103) dX6_addBoat_122 (by decide) ?_
      exact mb_lvs [1, 2, 3, 4, 5, 0] rfl (ih _ _ _ _ _ _ hr)
def B_X6_addBoat_68  (v1 : Int32) (v2 : Int32) (v3 : Int32) (s0 : Int32) (h : mb_AH) : Option mb_RS := (mb_cI (F_X6_refused s0 h) fun y104 h103 => (if y104 = 0 then (mb_cV (F_X6_saves h103) fun h105 => (mb_gB 7 270 (mb_lI (h105.1 20 0 0 (7 : Int32).toNatClampNeg) fun y106 => (mb_gB 7 270 (mb_gB 7 270 (mb_up (mb_sI h105 20 0 0 (7 : Int32).toNatClampNeg ((h105.1 20 0 0 (7 : Int32).toNatClampNeg) + 1)) fun h107 => (B_X6_addBoat_103  mb_fu v1 v2 v3 y106 0 h107))))))) else (some (.inl (some (.inl 0)), h103))))
set_option maxRecDepth 100000 in
set_option maxHeartbeats 4000000 in
theorem T_X6_addBoat_68 {l : Launch} {G : mb_G} {res : mb_RS} (hst : l.stackTraces = false) (hg : mb_gok G)   {v1 : Int32} {v2 : Int32} {v3 : Int32} {s0 : Int32} {h : mb_AH} (hr : B_X6_addBoat_68  v1 v2 v3 s0 h = some res) : mb_Ev l G RX6 cX6_addBoat 7 (some .int) 1 68 [(0, mb_F 6 0 0), (1, .inl v1), (2, .inl v2), (3, .inl v3)] [.inl s0, mb_F 6 0 0] h res := by
  unfold B_X6_addBoat_68 at hr
  refine cl_X6_42 (pn := 71) hst hg (Nat.le_of_ble_eq_true rfl) (Nat.le_of_ble_eq_true rfl) dX6_addBoat_68 rfl hr (fun y104 h103 hr => ?_)
  refine mb_if_eq (tgt := 76) (pn := 74) dX6_addBoat_71 (by decide) rfl hr (fun hr => ?_) (fun hr => ?_)
  · refine mb_aload_n (pn := 77) 0 dX6_addBoat_76 rfl rfl rfl ?_
    refine cl_X6_142 (pn := 80) hst hg (Nat.le_of_ble_eq_true rfl) (Nat.le_of_ble_eq_true rfl) dX6_addBoat_77 rfl hr (fun h105 hr => ?_)
    refine mb_aload_n (pn := 81) 0 dX6_addBoat_80 rfl rfl rfl ?_
    refine gf_X6_7 (pn := 84) dX6_addBoat_81 rfl ?_
    refine mb_bipush (v := 7) (pn := 86) dX6_addBoat_84 (by decide) rfl ?_
    refine mb_iald (pn := 87) (n := 270) rfl dX6_addBoat_86 rfl hr (fun hr => ?_)
    refine mb_nmI hr (fun y106 hr => ?_)
    refine mb_istore (pn := 89) (lv2 := [(5, .inl y106), (0, mb_F 6 0 0), (1, .inl v1), (2, .inl v2), (3, .inl v3)]) dX6_addBoat_87 (by decide) rfl rfl ?_
    refine mb_aload_n (pn := 90) 1 dX6_addBoat_89 rfl rfl rfl ?_
    refine gf_X6_7 (pn := 93) dX6_addBoat_90 rfl ?_
    refine mb_bipush (v := 7) (pn := 95) dX6_addBoat_93 (by decide) rfl ?_
    refine mb_dup2 (pn := 96) rfl rfl dX6_addBoat_95 rfl ?_
    refine mb_iald (pn := 97) (n := 270) rfl dX6_addBoat_96 rfl hr (fun hr => ?_)
    refine mb_iconst (v := 1) (pn := 98) dX6_addBoat_97 (by decide) rfl ?_
    refine mb_iadd (pn := 99) dX6_addBoat_98 rfl ?_
    refine mb_iast (pn := 100) (n := 270) rfl rfl dX6_addBoat_99 rfl hr (fun hr => ?_)
    refine mb_nmh hr (fun h107 hr => ?_)
    refine mb_iconst (v := 0) (pn := 101) dX6_addBoat_100 (by decide) rfl ?_
    refine mb_istore (pn := 103) (lv2 := [(6, .inl 0), (5, .inl y106), (0, mb_F 6 0 0), (1, .inl v1), (2, .inl v2), (3, .inl v3)]) dX6_addBoat_101 (by decide) rfl rfl ?_
    exact mb_lvs [2, 3, 4, 5, 1, 0] rfl (T_X6_addBoat_103 hst hg  mb_fu _ _ _ _ _ _ hr)
  · refine mb_iconst (v := 0) (pn := 75) dX6_addBoat_74 (by decide) rfl ?_
    cases hr
    exact mb_iret dX6_addBoat_75
def B_X6_addBoat_39  (v1 : Int32) (v2 : Int32) (v3 : Int32) (s0 : Int32) (h : mb_AH) : Option mb_RS := (if s0 = 0 then (B_X6_addBoat_68  v1 v2 v3 1 h) else (mb_gB 7 270 (if (h.1 20 0 0 (7 : Int32).toNatClampNeg) = 20 then (B_X6_addBoat_68  v1 v2 v3 2 h) else (B_X6_addBoat_68  v1 v2 v3 0 h))))
set_option maxRecDepth 100000 in
set_option maxHeartbeats 4000000 in
theorem T_X6_addBoat_39 {l : Launch} {G : mb_G} {res : mb_RS} (hst : l.stackTraces = false) (hg : mb_gok G)   {v1 : Int32} {v2 : Int32} {v3 : Int32} {s0 : Int32} {h : mb_AH} (hr : B_X6_addBoat_39  v1 v2 v3 s0 h = some res) : mb_Ev l G RX6 cX6_addBoat 7 (some .int) 1 39 [(0, mb_F 6 0 0), (1, .inl v1), (2, .inl v2), (3, .inl v3)] [.inl s0] h res := by
  unfold B_X6_addBoat_39 at hr
  refine mb_istore (pn := 41) (lv2 := [(4, .inl s0), (0, mb_F 6 0 0), (1, .inl v1), (2, .inl v2), (3, .inl v3)]) dX6_addBoat_39 (by decide) rfl rfl ?_
  refine mb_aload_n (pn := 42) 1 dX6_addBoat_41 rfl rfl rfl ?_
  refine mb_iload (pn := 44) 0 dX6_addBoat_42 rfl rfl ?_
  refine mb_if_ne (tgt := 51) (pn := 47) dX6_addBoat_44 (by decide) rfl hr (fun hr => ?_) (fun hr => ?_)
  · refine mb_aload_n (pn := 52) 1 dX6_addBoat_51 rfl rfl rfl ?_
    refine gf_X6_7 (pn := 55) dX6_addBoat_52 rfl ?_
    refine mb_bipush (v := 7) (pn := 57) dX6_addBoat_55 (by decide) rfl ?_
    refine mb_iald (pn := 58) (n := 270) rfl dX6_addBoat_57 rfl hr (fun hr => ?_)
    refine mb_bipush (v := 20) (pn := 60) dX6_addBoat_58 (by decide) rfl ?_
    refine mb_ic_ne (tgt := 67) (pn := 63) dX6_addBoat_60 (by decide) rfl hr (fun hr => ?_) (fun hr => ?_)
    · refine mb_iconst (v := 0) (pn := 68) dX6_addBoat_67 (by decide) rfl ?_
      exact mb_lvs [1, 2, 3, 4] rfl (T_X6_addBoat_68 hst hg  hr)
    · refine mb_iconst (v := 2) (pn := 64) dX6_addBoat_63 (by decide) rfl ?_
      refine mb_goto (tgt := 68) dX6_addBoat_64 (by decide) ?_
      exact mb_lvs [1, 2, 3, 4] rfl (T_X6_addBoat_68 hst hg  hr)
  · refine mb_iconst (v := 1) (pn := 48) dX6_addBoat_47 (by decide) rfl ?_
    refine mb_goto (tgt := 68) dX6_addBoat_48 (by decide) ?_
    exact mb_lvs [1, 2, 3, 4] rfl (T_X6_addBoat_68 hst hg  hr)
def B_X6_addBoat_38  (v1 : Int32) (v2 : Int32) (v3 : Int32) (h : mb_AH) : Option mb_RS := (B_X6_addBoat_39  v1 v2 v3 0 h)
set_option maxRecDepth 100000 in
set_option maxHeartbeats 4000000 in
theorem T_X6_addBoat_38 {l : Launch} {G : mb_G} {res : mb_RS} (hst : l.stackTraces = false) (hg : mb_gok G)   {v1 : Int32} {v2 : Int32} {v3 : Int32} {h : mb_AH} (hr : B_X6_addBoat_38  v1 v2 v3 h = some res) : mb_Ev l G RX6 cX6_addBoat 7 (some .int) 1 38 [(0, mb_F 6 0 0), (1, .inl v1), (2, .inl v2), (3, .inl v3)] [] h res := by
  unfold B_X6_addBoat_38 at hr
  refine mb_iconst (v := 0) (pn := 39) dX6_addBoat_38 (by decide) rfl ?_
  exact mb_lvs [0, 1, 2, 3] rfl (T_X6_addBoat_39 hst hg  hr)
def F_X6_addBoat (x1 : Int32) (x2 : Int32) (x3 : Int32) (h : mb_AH) : Option mb_RS := (mb_cI (F_X6_within x1 (30 : Int32) (400 : Int32) h) fun y102 h101 => (if y102 = 0 then (B_X6_addBoat_38  x1 x2 x3 h101) else (mb_cI (F_X6_within x2 (20 : Int32) (500 : Int32) h101) fun y116 h115 => (if y116 = 0 then (B_X6_addBoat_38  x1 x2 x3 h115) else (mb_cI (F_X6_within x3 (0 : Int32) (99 : Int32) h115) fun y118 h117 => (if y118 = 0 then (B_X6_addBoat_38  x1 x2 x3 h117) else (B_X6_addBoat_39  x1 x2 x3 1 h117)))))))
set_option maxRecDepth 100000 in
set_option maxHeartbeats 4000000 in
theorem C_X6_addBoat {l : Launch} {G : mb_G} (hst : l.stackTraces = false) (hg : mb_gok G) {x1 : Int32} {x2 : Int32} {x3 : Int32} {h : mb_AH} {res : mb_RS} (hr : F_X6_addBoat x1 x2 x3 h = some res) : mb_Mt l G yX6_addBoat cX6_addBoat 7 (some .int) 1 [mb_F 6 0 0, .inl x1, .inl x2, .inl x3] h res := by
  refine mb_entry (own := RX6) (lv := [(0, mb_F 6 0 0), (1, .inl x1), (2, .inl x2), (3, .inl x3)]) (by decide +kernel) rfl (Nat.le_of_ble_eq_true rfl) rfl rfl (fun _ => ?_) hst hg
  unfold F_X6_addBoat at hr
  refine mb_iload_n (pn := 1) 1 dX6_addBoat_0 rfl rfl rfl ?_
  refine mb_bipush (v := 30) (pn := 3) dX6_addBoat_1 (by decide) rfl ?_
  refine mb_sipush (v := 400) (pn := 6) dX6_addBoat_3 (by decide) rfl ?_
  refine cl_X6_46 (pn := 9) hst hg (Nat.le_of_ble_eq_true rfl) (Nat.le_of_ble_eq_true rfl) dX6_addBoat_6 rfl hr (fun y102 h101 hr => ?_)
  refine mb_if_eq (tgt := 38) (pn := 12) dX6_addBoat_9 (by decide) rfl hr (fun hr => ?_) (fun hr => ?_)
  · exact mb_lvs [0, 1, 2, 3] rfl (T_X6_addBoat_38 hst hg  hr)
  · refine mb_iload_n (pn := 13) 2 dX6_addBoat_12 rfl rfl rfl ?_
    refine mb_bipush (v := 20) (pn := 15) dX6_addBoat_13 (by decide) rfl ?_
    refine mb_sipush (v := 500) (pn := 18) dX6_addBoat_15 (by decide) rfl ?_
    refine cl_X6_46 (pn := 21) hst hg (Nat.le_of_ble_eq_true rfl) (Nat.le_of_ble_eq_true rfl) dX6_addBoat_18 rfl hr (fun y116 h115 hr => ?_)
    refine mb_if_eq (tgt := 38) (pn := 24) dX6_addBoat_21 (by decide) rfl hr (fun hr => ?_) (fun hr => ?_)
    · exact mb_lvs [0, 1, 2, 3] rfl (T_X6_addBoat_38 hst hg  hr)
    · refine mb_iload_n (pn := 25) 3 dX6_addBoat_24 rfl rfl rfl ?_
      refine mb_iconst (v := 0) (pn := 26) dX6_addBoat_25 (by decide) rfl ?_
      refine mb_bipush (v := 99) (pn := 28) dX6_addBoat_26 (by decide) rfl ?_
      refine cl_X6_46 (pn := 31) hst hg (Nat.le_of_ble_eq_true rfl) (Nat.le_of_ble_eq_true rfl) dX6_addBoat_28 rfl hr (fun y118 h117 hr => ?_)
      refine mb_if_eq (tgt := 38) (pn := 34) dX6_addBoat_31 (by decide) rfl hr (fun hr => ?_) (fun hr => ?_)
      · exact mb_lvs [0, 1, 2, 3] rfl (T_X6_addBoat_38 hst hg  hr)
      · refine mb_iconst (v := 1) (pn := 35) dX6_addBoat_34 (by decide) rfl ?_
        refine mb_goto (tgt := 39) dX6_addBoat_35 (by decide) ?_
        exact mb_lvs [0, 1, 2, 3] rfl (T_X6_addBoat_39 hst hg  hr)
def F_X6_canSet (x1 : Int32) (x2 : Int32) (h : mb_AH) : Option mb_RS := (if x1 = 0 then (mb_cI (F_X6_within x2 (0 : Int32) (100 : Int32) h) fun y102 h101 => (mb_gZ y102 (some (.inl (some (.inl y102)), h101)))) else (if x1 = 1 then (mb_cI (F_X6_isRate x2 h) fun y104 h103 => (mb_gZ y104 (some (.inl (some (.inl y104)), h103)))) else (if x1 = 2 then (mb_cI (F_X6_within x2 (0 : Int32) (359 : Int32) h) fun y106 h105 => (if y106 = 0 then (some (.inl (some (.inl 0)), h105)) else (mb_gB 3 270 (if x2 = (h105.1 20 0 0 (3 : Int32).toNatClampNeg) then (some (.inl (some (.inl 0)), h105)) else (some (.inl (some (.inl 1)), h105)))))) else (if x1 = 3 then (mb_cI (F_X6_within x2 (0 : Int32) (359 : Int32) h) fun y108 h107 => (if y108 = 0 then (some (.inl (some (.inl 0)), h107)) else (mb_gB 2 270 (if x2 = (h107.1 20 0 0 (2 : Int32).toNatClampNeg) then (some (.inl (some (.inl 0)), h107)) else (some (.inl (some (.inl 1)), h107)))))) else (some (.inl (some (.inl 0)), h))))))
set_option maxRecDepth 100000 in
set_option maxHeartbeats 4000000 in
theorem C_X6_canSet {l : Launch} {G : mb_G} (hst : l.stackTraces = false) (hg : mb_gok G) {x1 : Int32} {x2 : Int32} {h : mb_AH} {res : mb_RS} (hr : F_X6_canSet x1 x2 h = some res) : mb_Mt l G yX6_canSet cX6_canSet 3 (some .boolean) 2 [mb_F 6 0 0, .inl x1, .inl x2] h res := by
  refine mb_entry (own := RX6) (lv := [(0, mb_F 6 0 0), (1, .inl x1), (2, .inl x2)]) (by decide +kernel) rfl (Nat.le_of_ble_eq_true rfl) rfl rfl (fun _ => ?_) hst hg
  unfold F_X6_canSet at hr
  refine mb_iload_n (pn := 1) 1 dX6_canSet_0 rfl rfl rfl ?_
  refine mb_sw1 0 hr (fun hr => ?_) (fun q0 hr => ?_)
  · refine mb_swIn (tgt := 32) (off := 31) dX6_canSet_1 (by decide) (by decide) (by decide) (by decide) ?_
    refine mb_iload_n (pn := 33) 2 dX6_canSet_32 rfl rfl rfl ?_
    refine mb_iconst (v := 0) (pn := 34) dX6_canSet_33 (by decide) rfl ?_
    refine mb_bipush (v := 100) (pn := 36) dX6_canSet_34 (by decide) rfl ?_
    refine cl_X6_46 (pn := 39) hst hg (Nat.le_of_ble_eq_true rfl) (Nat.le_of_ble_eq_true rfl) dX6_canSet_36 rfl hr (fun y102 h101 hr => ?_)
    exact mb_zret dX6_canSet_39 hr
  refine mb_sw1 1 hr (fun hr => ?_) (fun q1 hr => ?_)
  · refine mb_swIn (tgt := 40) (off := 39) dX6_canSet_1 (by decide) (by decide) (by decide) (by decide) ?_
    refine mb_iload_n (pn := 41) 2 dX6_canSet_40 rfl rfl rfl ?_
    refine cl_X6_146 (pn := 44) hst hg (Nat.le_of_ble_eq_true rfl) (Nat.le_of_ble_eq_true rfl) dX6_canSet_41 rfl hr (fun y104 h103 hr => ?_)
    exact mb_zret dX6_canSet_44 hr
  refine mb_sw1 2 hr (fun hr => ?_) (fun q2 hr => ?_)
  · refine mb_swIn (tgt := 45) (off := 44) dX6_canSet_1 (by decide) (by decide) (by decide) (by decide) ?_
    refine mb_iload_n (pn := 46) 2 dX6_canSet_45 rfl rfl rfl ?_
    refine mb_iconst (v := 0) (pn := 47) dX6_canSet_46 (by decide) rfl ?_
    refine mb_sipush (v := 359) (pn := 50) dX6_canSet_47 (by decide) rfl ?_
    refine cl_X6_46 (pn := 53) hst hg (Nat.le_of_ble_eq_true rfl) (Nat.le_of_ble_eq_true rfl) dX6_canSet_50 rfl hr (fun y106 h105 hr => ?_)
    refine mb_if_eq (tgt := 70) (pn := 56) dX6_canSet_53 (by decide) rfl hr (fun hr => ?_) (fun hr => ?_)
    · refine mb_iconst (v := 0) (pn := 71) dX6_canSet_70 (by decide) rfl ?_
      cases hr
      exact mb_zret0 dX6_canSet_71
    · refine mb_iload_n (pn := 57) 2 dX6_canSet_56 rfl rfl rfl ?_
      refine mb_aload_n (pn := 58) 0 dX6_canSet_57 rfl rfl rfl ?_
      refine gf_X6_7 (pn := 61) dX6_canSet_58 rfl ?_
      refine mb_iconst (v := 3) (pn := 62) dX6_canSet_61 (by decide) rfl ?_
      refine mb_iald (pn := 63) (n := 270) rfl dX6_canSet_62 rfl hr (fun hr => ?_)
      refine mb_ic_eq (tgt := 70) (pn := 66) dX6_canSet_63 (by decide) rfl hr (fun hr => ?_) (fun hr => ?_)
      · refine mb_iconst (v := 0) (pn := 71) dX6_canSet_70 (by decide) rfl ?_
        cases hr
        exact mb_zret0 dX6_canSet_71
      · refine mb_iconst (v := 1) (pn := 67) dX6_canSet_66 (by decide) rfl ?_
        refine mb_goto (tgt := 71) dX6_canSet_67 (by decide) ?_
        cases hr
        exact mb_zret1 dX6_canSet_71
  refine mb_sw1 3 hr (fun hr => ?_) (fun q3 hr => ?_)
  · refine mb_swIn (tgt := 72) (off := 71) dX6_canSet_1 (by decide) (by decide) (by decide) (by decide) ?_
    refine mb_iload_n (pn := 73) 2 dX6_canSet_72 rfl rfl rfl ?_
    refine mb_iconst (v := 0) (pn := 74) dX6_canSet_73 (by decide) rfl ?_
    refine mb_sipush (v := 359) (pn := 77) dX6_canSet_74 (by decide) rfl ?_
    refine cl_X6_46 (pn := 80) hst hg (Nat.le_of_ble_eq_true rfl) (Nat.le_of_ble_eq_true rfl) dX6_canSet_77 rfl hr (fun y108 h107 hr => ?_)
    refine mb_if_eq (tgt := 97) (pn := 83) dX6_canSet_80 (by decide) rfl hr (fun hr => ?_) (fun hr => ?_)
    · refine mb_iconst (v := 0) (pn := 98) dX6_canSet_97 (by decide) rfl ?_
      cases hr
      exact mb_zret0 dX6_canSet_98
    · refine mb_iload_n (pn := 84) 2 dX6_canSet_83 rfl rfl rfl ?_
      refine mb_aload_n (pn := 85) 0 dX6_canSet_84 rfl rfl rfl ?_
      refine gf_X6_7 (pn := 88) dX6_canSet_85 rfl ?_
      refine mb_iconst (v := 2) (pn := 89) dX6_canSet_88 (by decide) rfl ?_
      refine mb_iald (pn := 90) (n := 270) rfl dX6_canSet_89 rfl hr (fun hr => ?_)
      refine mb_ic_eq (tgt := 97) (pn := 93) dX6_canSet_90 (by decide) rfl hr (fun hr => ?_) (fun hr => ?_)
      · refine mb_iconst (v := 0) (pn := 98) dX6_canSet_97 (by decide) rfl ?_
        cases hr
        exact mb_zret0 dX6_canSet_98
      · refine mb_iconst (v := 1) (pn := 94) dX6_canSet_93 (by decide) rfl ?_
        refine mb_goto (tgt := 98) dX6_canSet_94 (by decide) ?_
        cases hr
        exact mb_zret1 dX6_canSet_98
  refine mb_swOut (tgt := 99) dX6_canSet_1 (mb_out0_3 q0 q1 q2 q3) (by decide) ?_
  refine mb_iconst (v := 0) (pn := 100) dX6_canSet_99 (by decide) rfl ?_
  cases hr
  exact mb_zret0 dX6_canSet_100
set_option maxRecDepth 100000 in
set_option maxHeartbeats 4000000 in
theorem cl_X6_149 {l : Launch} {G : mb_G} {cc : ByteArray} {nL : Nat} {ret : Option FieldType} {d pc pn : Nat} {lv : List (Nat × mb_AV)} {st : List mb_AV} {h : mb_AH} {res : mb_RS} (hst : l.stackTraces = false) (hg : mb_gok G) {x1 : Int32} {x2 : Int32} {K : Int32 → mb_AH → Option mb_RS} (hd2 : 2 + 1 ≤ d) (hs4 : st.length ≤ 4) (dg : decode cc pc = .ok (.invokevirtual 149, 3)) (hn : pc + 3 = pn) (hr : mb_cI (F_X6_canSet x1 x2 h) K = some res) (kk : ∀ (x : Int32) (h2 : mb_AH), K x h2 = some res → mb_Ev l G RX6 cc nL ret d pn lv (.inl x :: st) h2 res) : mb_Ev l G RX6 cc nL ret d pc lv (.inl x2 :: .inl x1 :: mb_F 6 0 0 :: st) h res := mb_kVI (as := [.inl x1, .inl x2]) (n := 2) (d2 := 2) (ci := 6) (fun _ hf => C_X6_canSet hst hg hf) (mb_gV wl_X6_149 mi_X6_canSet ms_X6_canSet mn_X6 mc_X6_canSet) (by decide +kernel) rfl rfl rfl hd2 (by decide) hs4 rfl dg hn hr kk
def B_X6_set_15  (v1 : Int32) (v2 : Int32) (s0 : Int32) (h : mb_AH) : Option mb_RS := (mb_cI (F_X6_refused s0 h) fun y104 h103 => (if y104 = 0 then (mb_gB v1 270 (mb_lI (h103.1 20 0 0 v1.toNatClampNeg) fun y105 => (mb_cV (F_X6_saves h103) fun h106 => (mb_gB v1 270 (mb_up (mb_sI h106 20 0 0 v1.toNatClampNeg v2) fun h107 => (some (.inl (some (.inl y105)), h107))))))) else (some (.inl (some (.inl 0)), h103))))
set_option maxRecDepth 100000 in
set_option maxHeartbeats 4000000 in
theorem T_X6_set_15 {l : Launch} {G : mb_G} {res : mb_RS} (hst : l.stackTraces = false) (hg : mb_gok G)   {v1 : Int32} {v2 : Int32} {s0 : Int32} {h : mb_AH} (hr : B_X6_set_15  v1 v2 s0 h = some res) : mb_Ev l G RX6 cX6_set 4 (some .int) 3 15 [(0, mb_F 6 0 0), (1, .inl v1), (2, .inl v2)] [.inl s0, mb_F 6 0 0] h res := by
  unfold B_X6_set_15 at hr
  refine cl_X6_42 (pn := 18) hst hg (Nat.le_of_ble_eq_true rfl) (Nat.le_of_ble_eq_true rfl) dX6_set_15 rfl hr (fun y104 h103 hr => ?_)
  refine mb_if_eq (tgt := 23) (pn := 21) dX6_set_18 (by decide) rfl hr (fun hr => ?_) (fun hr => ?_)
  · refine mb_aload_n (pn := 24) 0 dX6_set_23 rfl rfl rfl ?_
    refine gf_X6_7 (pn := 27) dX6_set_24 rfl ?_
    refine mb_iload_n (pn := 28) 1 dX6_set_27 rfl rfl rfl ?_
    refine mb_iald (pn := 29) (n := 270) rfl dX6_set_28 rfl hr (fun hr => ?_)
    refine mb_nmI hr (fun y105 hr => ?_)
    refine mb_istore_n (pn := 30) (lv2 := [(3, .inl y105), (0, mb_F 6 0 0), (1, .inl v1), (2, .inl v2)]) dX6_set_29 rfl (by decide) rfl rfl ?_
    refine mb_aload_n (pn := 31) 1 dX6_set_30 rfl rfl rfl ?_
    refine cl_X6_142 (pn := 34) hst hg (Nat.le_of_ble_eq_true rfl) (Nat.le_of_ble_eq_true rfl) dX6_set_31 rfl hr (fun h106 hr => ?_)
    refine mb_aload_n (pn := 35) 1 dX6_set_34 rfl rfl rfl ?_
    refine gf_X6_7 (pn := 38) dX6_set_35 rfl ?_
    refine mb_iload_n (pn := 39) 2 dX6_set_38 rfl rfl rfl ?_
    refine mb_iload_n (pn := 40) 3 dX6_set_39 rfl rfl rfl ?_
    refine mb_iast (pn := 41) (n := 270) rfl rfl dX6_set_40 rfl hr (fun hr => ?_)
    refine mb_nmh hr (fun h107 hr => ?_)
    refine mb_iload_n (pn := 42) 0 dX6_set_41 rfl rfl rfl ?_
    cases hr
    exact mb_iret dX6_set_42
  · refine mb_iconst (v := 0) (pn := 22) dX6_set_21 (by decide) rfl ?_
    cases hr
    exact mb_iret dX6_set_22
def F_X6_set (x1 : Int32) (x2 : Int32) (h : mb_AH) : Option mb_RS := (mb_cI (F_X6_canSet x1 x2 h) fun y102 h101 => (if y102 = 0 then (B_X6_set_15  x1 x2 1 h101) else (B_X6_set_15  x1 x2 0 h101)))
set_option maxRecDepth 100000 in
set_option maxHeartbeats 4000000 in
theorem C_X6_set {l : Launch} {G : mb_G} (hst : l.stackTraces = false) (hg : mb_gok G) {x1 : Int32} {x2 : Int32} {h : mb_AH} {res : mb_RS} (hr : F_X6_set x1 x2 h = some res) : mb_Mt l G yX6_set cX6_set 4 (some .int) 3 [mb_F 6 0 0, .inl x1, .inl x2] h res := by
  refine mb_entry (own := RX6) (lv := [(0, mb_F 6 0 0), (1, .inl x1), (2, .inl x2)]) (by decide +kernel) rfl (Nat.le_of_ble_eq_true rfl) rfl rfl (fun _ => ?_) hst hg
  unfold F_X6_set at hr
  refine mb_aload_n (pn := 1) 0 dX6_set_0 rfl rfl rfl ?_
  refine mb_aload_n (pn := 2) 0 dX6_set_1 rfl rfl rfl ?_
  refine mb_iload_n (pn := 3) 1 dX6_set_2 rfl rfl rfl ?_
  refine mb_iload_n (pn := 4) 2 dX6_set_3 rfl rfl rfl ?_
  refine cl_X6_149 (pn := 7) hst hg (Nat.le_of_ble_eq_true rfl) (Nat.le_of_ble_eq_true rfl) dX6_set_4 rfl hr (fun y102 h101 hr => ?_)
  refine mb_if_eq (tgt := 14) (pn := 10) dX6_set_7 (by decide) rfl hr (fun hr => ?_) (fun hr => ?_)
  · refine mb_iconst (v := 1) (pn := 15) dX6_set_14 (by decide) rfl ?_
    exact mb_lvs [0, 1, 2] rfl (T_X6_set_15 hst hg  hr)
  · refine mb_iconst (v := 0) (pn := 11) dX6_set_10 (by decide) rfl ?_
    refine mb_goto (tgt := 15) dX6_set_11 (by decide) ?_
    exact mb_lvs [0, 1, 2] rfl (T_X6_set_15 hst hg  hr)
set_option maxRecDepth 100000 in
set_option maxHeartbeats 4000000 in
theorem cl_X6_152 {l : Launch} {G : mb_G} {cc : ByteArray} {nL : Nat} {ret : Option FieldType} {d pc pn : Nat} {lv : List (Nat × mb_AV)} {st : List mb_AV} {h : mb_AH} {res : mb_RS} (hst : l.stackTraces = false) (hg : mb_gok G) {x1 : Int32} {K : Int32 → mb_AH → Option mb_RS} (hd2 : 1 + 1 ≤ d) (hs4 : st.length ≤ 4) (dg : decode cc pc = .ok (.invokevirtual 152, 3)) (hn : pc + 3 = pn) (hr : mb_cI (F_X6_isBerth x1 h) K = some res) (kk : ∀ (x : Int32) (h2 : mb_AH), K x h2 = some res → mb_Ev l G RX6 cc nL ret d pn lv (.inl x :: st) h2 res) : mb_Ev l G RX6 cc nL ret d pc lv (.inl x1 :: mb_F 6 0 0 :: st) h res := mb_kVI (as := [.inl x1]) (n := 1) (d2 := 1) (ci := 6) (fun _ hf => C_X6_isBerth hst hg hf) (mb_gV wl_X6_152 mi_X6_isBerth ms_X6_isBerth mn_X6 mc_X6_isBerth) (by decide +kernel) rfl rfl rfl hd2 (by decide) hs4 rfl dg hn hr kk
def B_X6_setRate_25  (v1 : Int32) (v2 : Int32) (s0 : Int32) (h : mb_AH) : Option mb_RS := (mb_cI (F_X6_refused s0 h) fun y106 h105 => (if y106 = 0 then (mb_cI (F_X6_ofBerth v1 (3 : Int32) h105) fun y108 h107 => (mb_cV (F_X6_saves h107) fun h109 => (mb_gB (((26 : Int32) + ((4 : Int32) * v1)) + 3) 270 (mb_up (mb_sI h109 20 0 0 (((26 : Int32) + ((4 : Int32) * v1)) + 3).toNatClampNeg v2) fun h110 => (some (.inl (some (.inl y108)), h110)))))) else (some (.inl (some (.inl 0)), h105))))
set_option maxRecDepth 100000 in
set_option maxHeartbeats 4000000 in
theorem T_X6_setRate_25 {l : Launch} {G : mb_G} {res : mb_RS} (hst : l.stackTraces = false) (hg : mb_gok G)   {v1 : Int32} {v2 : Int32} {s0 : Int32} {h : mb_AH} (hr : B_X6_setRate_25  v1 v2 s0 h = some res) : mb_Ev l G RX6 cX6_setRate 4 (some .int) 2 25 [(0, mb_F 6 0 0), (1, .inl v1), (2, .inl v2)] [.inl s0, mb_F 6 0 0] h res := by
  unfold B_X6_setRate_25 at hr
  refine cl_X6_42 (pn := 28) hst hg (Nat.le_of_ble_eq_true rfl) (Nat.le_of_ble_eq_true rfl) dX6_setRate_25 rfl hr (fun y106 h105 hr => ?_)
  refine mb_if_eq (tgt := 33) (pn := 31) dX6_setRate_28 (by decide) rfl hr (fun hr => ?_) (fun hr => ?_)
  · refine mb_aload_n (pn := 34) 0 dX6_setRate_33 rfl rfl rfl ?_
    refine mb_iload_n (pn := 35) 1 dX6_setRate_34 rfl rfl rfl ?_
    refine mb_iconst (v := 3) (pn := 36) dX6_setRate_35 (by decide) rfl ?_
    refine cl_X6_54 (pn := 39) hst hg (Nat.le_of_ble_eq_true rfl) (Nat.le_of_ble_eq_true rfl) dX6_setRate_36 rfl hr (fun y108 h107 hr => ?_)
    refine mb_istore_n (pn := 40) (lv2 := [(3, .inl y108), (0, mb_F 6 0 0), (1, .inl v1), (2, .inl v2)]) dX6_setRate_39 rfl (by decide) rfl rfl ?_
    refine mb_aload_n (pn := 41) 1 dX6_setRate_40 rfl rfl rfl ?_
    refine cl_X6_142 (pn := 44) hst hg (Nat.le_of_ble_eq_true rfl) (Nat.le_of_ble_eq_true rfl) dX6_setRate_41 rfl hr (fun h109 hr => ?_)
    refine mb_aload_n (pn := 45) 1 dX6_setRate_44 rfl rfl rfl ?_
    refine gf_X6_7 (pn := 48) dX6_setRate_45 rfl ?_
    refine mb_bipush (v := 26) (pn := 50) dX6_setRate_48 (by decide) rfl ?_
    refine mb_iconst (v := 4) (pn := 51) dX6_setRate_50 (by decide) rfl ?_
    refine mb_iload_n (pn := 52) 2 dX6_setRate_51 rfl rfl rfl ?_
    refine mb_imul (pn := 53) dX6_setRate_52 rfl ?_
    refine mb_iadd (pn := 54) dX6_setRate_53 rfl ?_
    refine mb_iconst (v := 3) (pn := 55) dX6_setRate_54 (by decide) rfl ?_
    refine mb_iadd (pn := 56) dX6_setRate_55 rfl ?_
    refine mb_iload_n (pn := 57) 3 dX6_setRate_56 rfl rfl rfl ?_
    refine mb_iast (pn := 58) (n := 270) rfl rfl dX6_setRate_57 rfl hr (fun hr => ?_)
    refine mb_nmh hr (fun h110 hr => ?_)
    refine mb_iload_n (pn := 59) 0 dX6_setRate_58 rfl rfl rfl ?_
    cases hr
    exact mb_iret dX6_setRate_59
  · refine mb_iconst (v := 0) (pn := 32) dX6_setRate_31 (by decide) rfl ?_
    cases hr
    exact mb_iret dX6_setRate_32
def F_X6_setRate (x1 : Int32) (x2 : Int32) (h : mb_AH) : Option mb_RS := (mb_cI (F_X6_isBerth x1 h) fun y102 h101 => (if y102 = 0 then (B_X6_setRate_25  x1 x2 1 h101) else (mb_cI (F_X6_isRate x2 h101) fun y104 h103 => (if y104 = 0 then (B_X6_setRate_25  x1 x2 2 h103) else (B_X6_setRate_25  x1 x2 0 h103)))))
set_option maxRecDepth 100000 in
set_option maxHeartbeats 4000000 in
theorem C_X6_setRate {l : Launch} {G : mb_G} (hst : l.stackTraces = false) (hg : mb_gok G) {x1 : Int32} {x2 : Int32} {h : mb_AH} {res : mb_RS} (hr : F_X6_setRate x1 x2 h = some res) : mb_Mt l G yX6_setRate cX6_setRate 4 (some .int) 2 [mb_F 6 0 0, .inl x1, .inl x2] h res := by
  refine mb_entry (own := RX6) (lv := [(0, mb_F 6 0 0), (1, .inl x1), (2, .inl x2)]) (by decide +kernel) rfl (Nat.le_of_ble_eq_true rfl) rfl rfl (fun _ => ?_) hst hg
  unfold F_X6_setRate at hr
  refine mb_aload_n (pn := 1) 0 dX6_setRate_0 rfl rfl rfl ?_
  refine mb_aload_n (pn := 2) 0 dX6_setRate_1 rfl rfl rfl ?_
  refine mb_iload_n (pn := 3) 1 dX6_setRate_2 rfl rfl rfl ?_
  refine cl_X6_152 (pn := 6) hst hg (Nat.le_of_ble_eq_true rfl) (Nat.le_of_ble_eq_true rfl) dX6_setRate_3 rfl hr (fun y102 h101 hr => ?_)
  refine mb_if_ne (tgt := 13) (pn := 9) dX6_setRate_6 (by decide) rfl hr (fun hr => ?_) (fun hr => ?_)
  · refine mb_iload_n (pn := 14) 2 dX6_setRate_13 rfl rfl rfl ?_
    refine cl_X6_146 (pn := 17) hst hg (Nat.le_of_ble_eq_true rfl) (Nat.le_of_ble_eq_true rfl) dX6_setRate_14 rfl hr (fun y104 h103 hr => ?_)
    refine mb_if_ne (tgt := 24) (pn := 20) dX6_setRate_17 (by decide) rfl hr (fun hr => ?_) (fun hr => ?_)
    · refine mb_iconst (v := 0) (pn := 25) dX6_setRate_24 (by decide) rfl ?_
      exact mb_lvs [0, 1, 2] rfl (T_X6_setRate_25 hst hg  hr)
    · refine mb_iconst (v := 2) (pn := 21) dX6_setRate_20 (by decide) rfl ?_
      refine mb_goto (tgt := 25) dX6_setRate_21 (by decide) ?_
      exact mb_lvs [0, 1, 2] rfl (T_X6_setRate_25 hst hg  hr)
  · refine mb_iconst (v := 1) (pn := 10) dX6_setRate_9 (by decide) rfl ?_
    refine mb_goto (tgt := 25) dX6_setRate_10 (by decide) ?_
    exact mb_lvs [0, 1, 2] rfl (T_X6_setRate_25 hst hg  hr)
def B_X6_berthTold_48  : Nat → Int32 → Int32 → Int32 → mb_AH → Option mb_RS
  | 0, _, _, _, _ => none
  | n + 1, v1, v3, v4, h => (mb_gB 7 270 (if (h.1 20 0 0 (7 : Int32).toNatClampNeg) ≤ v4 then (some (.inl (some (.inl v3)), h)) else (mb_cI (F_X6_isFit v4 v1 h) fun y102 h101 => (if y102 = 0 then (mb_lI (v3 + 0) fun y103 => (mb_lI (v4 + 1) fun y104 => ((B_X6_berthTold_48  n) v1 y103 y104 h101))) else (mb_lI (v3 + 1) fun y105 => (mb_lI (v4 + 1) fun y106 => ((B_X6_berthTold_48  n) v1 y105 y106 h101)))))))
set_option maxRecDepth 100000 in
set_option maxHeartbeats 4000000 in
theorem T_X6_berthTold_48 {l : Launch} {G : mb_G} {res : mb_RS} (hst : l.stackTraces = false) (hg : mb_gok G)   : ∀ (n : Nat) (v1 : Int32) (v3 : Int32) (v4 : Int32) (h : mb_AH), B_X6_berthTold_48  n v1 v3 v4 h = some res → mb_Ev l G RX6 cX6_berthTold 5 (some .int) 3 48 [(0, mb_F 6 0 0), (1, .inl v1), (3, .inl v3), (4, .inl v4)] [] h res := by
  intro n
  induction n with
  | zero => intro v1 v3 v4 h hr; cases hr
  | succ n ih =>
    intro v1 v3 v4 h hr
    rw [B_X6_berthTold_48] at hr
    refine mb_iload (pn := 50) 3 dX6_berthTold_48 rfl rfl ?_
    refine mb_aload_n (pn := 51) 0 dX6_berthTold_50 rfl rfl rfl ?_
    refine gf_X6_7 (pn := 54) dX6_berthTold_51 rfl ?_
    refine mb_bipush (v := 7) (pn := 56) dX6_berthTold_54 (by decide) rfl ?_
    refine mb_iald (pn := 57) (n := 270) rfl dX6_berthTold_56 rfl hr (fun hr => ?_)
    refine mb_ic_ge (tgt := 84) (pn := 60) dX6_berthTold_57 (by decide) rfl hr (fun hr => ?_) (fun hr => ?_)
    · refine mb_iload_n (pn := 85) 2 dX6_berthTold_84 rfl rfl rfl ?_
      cases hr
      exact mb_iret dX6_berthTold_85
    · refine mb_iload_n (pn := 61) 2 dX6_berthTold_60 rfl rfl rfl ?_
      refine mb_aload_n (pn := 62) 0 dX6_berthTold_61 rfl rfl rfl ?_
      refine mb_iload (pn := 64) 3 dX6_berthTold_62 rfl rfl ?_
      refine mb_iload_n (pn := 65) 1 dX6_berthTold_64 rfl rfl rfl ?_
      refine cl_X6_96 (pn := 68) hst hg (Nat.le_of_ble_eq_true rfl) (Nat.le_of_ble_eq_true rfl) dX6_berthTold_65 rfl hr (fun y102 h101 hr => ?_)
      refine mb_if_eq (tgt := 75) (pn := 71) dX6_berthTold_68 (by decide) rfl hr (fun hr => ?_) (fun hr => ?_)
      · refine mb_iconst (v := 0) (pn := 76) dX6_berthTold_75 (by decide) rfl ?_
        refine mb_iadd (pn := 77) dX6_berthTold_76 rfl ?_
        refine mb_nmI hr (fun y103 hr => ?_)
        refine mb_istore_n (pn := 78) (lv2 := [(3, .inl y103), (0, mb_F 6 0 0), (1, .inl v1), (4, .inl v4)]) dX6_berthTold_77 rfl (by decide) rfl rfl ?_
        refine mb_nmx hr (fun y104 qy104 hr => ?_)
        refine mb_iinc (v := y104) (pn := 81) (lv2 := [(4, .inl y104), (3, .inl y103), (0, mb_F 6 0 0), (1, .inl v1)]) 3 dX6_berthTold_78 rfl (by rw [qy104]; rfl) (by decide) rfl rfl ?_
        refine mb_goto (tgt := 48) dX6_berthTold_81 (by decide) ?_
        exact mb_lvs [2, 3, 1, 0] rfl (ih _ _ _ _ hr)
      · refine mb_iconst (v := 1) (pn := 72) dX6_berthTold_71 (by decide) rfl ?_
        refine mb_goto (tgt := 76) dX6_berthTold_72 (by decide) ?_
        refine mb_iadd (pn := 77) dX6_berthTold_76 rfl ?_
        refine mb_nmI hr (fun y105 hr => ?_)
        refine mb_istore_n (pn := 78) (lv2 := [(3, .inl y105), (0, mb_F 6 0 0), (1, .inl v1), (4, .inl v4)]) dX6_berthTold_77 rfl (by decide) rfl rfl ?_
        refine mb_nmx hr (fun y106 qy106 hr => ?_)
        refine mb_iinc (v := y106) (pn := 81) (lv2 := [(4, .inl y106), (3, .inl y105), (0, mb_F 6 0 0), (1, .inl v1)]) 3 dX6_berthTold_78 rfl (by rw [qy106]; rfl) (by decide) rfl rfl ?_
        refine mb_goto (tgt := 48) dX6_berthTold_81 (by decide) ?_
        exact mb_lvs [2, 3, 1, 0] rfl (ih _ _ _ _ hr)
def F_X6_berthTold (x1 : Int32) (x2 : Int32) (h : mb_AH) : Option mb_RS := (if 4 ≤ x2 then (if 6 ≤ x2 then (B_X6_berthTold_48  mb_fu x1 0 0 h) else (if x2 = 4 then (mb_cI (F_X6_boatIn x1 h) fun y112 h111 => (some (.inl (some (.inl y112)), h111))) else (mb_cI (F_X6_ofBerth x1 (0 : Int32) h) fun y108 h107 => (mb_cI (F_X6_lowest h107) fun y110 h109 => (some (.inl (some (.inl (y108 + y110))), h109)))))) else (mb_cI (F_X6_ofBerth x1 x2 h) fun y114 h113 => (some (.inl (some (.inl y114)), h113))))
set_option maxRecDepth 100000 in
set_option maxHeartbeats 4000000 in
theorem C_X6_berthTold {l : Launch} {G : mb_G} (hst : l.stackTraces = false) (hg : mb_gok G) {x1 : Int32} {x2 : Int32} {h : mb_AH} {res : mb_RS} (hr : F_X6_berthTold x1 x2 h = some res) : mb_Mt l G yX6_berthTold cX6_berthTold 5 (some .int) 3 [mb_F 6 0 0, .inl x1, .inl x2] h res := by
  refine mb_entry (own := RX6) (lv := [(0, mb_F 6 0 0), (1, .inl x1), (2, .inl x2)]) (by decide +kernel) rfl (Nat.le_of_ble_eq_true rfl) rfl rfl (fun _ => ?_) hst hg
  unfold F_X6_berthTold at hr
  refine mb_iload_n (pn := 1) 2 dX6_berthTold_0 rfl rfl rfl ?_
  refine mb_iconst (v := 4) (pn := 2) dX6_berthTold_1 (by decide) rfl ?_
  refine mb_ic_ge (tgt := 12) (pn := 5) dX6_berthTold_2 (by decide) rfl hr (fun hr => ?_) (fun hr => ?_)
  · refine mb_iload_n (pn := 13) 2 dX6_berthTold_12 rfl rfl rfl ?_
    refine mb_bipush (v := 6) (pn := 15) dX6_berthTold_13 (by decide) rfl ?_
    refine mb_ic_ge (tgt := 43) (pn := 18) dX6_berthTold_15 (by decide) rfl hr (fun hr => ?_) (fun hr => ?_)
    · refine mb_iconst (v := 0) (pn := 44) dX6_berthTold_43 (by decide) rfl ?_
      refine mb_istore_n (pn := 45) (lv2 := [(3, .inl 0), (0, mb_F 6 0 0), (1, .inl x1), (2, .inl x2)]) dX6_berthTold_44 rfl (by decide) rfl rfl ?_
      refine mb_iconst (v := 0) (pn := 46) dX6_berthTold_45 (by decide) rfl ?_
      refine mb_istore (pn := 48) (lv2 := [(4, .inl 0), (3, .inl 0), (0, mb_F 6 0 0), (1, .inl x1), (2, .inl x2)]) dX6_berthTold_46 (by decide) rfl rfl ?_
      exact mb_lvs [2, 3, 1, 0] rfl (T_X6_berthTold_48 hst hg  mb_fu _ _ _ _ hr)
    · refine mb_iload_n (pn := 19) 2 dX6_berthTold_18 rfl rfl rfl ?_
      refine mb_iconst (v := 4) (pn := 20) dX6_berthTold_19 (by decide) rfl ?_
      refine mb_ic_ne (tgt := 31) (pn := 23) dX6_berthTold_20 (by decide) rfl hr (fun hr => ?_) (fun hr => ?_)
      · refine mb_aload_n (pn := 32) 0 dX6_berthTold_31 rfl rfl rfl ?_
        refine mb_iload_n (pn := 33) 1 dX6_berthTold_32 rfl rfl rfl ?_
        refine mb_iconst (v := 0) (pn := 34) dX6_berthTold_33 (by decide) rfl ?_
        refine cl_X6_54 (pn := 37) hst hg (Nat.le_of_ble_eq_true rfl) (Nat.le_of_ble_eq_true rfl) dX6_berthTold_34 rfl hr (fun y108 h107 hr => ?_)
        refine mb_aload_n (pn := 38) 0 dX6_berthTold_37 rfl rfl rfl ?_
        refine cl_X6_57 (pn := 41) hst hg (Nat.le_of_ble_eq_true rfl) (Nat.le_of_ble_eq_true rfl) dX6_berthTold_38 rfl hr (fun y110 h109 hr => ?_)
        refine mb_iadd (pn := 42) dX6_berthTold_41 rfl ?_
        cases hr
        exact mb_iret dX6_berthTold_42
      · refine mb_aload_n (pn := 24) 0 dX6_berthTold_23 rfl rfl rfl ?_
        refine mb_iload_n (pn := 25) 1 dX6_berthTold_24 rfl rfl rfl ?_
        refine cl_X6_68 (pn := 28) hst hg (Nat.le_of_ble_eq_true rfl) (Nat.le_of_ble_eq_true rfl) dX6_berthTold_25 rfl hr (fun y112 h111 hr => ?_)
        refine mb_goto (tgt := 42) dX6_berthTold_28 (by decide) ?_
        cases hr
        exact mb_iret dX6_berthTold_42
  · refine mb_aload_n (pn := 6) 0 dX6_berthTold_5 rfl rfl rfl ?_
    refine mb_iload_n (pn := 7) 1 dX6_berthTold_6 rfl rfl rfl ?_
    refine mb_iload_n (pn := 8) 2 dX6_berthTold_7 rfl rfl rfl ?_
    refine cl_X6_54 (pn := 11) hst hg (Nat.le_of_ble_eq_true rfl) (Nat.le_of_ble_eq_true rfl) dX6_berthTold_8 rfl hr (fun y114 h113 hr => ?_)
    cases hr
    exact mb_iret dX6_berthTold_11
set_option maxRecDepth 100000 in
set_option maxHeartbeats 4000000 in
theorem cl_X6_155 {l : Launch} {G : mb_G} {cc : ByteArray} {nL : Nat} {ret : Option FieldType} {d pc pn : Nat} {lv : List (Nat × mb_AV)} {st : List mb_AV} {h : mb_AH} {res : mb_RS} (hst : l.stackTraces = false) (hg : mb_gok G) {x1 : Int32} {x2 : Int32} {K : Int32 → mb_AH → Option mb_RS} (hd2 : 3 + 1 ≤ d) (hs4 : st.length ≤ 4) (dg : decode cc pc = .ok (.invokevirtual 155, 3)) (hn : pc + 3 = pn) (hr : mb_cI (F_X6_berthTold x1 x2 h) K = some res) (kk : ∀ (x : Int32) (h2 : mb_AH), K x h2 = some res → mb_Ev l G RX6 cc nL ret d pn lv (.inl x :: st) h2 res) : mb_Ev l G RX6 cc nL ret d pc lv (.inl x2 :: .inl x1 :: mb_F 6 0 0 :: st) h res := mb_kVI (as := [.inl x1, .inl x2]) (n := 2) (d2 := 3) (ci := 6) (fun _ hf => C_X6_berthTold hst hg hf) (mb_gV wl_X6_155 mi_X6_berthTold ms_X6_berthTold mn_X6 mc_X6_berthTold) (by decide +kernel) rfl rfl rfl hd2 (by decide) hs4 rfl dg hn hr kk
def B_X6_berth_28  (v1 : Int32) (v2 : Int32) (s0 : Int32) (h : mb_AH) : Option mb_RS := (mb_cI (F_X6_refused s0 h) fun y106 h105 => (if y106 = 0 then (mb_cI (F_X6_berthTold v1 v2 h105) fun y108 h107 => (some (.inl (some (.inl y108)), h107))) else (some (.inl (some (.inl 0)), h105))))
set_option maxRecDepth 100000 in
set_option maxHeartbeats 4000000 in
theorem T_X6_berth_28 {l : Launch} {G : mb_G} {res : mb_RS} (hst : l.stackTraces = false) (hg : mb_gok G)   {v1 : Int32} {v2 : Int32} {s0 : Int32} {h : mb_AH} (hr : B_X6_berth_28  v1 v2 s0 h = some res) : mb_Ev l G RX6 cX6_berth 3 (some .int) 4 28 [(0, mb_F 6 0 0), (1, .inl v1), (2, .inl v2)] [.inl s0, mb_F 6 0 0] h res := by
  unfold B_X6_berth_28 at hr
  refine cl_X6_42 (pn := 31) hst hg (Nat.le_of_ble_eq_true rfl) (Nat.le_of_ble_eq_true rfl) dX6_berth_28 rfl hr (fun y106 h105 hr => ?_)
  refine mb_if_eq (tgt := 38) (pn := 34) dX6_berth_31 (by decide) rfl hr (fun hr => ?_) (fun hr => ?_)
  · refine mb_aload_n (pn := 39) 0 dX6_berth_38 rfl rfl rfl ?_
    refine mb_iload_n (pn := 40) 1 dX6_berth_39 rfl rfl rfl ?_
    refine mb_iload_n (pn := 41) 2 dX6_berth_40 rfl rfl rfl ?_
    refine cl_X6_155 (pn := 44) hst hg (Nat.le_of_ble_eq_true rfl) (Nat.le_of_ble_eq_true rfl) dX6_berth_41 rfl hr (fun y108 h107 hr => ?_)
    cases hr
    exact mb_iret dX6_berth_44
  · refine mb_iconst (v := 0) (pn := 35) dX6_berth_34 (by decide) rfl ?_
    refine mb_goto (tgt := 44) dX6_berth_35 (by decide) ?_
    cases hr
    exact mb_iret dX6_berth_44
def F_X6_berth (x1 : Int32) (x2 : Int32) (h : mb_AH) : Option mb_RS := (mb_cI (F_X6_isBerth x1 h) fun y102 h101 => (if y102 = 0 then (B_X6_berth_28  x1 x2 1 h101) else (mb_cI (F_X6_within x2 (0 : Int32) (6 : Int32) h101) fun y104 h103 => (if y104 = 0 then (B_X6_berth_28  x1 x2 2 h103) else (B_X6_berth_28  x1 x2 0 h103)))))
set_option maxRecDepth 100000 in
set_option maxHeartbeats 4000000 in
theorem C_X6_berth {l : Launch} {G : mb_G} (hst : l.stackTraces = false) (hg : mb_gok G) {x1 : Int32} {x2 : Int32} {h : mb_AH} {res : mb_RS} (hr : F_X6_berth x1 x2 h = some res) : mb_Mt l G yX6_berth cX6_berth 3 (some .int) 4 [mb_F 6 0 0, .inl x1, .inl x2] h res := by
  refine mb_entry (own := RX6) (lv := [(0, mb_F 6 0 0), (1, .inl x1), (2, .inl x2)]) (by decide +kernel) rfl (Nat.le_of_ble_eq_true rfl) rfl rfl (fun _ => ?_) hst hg
  unfold F_X6_berth at hr
  refine mb_aload_n (pn := 1) 0 dX6_berth_0 rfl rfl rfl ?_
  refine mb_aload_n (pn := 2) 0 dX6_berth_1 rfl rfl rfl ?_
  refine mb_iload_n (pn := 3) 1 dX6_berth_2 rfl rfl rfl ?_
  refine cl_X6_152 (pn := 6) hst hg (Nat.le_of_ble_eq_true rfl) (Nat.le_of_ble_eq_true rfl) dX6_berth_3 rfl hr (fun y102 h101 hr => ?_)
  refine mb_if_ne (tgt := 13) (pn := 9) dX6_berth_6 (by decide) rfl hr (fun hr => ?_) (fun hr => ?_)
  · refine mb_iload_n (pn := 14) 2 dX6_berth_13 rfl rfl rfl ?_
    refine mb_iconst (v := 0) (pn := 15) dX6_berth_14 (by decide) rfl ?_
    refine mb_bipush (v := 6) (pn := 17) dX6_berth_15 (by decide) rfl ?_
    refine cl_X6_46 (pn := 20) hst hg (Nat.le_of_ble_eq_true rfl) (Nat.le_of_ble_eq_true rfl) dX6_berth_17 rfl hr (fun y104 h103 hr => ?_)
    refine mb_if_ne (tgt := 27) (pn := 23) dX6_berth_20 (by decide) rfl hr (fun hr => ?_) (fun hr => ?_)
    · refine mb_iconst (v := 0) (pn := 28) dX6_berth_27 (by decide) rfl ?_
      exact mb_lvs [0, 1, 2] rfl (T_X6_berth_28 hst hg  hr)
    · refine mb_iconst (v := 2) (pn := 24) dX6_berth_23 (by decide) rfl ?_
      refine mb_goto (tgt := 28) dX6_berth_24 (by decide) ?_
      exact mb_lvs [0, 1, 2] rfl (T_X6_berth_28 hst hg  hr)
  · refine mb_iconst (v := 1) (pn := 10) dX6_berth_9 (by decide) rfl ?_
    refine mb_goto (tgt := 28) dX6_berth_10 (by decide) ?_
    exact mb_lvs [0, 1, 2] rfl (T_X6_berth_28 hst hg  hr)
set_option maxRecDepth 100000 in
set_option maxHeartbeats 4000000 in
theorem cl_X6_158 {l : Launch} {G : mb_G} {cc : ByteArray} {nL : Nat} {ret : Option FieldType} {d pc pn : Nat} {lv : List (Nat × mb_AV)} {st : List mb_AV} {h : mb_AH} {res : mb_RS} (hst : l.stackTraces = false) (hg : mb_gok G) {x1 : Int32} {x2 : Int32} {K : Int32 → mb_AH → Option mb_RS} (hd2 : 1 + 1 ≤ d) (hs4 : st.length ≤ 4) (dg : decode cc pc = .ok (.invokevirtual 158, 3)) (hn : pc + 3 = pn) (hr : mb_cI (F_X6_isAground x1 x2 h) K = some res) (kk : ∀ (x : Int32) (h2 : mb_AH), K x h2 = some res → mb_Ev l G RX6 cc nL ret d pn lv (.inl x :: st) h2 res) : mb_Ev l G RX6 cc nL ret d pc lv (.inl x2 :: .inl x1 :: mb_F 6 0 0 :: st) h res := mb_kVI (as := [.inl x1, .inl x2]) (n := 2) (d2 := 1) (ci := 6) (fun _ hf => C_X6_isAground hst hg hf) (mb_gV wl_X6_158 mi_X6_isAground ms_X6_isAground mn_X6 mc_X6_isAground) (by decide +kernel) rfl rfl rfl hd2 (by decide) hs4 rfl dg hn hr kk
def F_X6_boatTold (x1 : Int32) (x2 : Int32) (h : mb_AH) : Option mb_RS := (if x2 = 5 then (mb_cI (F_X6_ofBoat x1 (3 : Int32) h) fun y102 h101 => (if y102 = 2 then (mb_cI (F_X6_points x1 h101) fun y104 h103 => (some (.inl (some (.inl y104)), h103))) else (some (.inl (some (.inl (-1))), h101)))) else (if x2 = 6 then (mb_cI (F_X6_ofBoat x1 (7 : Int32) h) fun y106 h105 => (some (.inl (some (.inl y106)), h105))) else (if x2 = 7 then (mb_cI (F_X6_ofBoat x1 (8 : Int32) h) fun y108 h107 => (some (.inl (some (.inl y108)), h107))) else (if x2 = 8 then (mb_gB 4 270 (mb_cI (F_X6_isAground x1 (h.1 20 0 0 (4 : Int32).toNatClampNeg) h) fun y110 h109 => (if y110 = 0 then (some (.inl (some (.inl 0)), h109)) else (some (.inl (some (.inl 1)), h109))))) else (if x2 = 9 then (mb_cI (F_X6_ofBoat x1 (3 : Int32) h) fun y112 h111 => (if y112 = 1 then (mb_cI (F_X6_ofBoat x1 (4 : Int32) h111) fun y114 h113 => (mb_cI (F_X6_isFit x1 y114 h113) fun y116 h115 => (if y116 = 0 then (some (.inl (some (.inl 0)), h115)) else (some (.inl (some (.inl 1)), h115))))) else (some (.inl (some (.inl 1)), h111)))) else (mb_cI (F_X6_ofBoat x1 x2 h) fun y118 h117 => (some (.inl (some (.inl y118)), h117))))))))
set_option maxRecDepth 100000 in
set_option maxHeartbeats 4000000 in
theorem C_X6_boatTold {l : Launch} {G : mb_G} (hst : l.stackTraces = false) (hg : mb_gok G) {x1 : Int32} {x2 : Int32} {h : mb_AH} {res : mb_RS} (hr : F_X6_boatTold x1 x2 h = some res) : mb_Mt l G yX6_boatTold cX6_boatTold 3 (some .int) 3 [mb_F 6 0 0, .inl x1, .inl x2] h res := by
  refine mb_entry (own := RX6) (lv := [(0, mb_F 6 0 0), (1, .inl x1), (2, .inl x2)]) (by decide +kernel) rfl (Nat.le_of_ble_eq_true rfl) rfl rfl (fun _ => ?_) hst hg
  unfold F_X6_boatTold at hr
  refine mb_iload_n (pn := 1) 2 dX6_boatTold_0 rfl rfl rfl ?_
  refine mb_sw1 5 hr (fun hr => ?_) (fun q5 hr => ?_)
  · refine mb_swIn (tgt := 36) (off := 35) dX6_boatTold_1 (by decide) (by decide) (by decide) (by decide) ?_
    refine mb_aload_n (pn := 37) 0 dX6_boatTold_36 rfl rfl rfl ?_
    refine mb_iload_n (pn := 38) 1 dX6_boatTold_37 rfl rfl rfl ?_
    refine mb_iconst (v := 3) (pn := 39) dX6_boatTold_38 (by decide) rfl ?_
    refine cl_X6_50 (pn := 42) hst hg (Nat.le_of_ble_eq_true rfl) (Nat.le_of_ble_eq_true rfl) dX6_boatTold_39 rfl hr (fun y102 h101 hr => ?_)
    refine mb_iconst (v := 2) (pn := 43) dX6_boatTold_42 (by decide) rfl ?_
    refine mb_ic_ne (tgt := 54) (pn := 46) dX6_boatTold_43 (by decide) rfl hr (fun hr => ?_) (fun hr => ?_)
    · refine mb_iconst (v := (-1)) (pn := 55) dX6_boatTold_54 (by decide) rfl ?_
      cases hr
      exact mb_iret dX6_boatTold_55
    · refine mb_aload_n (pn := 47) 0 dX6_boatTold_46 rfl rfl rfl ?_
      refine mb_iload_n (pn := 48) 1 dX6_boatTold_47 rfl rfl rfl ?_
      refine cl_X6_82 (pn := 51) hst hg (Nat.le_of_ble_eq_true rfl) (Nat.le_of_ble_eq_true rfl) dX6_boatTold_48 rfl hr (fun y104 h103 hr => ?_)
      refine mb_goto (tgt := 55) dX6_boatTold_51 (by decide) ?_
      cases hr
      exact mb_iret dX6_boatTold_55
  refine mb_sw1 6 hr (fun hr => ?_) (fun q6 hr => ?_)
  · refine mb_swIn (tgt := 56) (off := 55) dX6_boatTold_1 (by decide) (by decide) (by decide) (by decide) ?_
    refine mb_aload_n (pn := 57) 0 dX6_boatTold_56 rfl rfl rfl ?_
    refine mb_iload_n (pn := 58) 1 dX6_boatTold_57 rfl rfl rfl ?_
    refine mb_bipush (v := 7) (pn := 60) dX6_boatTold_58 (by decide) rfl ?_
    refine cl_X6_50 (pn := 63) hst hg (Nat.le_of_ble_eq_true rfl) (Nat.le_of_ble_eq_true rfl) dX6_boatTold_60 rfl hr (fun y106 h105 hr => ?_)
    cases hr
    exact mb_iret dX6_boatTold_63
  refine mb_sw1 7 hr (fun hr => ?_) (fun q7 hr => ?_)
  · refine mb_swIn (tgt := 64) (off := 63) dX6_boatTold_1 (by decide) (by decide) (by decide) (by decide) ?_
    refine mb_aload_n (pn := 65) 0 dX6_boatTold_64 rfl rfl rfl ?_
    refine mb_iload_n (pn := 66) 1 dX6_boatTold_65 rfl rfl rfl ?_
    refine mb_bipush (v := 8) (pn := 68) dX6_boatTold_66 (by decide) rfl ?_
    refine cl_X6_50 (pn := 71) hst hg (Nat.le_of_ble_eq_true rfl) (Nat.le_of_ble_eq_true rfl) dX6_boatTold_68 rfl hr (fun y108 h107 hr => ?_)
    cases hr
    exact mb_iret dX6_boatTold_71
  refine mb_sw1 8 hr (fun hr => ?_) (fun q8 hr => ?_)
  · refine mb_swIn (tgt := 72) (off := 71) dX6_boatTold_1 (by decide) (by decide) (by decide) (by decide) ?_
    refine mb_aload_n (pn := 73) 0 dX6_boatTold_72 rfl rfl rfl ?_
    refine mb_iload_n (pn := 74) 1 dX6_boatTold_73 rfl rfl rfl ?_
    refine mb_aload_n (pn := 75) 0 dX6_boatTold_74 rfl rfl rfl ?_
    refine gf_X6_7 (pn := 78) dX6_boatTold_75 rfl ?_
    refine mb_iconst (v := 4) (pn := 79) dX6_boatTold_78 (by decide) rfl ?_
    refine mb_iald (pn := 80) (n := 270) rfl dX6_boatTold_79 rfl hr (fun hr => ?_)
    refine cl_X6_158 (pn := 83) hst hg (Nat.le_of_ble_eq_true rfl) (Nat.le_of_ble_eq_true rfl) dX6_boatTold_80 rfl hr (fun y110 h109 hr => ?_)
    refine mb_if_eq (tgt := 90) (pn := 86) dX6_boatTold_83 (by decide) rfl hr (fun hr => ?_) (fun hr => ?_)
    · refine mb_iconst (v := 0) (pn := 91) dX6_boatTold_90 (by decide) rfl ?_
      cases hr
      exact mb_iret dX6_boatTold_91
    · refine mb_iconst (v := 1) (pn := 87) dX6_boatTold_86 (by decide) rfl ?_
      refine mb_goto (tgt := 91) dX6_boatTold_87 (by decide) ?_
      cases hr
      exact mb_iret dX6_boatTold_91
  refine mb_sw1 9 hr (fun hr => ?_) (fun q9 hr => ?_)
  · refine mb_swIn (tgt := 92) (off := 91) dX6_boatTold_1 (by decide) (by decide) (by decide) (by decide) ?_
    refine mb_aload_n (pn := 93) 0 dX6_boatTold_92 rfl rfl rfl ?_
    refine mb_iload_n (pn := 94) 1 dX6_boatTold_93 rfl rfl rfl ?_
    refine mb_iconst (v := 3) (pn := 95) dX6_boatTold_94 (by decide) rfl ?_
    refine cl_X6_50 (pn := 98) hst hg (Nat.le_of_ble_eq_true rfl) (Nat.le_of_ble_eq_true rfl) dX6_boatTold_95 rfl hr (fun y112 h111 hr => ?_)
    refine mb_iconst (v := 1) (pn := 99) dX6_boatTold_98 (by decide) rfl ?_
    refine mb_ic_ne (tgt := 116) (pn := 102) dX6_boatTold_99 (by decide) rfl hr (fun hr => ?_) (fun hr => ?_)
    · refine mb_iconst (v := 1) (pn := 117) dX6_boatTold_116 (by decide) rfl ?_
      refine mb_goto (tgt := 121) dX6_boatTold_117 (by decide) ?_
      cases hr
      exact mb_iret dX6_boatTold_121
    · refine mb_aload_n (pn := 103) 0 dX6_boatTold_102 rfl rfl rfl ?_
      refine mb_iload_n (pn := 104) 1 dX6_boatTold_103 rfl rfl rfl ?_
      refine mb_aload_n (pn := 105) 0 dX6_boatTold_104 rfl rfl rfl ?_
      refine mb_iload_n (pn := 106) 1 dX6_boatTold_105 rfl rfl rfl ?_
      refine mb_iconst (v := 4) (pn := 107) dX6_boatTold_106 (by decide) rfl ?_
      refine cl_X6_50 (pn := 110) hst hg (Nat.le_of_ble_eq_true rfl) (Nat.le_of_ble_eq_true rfl) dX6_boatTold_107 rfl hr (fun y114 h113 hr => ?_)
      refine cl_X6_96 (pn := 113) hst hg (Nat.le_of_ble_eq_true rfl) (Nat.le_of_ble_eq_true rfl) dX6_boatTold_110 rfl hr (fun y116 h115 hr => ?_)
      refine mb_if_eq (tgt := 120) (pn := 116) dX6_boatTold_113 (by decide) rfl hr (fun hr => ?_) (fun hr => ?_)
      · refine mb_iconst (v := 0) (pn := 121) dX6_boatTold_120 (by decide) rfl ?_
        cases hr
        exact mb_iret dX6_boatTold_121
      · refine mb_iconst (v := 1) (pn := 117) dX6_boatTold_116 (by decide) rfl ?_
        refine mb_goto (tgt := 121) dX6_boatTold_117 (by decide) ?_
        cases hr
        exact mb_iret dX6_boatTold_121
  refine mb_swOut (tgt := 122) dX6_boatTold_1 (mb_out5_9 q5 q6 q7 q8 q9) (by decide) ?_
  refine mb_aload_n (pn := 123) 0 dX6_boatTold_122 rfl rfl rfl ?_
  refine mb_iload_n (pn := 124) 1 dX6_boatTold_123 rfl rfl rfl ?_
  refine mb_iload_n (pn := 125) 2 dX6_boatTold_124 rfl rfl rfl ?_
  refine cl_X6_50 (pn := 128) hst hg (Nat.le_of_ble_eq_true rfl) (Nat.le_of_ble_eq_true rfl) dX6_boatTold_125 rfl hr (fun y118 h117 hr => ?_)
  cases hr
  exact mb_iret dX6_boatTold_128
set_option maxRecDepth 100000 in
set_option maxHeartbeats 4000000 in
theorem cl_X6_161 {l : Launch} {G : mb_G} {cc : ByteArray} {nL : Nat} {ret : Option FieldType} {d pc pn : Nat} {lv : List (Nat × mb_AV)} {st : List mb_AV} {h : mb_AH} {res : mb_RS} (hst : l.stackTraces = false) (hg : mb_gok G) {x1 : Int32} {K : Int32 → mb_AH → Option mb_RS} (hd2 : 1 + 1 ≤ d) (hs4 : st.length ≤ 4) (dg : decode cc pc = .ok (.invokevirtual 161, 3)) (hn : pc + 3 = pn) (hr : mb_cI (F_X6_isBoat x1 h) K = some res) (kk : ∀ (x : Int32) (h2 : mb_AH), K x h2 = some res → mb_Ev l G RX6 cc nL ret d pn lv (.inl x :: st) h2 res) : mb_Ev l G RX6 cc nL ret d pc lv (.inl x1 :: mb_F 6 0 0 :: st) h res := mb_kVI (as := [.inl x1]) (n := 1) (d2 := 1) (ci := 6) (fun _ hf => C_X6_isBoat hst hg hf) (mb_gV wl_X6_161 mi_X6_isBoat ms_X6_isBoat mn_X6 mc_X6_isBoat) (by decide +kernel) rfl rfl rfl hd2 (by decide) hs4 rfl dg hn hr kk
set_option maxRecDepth 100000 in
set_option maxHeartbeats 4000000 in
theorem cl_X6_164 {l : Launch} {G : mb_G} {cc : ByteArray} {nL : Nat} {ret : Option FieldType} {d pc pn : Nat} {lv : List (Nat × mb_AV)} {st : List mb_AV} {h : mb_AH} {res : mb_RS} (hst : l.stackTraces = false) (hg : mb_gok G) {x1 : Int32} {x2 : Int32} {K : Int32 → mb_AH → Option mb_RS} (hd2 : 3 + 1 ≤ d) (hs4 : st.length ≤ 4) (dg : decode cc pc = .ok (.invokevirtual 164, 3)) (hn : pc + 3 = pn) (hr : mb_cI (F_X6_boatTold x1 x2 h) K = some res) (kk : ∀ (x : Int32) (h2 : mb_AH), K x h2 = some res → mb_Ev l G RX6 cc nL ret d pn lv (.inl x :: st) h2 res) : mb_Ev l G RX6 cc nL ret d pc lv (.inl x2 :: .inl x1 :: mb_F 6 0 0 :: st) h res := mb_kVI (as := [.inl x1, .inl x2]) (n := 2) (d2 := 3) (ci := 6) (fun _ hf => C_X6_boatTold hst hg hf) (mb_gV wl_X6_164 mi_X6_boatTold ms_X6_boatTold mn_X6 mc_X6_boatTold) (by decide +kernel) rfl rfl rfl hd2 (by decide) hs4 rfl dg hn hr kk
def B_X6_boat_28  (v1 : Int32) (v2 : Int32) (s0 : Int32) (h : mb_AH) : Option mb_RS := (mb_cI (F_X6_refused s0 h) fun y106 h105 => (if y106 = 0 then (mb_cI (F_X6_boatTold v1 v2 h105) fun y108 h107 => (some (.inl (some (.inl y108)), h107))) else (some (.inl (some (.inl 0)), h105))))
set_option maxRecDepth 100000 in
set_option maxHeartbeats 4000000 in
theorem T_X6_boat_28 {l : Launch} {G : mb_G} {res : mb_RS} (hst : l.stackTraces = false) (hg : mb_gok G)   {v1 : Int32} {v2 : Int32} {s0 : Int32} {h : mb_AH} (hr : B_X6_boat_28  v1 v2 s0 h = some res) : mb_Ev l G RX6 cX6_boat 3 (some .int) 4 28 [(0, mb_F 6 0 0), (1, .inl v1), (2, .inl v2)] [.inl s0, mb_F 6 0 0] h res := by
  unfold B_X6_boat_28 at hr
  refine cl_X6_42 (pn := 31) hst hg (Nat.le_of_ble_eq_true rfl) (Nat.le_of_ble_eq_true rfl) dX6_boat_28 rfl hr (fun y106 h105 hr => ?_)
  refine mb_if_eq (tgt := 38) (pn := 34) dX6_boat_31 (by decide) rfl hr (fun hr => ?_) (fun hr => ?_)
  · refine mb_aload_n (pn := 39) 0 dX6_boat_38 rfl rfl rfl ?_
    refine mb_iload_n (pn := 40) 1 dX6_boat_39 rfl rfl rfl ?_
    refine mb_iload_n (pn := 41) 2 dX6_boat_40 rfl rfl rfl ?_
    refine cl_X6_164 (pn := 44) hst hg (Nat.le_of_ble_eq_true rfl) (Nat.le_of_ble_eq_true rfl) dX6_boat_41 rfl hr (fun y108 h107 hr => ?_)
    cases hr
    exact mb_iret dX6_boat_44
  · refine mb_iconst (v := 0) (pn := 35) dX6_boat_34 (by decide) rfl ?_
    refine mb_goto (tgt := 44) dX6_boat_35 (by decide) ?_
    cases hr
    exact mb_iret dX6_boat_44
def F_X6_boat (x1 : Int32) (x2 : Int32) (h : mb_AH) : Option mb_RS := (mb_cI (F_X6_isBoat x1 h) fun y102 h101 => (if y102 = 0 then (B_X6_boat_28  x1 x2 1 h101) else (mb_cI (F_X6_within x2 (0 : Int32) (9 : Int32) h101) fun y104 h103 => (if y104 = 0 then (B_X6_boat_28  x1 x2 2 h103) else (B_X6_boat_28  x1 x2 0 h103)))))
set_option maxRecDepth 100000 in
set_option maxHeartbeats 4000000 in
theorem C_X6_boat {l : Launch} {G : mb_G} (hst : l.stackTraces = false) (hg : mb_gok G) {x1 : Int32} {x2 : Int32} {h : mb_AH} {res : mb_RS} (hr : F_X6_boat x1 x2 h = some res) : mb_Mt l G yX6_boat cX6_boat 3 (some .int) 4 [mb_F 6 0 0, .inl x1, .inl x2] h res := by
  refine mb_entry (own := RX6) (lv := [(0, mb_F 6 0 0), (1, .inl x1), (2, .inl x2)]) (by decide +kernel) rfl (Nat.le_of_ble_eq_true rfl) rfl rfl (fun _ => ?_) hst hg
  unfold F_X6_boat at hr
  refine mb_aload_n (pn := 1) 0 dX6_boat_0 rfl rfl rfl ?_
  refine mb_aload_n (pn := 2) 0 dX6_boat_1 rfl rfl rfl ?_
  refine mb_iload_n (pn := 3) 1 dX6_boat_2 rfl rfl rfl ?_
  refine cl_X6_161 (pn := 6) hst hg (Nat.le_of_ble_eq_true rfl) (Nat.le_of_ble_eq_true rfl) dX6_boat_3 rfl hr (fun y102 h101 hr => ?_)
  refine mb_if_ne (tgt := 13) (pn := 9) dX6_boat_6 (by decide) rfl hr (fun hr => ?_) (fun hr => ?_)
  · refine mb_iload_n (pn := 14) 2 dX6_boat_13 rfl rfl rfl ?_
    refine mb_iconst (v := 0) (pn := 15) dX6_boat_14 (by decide) rfl ?_
    refine mb_bipush (v := 9) (pn := 17) dX6_boat_15 (by decide) rfl ?_
    refine cl_X6_46 (pn := 20) hst hg (Nat.le_of_ble_eq_true rfl) (Nat.le_of_ble_eq_true rfl) dX6_boat_17 rfl hr (fun y104 h103 hr => ?_)
    refine mb_if_ne (tgt := 27) (pn := 23) dX6_boat_20 (by decide) rfl hr (fun hr => ?_) (fun hr => ?_)
    · refine mb_iconst (v := 0) (pn := 28) dX6_boat_27 (by decide) rfl ?_
      exact mb_lvs [0, 1, 2] rfl (T_X6_boat_28 hst hg  hr)
    · refine mb_iconst (v := 2) (pn := 24) dX6_boat_23 (by decide) rfl ?_
      refine mb_goto (tgt := 28) dX6_boat_24 (by decide) ?_
      exact mb_lvs [0, 1, 2] rfl (T_X6_boat_28 hst hg  hr)
  · refine mb_iconst (v := 1) (pn := 10) dX6_boat_9 (by decide) rfl ?_
    refine mb_goto (tgt := 28) dX6_boat_10 (by decide) ?_
    exact mb_lvs [0, 1, 2] rfl (T_X6_boat_28 hst hg  hr)
def F_X6_areBoth (x1 : Int32) (x2 : Int32) (h : mb_AH) : Option mb_RS := (mb_cI (F_X6_isBoat x1 h) fun y102 h101 => (if y102 = 0 then (some (.inl (some (.inl 0)), h101)) else (mb_cI (F_X6_isBerth x2 h101) fun y104 h103 => (if y104 = 0 then (some (.inl (some (.inl 0)), h103)) else (some (.inl (some (.inl 1)), h103))))))
set_option maxRecDepth 100000 in
set_option maxHeartbeats 4000000 in
theorem C_X6_areBoth {l : Launch} {G : mb_G} (hst : l.stackTraces = false) (hg : mb_gok G) {x1 : Int32} {x2 : Int32} {h : mb_AH} {res : mb_RS} (hr : F_X6_areBoth x1 x2 h = some res) : mb_Mt l G yX6_areBoth cX6_areBoth 3 (some .boolean) 2 [mb_F 6 0 0, .inl x1, .inl x2] h res := by
  refine mb_entry (own := RX6) (lv := [(0, mb_F 6 0 0), (1, .inl x1), (2, .inl x2)]) (by decide +kernel) rfl (Nat.le_of_ble_eq_true rfl) rfl rfl (fun _ => ?_) hst hg
  unfold F_X6_areBoth at hr
  refine mb_aload_n (pn := 1) 0 dX6_areBoth_0 rfl rfl rfl ?_
  refine mb_iload_n (pn := 2) 1 dX6_areBoth_1 rfl rfl rfl ?_
  refine cl_X6_161 (pn := 5) hst hg (Nat.le_of_ble_eq_true rfl) (Nat.le_of_ble_eq_true rfl) dX6_areBoth_2 rfl hr (fun y102 h101 hr => ?_)
  refine mb_if_eq (tgt := 20) (pn := 8) dX6_areBoth_5 (by decide) rfl hr (fun hr => ?_) (fun hr => ?_)
  · refine mb_iconst (v := 0) (pn := 21) dX6_areBoth_20 (by decide) rfl ?_
    cases hr
    exact mb_zret0 dX6_areBoth_21
  · refine mb_aload_n (pn := 9) 0 dX6_areBoth_8 rfl rfl rfl ?_
    refine mb_iload_n (pn := 10) 2 dX6_areBoth_9 rfl rfl rfl ?_
    refine cl_X6_152 (pn := 13) hst hg (Nat.le_of_ble_eq_true rfl) (Nat.le_of_ble_eq_true rfl) dX6_areBoth_10 rfl hr (fun y104 h103 hr => ?_)
    refine mb_if_eq (tgt := 20) (pn := 16) dX6_areBoth_13 (by decide) rfl hr (fun hr => ?_) (fun hr => ?_)
    · refine mb_iconst (v := 0) (pn := 21) dX6_areBoth_20 (by decide) rfl ?_
      cases hr
      exact mb_zret0 dX6_areBoth_21
    · refine mb_iconst (v := 1) (pn := 17) dX6_areBoth_16 (by decide) rfl ?_
      refine mb_goto (tgt := 21) dX6_areBoth_17 (by decide) ?_
      cases hr
      exact mb_zret1 dX6_areBoth_21
set_option maxRecDepth 100000 in
set_option maxHeartbeats 4000000 in
theorem cl_X6_167 {l : Launch} {G : mb_G} {cc : ByteArray} {nL : Nat} {ret : Option FieldType} {d pc pn : Nat} {lv : List (Nat × mb_AV)} {st : List mb_AV} {h : mb_AH} {res : mb_RS} (hst : l.stackTraces = false) (hg : mb_gok G) {x1 : Int32} {x2 : Int32} {K : Int32 → mb_AH → Option mb_RS} (hd2 : 2 + 1 ≤ d) (hs4 : st.length ≤ 4) (dg : decode cc pc = .ok (.invokevirtual 167, 3)) (hn : pc + 3 = pn) (hr : mb_cI (F_X6_areBoth x1 x2 h) K = some res) (kk : ∀ (x : Int32) (h2 : mb_AH), K x h2 = some res → mb_Ev l G RX6 cc nL ret d pn lv (.inl x :: st) h2 res) : mb_Ev l G RX6 cc nL ret d pc lv (.inl x2 :: .inl x1 :: mb_F 6 0 0 :: st) h res := mb_kVI (as := [.inl x1, .inl x2]) (n := 2) (d2 := 2) (ci := 6) (fun _ hf => C_X6_areBoth hst hg hf) (mb_gV wl_X6_167 mi_X6_areBoth ms_X6_areBoth mn_X6 mc_X6_areBoth) (by decide +kernel) rfl rfl rfl hd2 (by decide) hs4 rfl dg hn hr kk
def B_X6_fits_15  (v1 : Int32) (v2 : Int32) (s0 : Int32) (h : mb_AH) : Option mb_RS := (mb_cI (F_X6_refused s0 h) fun y104 h103 => (if y104 = 0 then (mb_cI (F_X6_isFit v1 v2 h103) fun y106 h105 => (if y106 = 0 then (some (.inl (some (.inl 0)), h105)) else (some (.inl (some (.inl 1)), h105)))) else (some (.inl (some (.inl 0)), h103))))
set_option maxRecDepth 100000 in
set_option maxHeartbeats 4000000 in
theorem T_X6_fits_15 {l : Launch} {G : mb_G} {res : mb_RS} (hst : l.stackTraces = false) (hg : mb_gok G)   {v1 : Int32} {v2 : Int32} {s0 : Int32} {h : mb_AH} (hr : B_X6_fits_15  v1 v2 s0 h = some res) : mb_Ev l G RX6 cX6_fits 3 (some .boolean) 3 15 [(0, mb_F 6 0 0), (1, .inl v1), (2, .inl v2)] [.inl s0, mb_F 6 0 0] h res := by
  unfold B_X6_fits_15 at hr
  refine cl_X6_42 (pn := 18) hst hg (Nat.le_of_ble_eq_true rfl) (Nat.le_of_ble_eq_true rfl) dX6_fits_15 rfl hr (fun y104 h103 hr => ?_)
  refine mb_if_ne (tgt := 34) (pn := 21) dX6_fits_18 (by decide) rfl hr (fun hr => ?_) (fun hr => ?_)
  · refine mb_iconst (v := 0) (pn := 35) dX6_fits_34 (by decide) rfl ?_
    cases hr
    exact mb_zret0 dX6_fits_35
  · refine mb_aload_n (pn := 22) 0 dX6_fits_21 rfl rfl rfl ?_
    refine mb_iload_n (pn := 23) 1 dX6_fits_22 rfl rfl rfl ?_
    refine mb_iload_n (pn := 24) 2 dX6_fits_23 rfl rfl rfl ?_
    refine cl_X6_96 (pn := 27) hst hg (Nat.le_of_ble_eq_true rfl) (Nat.le_of_ble_eq_true rfl) dX6_fits_24 rfl hr (fun y106 h105 hr => ?_)
    refine mb_if_eq (tgt := 34) (pn := 30) dX6_fits_27 (by decide) rfl hr (fun hr => ?_) (fun hr => ?_)
    · refine mb_iconst (v := 0) (pn := 35) dX6_fits_34 (by decide) rfl ?_
      cases hr
      exact mb_zret0 dX6_fits_35
    · refine mb_iconst (v := 1) (pn := 31) dX6_fits_30 (by decide) rfl ?_
      refine mb_goto (tgt := 35) dX6_fits_31 (by decide) ?_
      cases hr
      exact mb_zret1 dX6_fits_35
def F_X6_fits (x1 : Int32) (x2 : Int32) (h : mb_AH) : Option mb_RS := (mb_cI (F_X6_areBoth x1 x2 h) fun y102 h101 => (if y102 = 0 then (B_X6_fits_15  x1 x2 1 h101) else (B_X6_fits_15  x1 x2 0 h101)))
set_option maxRecDepth 100000 in
set_option maxHeartbeats 4000000 in
theorem C_X6_fits {l : Launch} {G : mb_G} (hst : l.stackTraces = false) (hg : mb_gok G) {x1 : Int32} {x2 : Int32} {h : mb_AH} {res : mb_RS} (hr : F_X6_fits x1 x2 h = some res) : mb_Mt l G yX6_fits cX6_fits 3 (some .boolean) 3 [mb_F 6 0 0, .inl x1, .inl x2] h res := by
  refine mb_entry (own := RX6) (lv := [(0, mb_F 6 0 0), (1, .inl x1), (2, .inl x2)]) (by decide +kernel) rfl (Nat.le_of_ble_eq_true rfl) rfl rfl (fun _ => ?_) hst hg
  unfold F_X6_fits at hr
  refine mb_aload_n (pn := 1) 0 dX6_fits_0 rfl rfl rfl ?_
  refine mb_aload_n (pn := 2) 0 dX6_fits_1 rfl rfl rfl ?_
  refine mb_iload_n (pn := 3) 1 dX6_fits_2 rfl rfl rfl ?_
  refine mb_iload_n (pn := 4) 2 dX6_fits_3 rfl rfl rfl ?_
  refine cl_X6_167 (pn := 7) hst hg (Nat.le_of_ble_eq_true rfl) (Nat.le_of_ble_eq_true rfl) dX6_fits_4 rfl hr (fun y102 h101 hr => ?_)
  refine mb_if_eq (tgt := 14) (pn := 10) dX6_fits_7 (by decide) rfl hr (fun hr => ?_) (fun hr => ?_)
  · refine mb_iconst (v := 1) (pn := 15) dX6_fits_14 (by decide) rfl ?_
    exact mb_lvs [0, 1, 2] rfl (T_X6_fits_15 hst hg  hr)
  · refine mb_iconst (v := 0) (pn := 11) dX6_fits_10 (by decide) rfl ?_
    refine mb_goto (tgt := 15) dX6_fits_11 (by decide) ?_
    exact mb_lvs [0, 1, 2] rfl (T_X6_fits_15 hst hg  hr)
set_option maxRecDepth 100000 in
set_option maxHeartbeats 4000000 in
theorem cl_X6_170 {l : Launch} {G : mb_G} {cc : ByteArray} {nL : Nat} {ret : Option FieldType} {d pc pn : Nat} {lv : List (Nat × mb_AV)} {st : List mb_AV} {h : mb_AH} {res : mb_RS} (hst : l.stackTraces = false) (hg : mb_gok G) {x1 : Int32} {K : Int32 → mb_AH → Option mb_RS} (hd2 : 1 + 1 ≤ d) (hs4 : st.length ≤ 4) (dg : decode cc pc = .ok (.invokevirtual 170, 3)) (hn : pc + 3 = pn) (hr : mb_cI (F_X6_countIn x1 h) K = some res) (kk : ∀ (x : Int32) (h2 : mb_AH), K x h2 = some res → mb_Ev l G RX6 cc nL ret d pn lv (.inl x :: st) h2 res) : mb_Ev l G RX6 cc nL ret d pc lv (.inl x1 :: mb_F 6 0 0 :: st) h res := mb_kVI (as := [.inl x1]) (n := 1) (d2 := 1) (ci := 6) (fun _ hf => C_X6_countIn hst hg hf) (mb_gV wl_X6_170 mi_X6_countIn ms_X6_countIn mn_X6 mc_X6_countIn) (by decide +kernel) rfl rfl rfl hd2 (by decide) hs4 rfl dg hn hr kk
def F_X6_free  (h : mb_AH) : Option mb_RS := (mb_gB 6 270 (mb_cI (F_X6_countIn (1 : Int32) h) fun y102 h101 => (some (.inl (some (.inl ((h.1 20 0 0 (6 : Int32).toNatClampNeg) - y102))), h101))))
set_option maxRecDepth 100000 in
set_option maxHeartbeats 4000000 in
theorem C_X6_free {l : Launch} {G : mb_G} (hst : l.stackTraces = false) (hg : mb_gok G)  {h : mb_AH} {res : mb_RS} (hr : F_X6_free  h = some res) : mb_Mt l G yX6_free cX6_free 1 (some .int) 2 [mb_F 6 0 0] h res := by
  refine mb_entry (own := RX6) (lv := [(0, mb_F 6 0 0)]) (by decide +kernel) rfl (Nat.le_of_ble_eq_true rfl) rfl rfl (fun _ => ?_) hst hg
  unfold F_X6_free at hr
  refine mb_aload_n (pn := 1) 0 dX6_free_0 rfl rfl rfl ?_
  refine gf_X6_7 (pn := 4) dX6_free_1 rfl ?_
  refine mb_bipush (v := 6) (pn := 6) dX6_free_4 (by decide) rfl ?_
  refine mb_iald (pn := 7) (n := 270) rfl dX6_free_6 rfl hr (fun hr => ?_)
  refine mb_aload_n (pn := 8) 0 dX6_free_7 rfl rfl rfl ?_
  refine mb_iconst (v := 1) (pn := 9) dX6_free_8 (by decide) rfl ?_
  refine cl_X6_170 (pn := 12) hst hg (Nat.le_of_ble_eq_true rfl) (Nat.le_of_ble_eq_true rfl) dX6_free_9 rfl hr (fun y102 h101 hr => ?_)
  refine mb_isub (pn := 13) dX6_free_12 rfl ?_
  cases hr
  exact mb_iret dX6_free_13
def B_X6_aground_4  : Nat → Int32 → Int32 → mb_AH → Option mb_RS
  | 0, _, _, _ => none
  | n + 1, v1, v2, h => (mb_gB 7 270 (if (h.1 20 0 0 (7 : Int32).toNatClampNeg) ≤ v2 then (some (.inl (some (.inl v1)), h)) else (mb_gB 4 270 (mb_cI (F_X6_isAground v2 (h.1 20 0 0 (4 : Int32).toNatClampNeg) h) fun y102 h101 => (if y102 = 0 then (mb_lI (v1 + 0) fun y103 => (mb_lI (v2 + 1) fun y104 => ((B_X6_aground_4  n) y103 y104 h101))) else (mb_lI (v1 + 1) fun y105 => (mb_lI (v2 + 1) fun y106 => ((B_X6_aground_4  n) y105 y106 h101))))))))
set_option maxRecDepth 100000 in
set_option maxHeartbeats 4000000 in
theorem T_X6_aground_4 {l : Launch} {G : mb_G} {res : mb_RS} (hst : l.stackTraces = false) (hg : mb_gok G)   : ∀ (n : Nat) (v1 : Int32) (v2 : Int32) (h : mb_AH), B_X6_aground_4  n v1 v2 h = some res → mb_Ev l G RX6 cX6_aground 3 (some .int) 2 4 [(0, mb_F 6 0 0), (1, .inl v1), (2, .inl v2)] [] h res := by
  intro n
  induction n with
  | zero => intro v1 v2 h hr; cases hr
  | succ n ih =>
    intro v1 v2 h hr
    rw [B_X6_aground_4] at hr
    refine mb_iload_n (pn := 5) 2 dX6_aground_4 rfl rfl rfl ?_
    refine mb_aload_n (pn := 6) 0 dX6_aground_5 rfl rfl rfl ?_
    refine gf_X6_7 (pn := 9) dX6_aground_6 rfl ?_
    refine mb_bipush (v := 7) (pn := 11) dX6_aground_9 (by decide) rfl ?_
    refine mb_iald (pn := 12) (n := 270) rfl dX6_aground_11 rfl hr (fun hr => ?_)
    refine mb_ic_ge (tgt := 43) (pn := 15) dX6_aground_12 (by decide) rfl hr (fun hr => ?_) (fun hr => ?_)
    · refine mb_iload_n (pn := 44) 1 dX6_aground_43 rfl rfl rfl ?_
      cases hr
      exact mb_iret dX6_aground_44
    · refine mb_iload_n (pn := 16) 1 dX6_aground_15 rfl rfl rfl ?_
      refine mb_aload_n (pn := 17) 0 dX6_aground_16 rfl rfl rfl ?_
      refine mb_iload_n (pn := 18) 2 dX6_aground_17 rfl rfl rfl ?_
      refine mb_aload_n (pn := 19) 0 dX6_aground_18 rfl rfl rfl ?_
      refine gf_X6_7 (pn := 22) dX6_aground_19 rfl ?_
      refine mb_iconst (v := 4) (pn := 23) dX6_aground_22 (by decide) rfl ?_
      refine mb_iald (pn := 24) (n := 270) rfl dX6_aground_23 rfl hr (fun hr => ?_)
      refine cl_X6_158 (pn := 27) hst hg (Nat.le_of_ble_eq_true rfl) (Nat.le_of_ble_eq_true rfl) dX6_aground_24 rfl hr (fun y102 h101 hr => ?_)
      refine mb_if_eq (tgt := 34) (pn := 30) dX6_aground_27 (by decide) rfl hr (fun hr => ?_) (fun hr => ?_)
      · refine mb_iconst (v := 0) (pn := 35) dX6_aground_34 (by decide) rfl ?_
        refine mb_iadd (pn := 36) dX6_aground_35 rfl ?_
        refine mb_nmI hr (fun y103 hr => ?_)
        refine mb_istore_n (pn := 37) (lv2 := [(1, .inl y103), (0, mb_F 6 0 0), (2, .inl v2)]) dX6_aground_36 rfl (by decide) rfl rfl ?_
        refine mb_nmx hr (fun y104 qy104 hr => ?_)
        refine mb_iinc (v := y104) (pn := 40) (lv2 := [(2, .inl y104), (1, .inl y103), (0, mb_F 6 0 0)]) 2 dX6_aground_37 rfl (by rw [qy104]; rfl) (by decide) rfl rfl ?_
        refine mb_goto (tgt := 4) dX6_aground_40 (by decide) ?_
        exact mb_lvs [2, 1, 0] rfl (ih _ _ _ hr)
      · refine mb_iconst (v := 1) (pn := 31) dX6_aground_30 (by decide) rfl ?_
        refine mb_goto (tgt := 35) dX6_aground_31 (by decide) ?_
        refine mb_iadd (pn := 36) dX6_aground_35 rfl ?_
        refine mb_nmI hr (fun y105 hr => ?_)
        refine mb_istore_n (pn := 37) (lv2 := [(1, .inl y105), (0, mb_F 6 0 0), (2, .inl v2)]) dX6_aground_36 rfl (by decide) rfl rfl ?_
        refine mb_nmx hr (fun y106 qy106 hr => ?_)
        refine mb_iinc (v := y106) (pn := 40) (lv2 := [(2, .inl y106), (1, .inl y105), (0, mb_F 6 0 0)]) 2 dX6_aground_37 rfl (by rw [qy106]; rfl) (by decide) rfl rfl ?_
        refine mb_goto (tgt := 4) dX6_aground_40 (by decide) ?_
        exact mb_lvs [2, 1, 0] rfl (ih _ _ _ hr)
def F_X6_aground  (h : mb_AH) : Option mb_RS := (B_X6_aground_4  mb_fu 0 0 h)
set_option maxRecDepth 100000 in
set_option maxHeartbeats 4000000 in
theorem C_X6_aground {l : Launch} {G : mb_G} (hst : l.stackTraces = false) (hg : mb_gok G)  {h : mb_AH} {res : mb_RS} (hr : F_X6_aground  h = some res) : mb_Mt l G yX6_aground cX6_aground 3 (some .int) 2 [mb_F 6 0 0] h res := by
  refine mb_entry (own := RX6) (lv := [(0, mb_F 6 0 0)]) (by decide +kernel) rfl (Nat.le_of_ble_eq_true rfl) rfl rfl (fun _ => ?_) hst hg
  unfold F_X6_aground at hr
  refine mb_iconst (v := 0) (pn := 1) dX6_aground_0 (by decide) rfl ?_
  refine mb_istore_n (pn := 2) (lv2 := [(1, .inl 0), (0, mb_F 6 0 0)]) dX6_aground_1 rfl (by decide) rfl rfl ?_
  refine mb_iconst (v := 0) (pn := 3) dX6_aground_2 (by decide) rfl ?_
  refine mb_istore_n (pn := 4) (lv2 := [(2, .inl 0), (1, .inl 0), (0, mb_F 6 0 0)]) dX6_aground_3 rfl (by decide) rfl rfl ?_
  exact mb_lvs [2, 1, 0] rfl (T_X6_aground_4 hst hg  mb_fu _ _ _ hr)
set_option maxRecDepth 100000 in
set_option maxHeartbeats 4000000 in
theorem cl_X6_173 {l : Launch} {G : mb_G} {cc : ByteArray} {nL : Nat} {ret : Option FieldType} {d pc pn : Nat} {lv : List (Nat × mb_AV)} {st : List mb_AV} {h : mb_AH} {res : mb_RS} (hst : l.stackTraces = false) (hg : mb_gok G)  {K : Int32 → mb_AH → Option mb_RS} (hd2 : 2 + 1 ≤ d) (hs4 : st.length ≤ 4) (dg : decode cc pc = .ok (.invokevirtual 173, 3)) (hn : pc + 3 = pn) (hr : mb_cI (F_X6_free  h) K = some res) (kk : ∀ (x : Int32) (h2 : mb_AH), K x h2 = some res → mb_Ev l G RX6 cc nL ret d pn lv (.inl x :: st) h2 res) : mb_Ev l G RX6 cc nL ret d pc lv (mb_F 6 0 0 :: st) h res := mb_kVI (as := []) (n := 0) (d2 := 2) (ci := 6) (fun _ hf => C_X6_free hst hg hf) (mb_gV wl_X6_173 mi_X6_free ms_X6_free mn_X6 mc_X6_free) (by decide +kernel) rfl rfl rfl hd2 (by decide) hs4 rfl dg hn hr kk
set_option maxRecDepth 100000 in
set_option maxHeartbeats 4000000 in
theorem cl_X6_176 {l : Launch} {G : mb_G} {cc : ByteArray} {nL : Nat} {ret : Option FieldType} {d pc pn : Nat} {lv : List (Nat × mb_AV)} {st : List mb_AV} {h : mb_AH} {res : mb_RS} (hst : l.stackTraces = false) (hg : mb_gok G)  {K : Int32 → mb_AH → Option mb_RS} (hd2 : 2 + 1 ≤ d) (hs4 : st.length ≤ 4) (dg : decode cc pc = .ok (.invokevirtual 176, 3)) (hn : pc + 3 = pn) (hr : mb_cI (F_X6_aground  h) K = some res) (kk : ∀ (x : Int32) (h2 : mb_AH), K x h2 = some res → mb_Ev l G RX6 cc nL ret d pn lv (.inl x :: st) h2 res) : mb_Ev l G RX6 cc nL ret d pc lv (mb_F 6 0 0 :: st) h res := mb_kVI (as := []) (n := 0) (d2 := 2) (ci := 6) (fun _ hf => C_X6_aground hst hg hf) (mb_gV wl_X6_176 mi_X6_aground ms_X6_aground mn_X6 mc_X6_aground) (by decide +kernel) rfl rfl rfl hd2 (by decide) hs4 rfl dg hn hr kk
def F_X6_infoTold (x1 : Int32) (h : mb_AH) : Option mb_RS := (if x1 = 8 then (mb_cI (F_X6_free h) fun y102 h101 => (some (.inl (some (.inl y102)), h101))) else (if x1 = 9 then (mb_cI (F_X6_countIn (2 : Int32) h) fun y104 h103 => (some (.inl (some (.inl y104)), h103))) else (if x1 = 10 then (mb_cI (F_X6_countIn (3 : Int32) h) fun y106 h105 => (some (.inl (some (.inl y106)), h105))) else (if x1 = 11 then (mb_cI (F_X6_aground h) fun y108 h107 => (some (.inl (some (.inl y108)), h107))) else (if x1 = 12 then (mb_cI (F_X6_lowest h) fun y110 h109 => (some (.inl (some (.inl y110)), h109))) else (if x1 = 13 then (mb_gB 8 270 (some (.inl (some (.inl (h.1 20 0 0 (8 : Int32).toNatClampNeg))), h))) else (mb_gB x1 270 (some (.inl (some (.inl (h.1 20 0 0 x1.toNatClampNeg))), h)))))))))
set_option maxRecDepth 100000 in
set_option maxHeartbeats 4000000 in
theorem C_X6_infoTold {l : Launch} {G : mb_G} (hst : l.stackTraces = false) (hg : mb_gok G) {x1 : Int32} {h : mb_AH} {res : mb_RS} (hr : F_X6_infoTold x1 h = some res) : mb_Mt l G yX6_infoTold cX6_infoTold 2 (some .int) 3 [mb_F 6 0 0, .inl x1] h res := by
  refine mb_entry (own := RX6) (lv := [(0, mb_F 6 0 0), (1, .inl x1)]) (by decide +kernel) rfl (Nat.le_of_ble_eq_true rfl) rfl rfl (fun _ => ?_) hst hg
  unfold F_X6_infoTold at hr
  refine mb_iload_n (pn := 1) 1 dX6_infoTold_0 rfl rfl rfl ?_
  refine mb_sw1 8 hr (fun hr => ?_) (fun q8 hr => ?_)
  · refine mb_swIn (tgt := 40) (off := 39) dX6_infoTold_1 (by decide) (by decide) (by decide) (by decide) ?_
    refine mb_aload_n (pn := 41) 0 dX6_infoTold_40 rfl rfl rfl ?_
    refine cl_X6_173 (pn := 44) hst hg (Nat.le_of_ble_eq_true rfl) (Nat.le_of_ble_eq_true rfl) dX6_infoTold_41 rfl hr (fun y102 h101 hr => ?_)
    cases hr
    exact mb_iret dX6_infoTold_44
  refine mb_sw1 9 hr (fun hr => ?_) (fun q9 hr => ?_)
  · refine mb_swIn (tgt := 45) (off := 44) dX6_infoTold_1 (by decide) (by decide) (by decide) (by decide) ?_
    refine mb_aload_n (pn := 46) 0 dX6_infoTold_45 rfl rfl rfl ?_
    refine mb_iconst (v := 2) (pn := 47) dX6_infoTold_46 (by decide) rfl ?_
    refine cl_X6_170 (pn := 50) hst hg (Nat.le_of_ble_eq_true rfl) (Nat.le_of_ble_eq_true rfl) dX6_infoTold_47 rfl hr (fun y104 h103 hr => ?_)
    cases hr
    exact mb_iret dX6_infoTold_50
  refine mb_sw1 10 hr (fun hr => ?_) (fun q10 hr => ?_)
  · refine mb_swIn (tgt := 51) (off := 50) dX6_infoTold_1 (by decide) (by decide) (by decide) (by decide) ?_
    refine mb_aload_n (pn := 52) 0 dX6_infoTold_51 rfl rfl rfl ?_
    refine mb_iconst (v := 3) (pn := 53) dX6_infoTold_52 (by decide) rfl ?_
    refine cl_X6_170 (pn := 56) hst hg (Nat.le_of_ble_eq_true rfl) (Nat.le_of_ble_eq_true rfl) dX6_infoTold_53 rfl hr (fun y106 h105 hr => ?_)
    cases hr
    exact mb_iret dX6_infoTold_56
  refine mb_sw1 11 hr (fun hr => ?_) (fun q11 hr => ?_)
  · refine mb_swIn (tgt := 57) (off := 56) dX6_infoTold_1 (by decide) (by decide) (by decide) (by decide) ?_
    refine mb_aload_n (pn := 58) 0 dX6_infoTold_57 rfl rfl rfl ?_
    refine cl_X6_176 (pn := 61) hst hg (Nat.le_of_ble_eq_true rfl) (Nat.le_of_ble_eq_true rfl) dX6_infoTold_58 rfl hr (fun y108 h107 hr => ?_)
    cases hr
    exact mb_iret dX6_infoTold_61
  refine mb_sw1 12 hr (fun hr => ?_) (fun q12 hr => ?_)
  · refine mb_swIn (tgt := 62) (off := 61) dX6_infoTold_1 (by decide) (by decide) (by decide) (by decide) ?_
    refine mb_aload_n (pn := 63) 0 dX6_infoTold_62 rfl rfl rfl ?_
    refine cl_X6_57 (pn := 66) hst hg (Nat.le_of_ble_eq_true rfl) (Nat.le_of_ble_eq_true rfl) dX6_infoTold_63 rfl hr (fun y110 h109 hr => ?_)
    cases hr
    exact mb_iret dX6_infoTold_66
  refine mb_sw1 13 hr (fun hr => ?_) (fun q13 hr => ?_)
  · refine mb_swIn (tgt := 67) (off := 66) dX6_infoTold_1 (by decide) (by decide) (by decide) (by decide) ?_
    refine mb_aload_n (pn := 68) 0 dX6_infoTold_67 rfl rfl rfl ?_
    refine gf_X6_7 (pn := 71) dX6_infoTold_68 rfl ?_
    refine mb_bipush (v := 8) (pn := 73) dX6_infoTold_71 (by decide) rfl ?_
    refine mb_iald (pn := 74) (n := 270) rfl dX6_infoTold_73 rfl hr (fun hr => ?_)
    cases hr
    exact mb_iret dX6_infoTold_74
  refine mb_swOut (tgt := 75) dX6_infoTold_1 (mb_out8_13 q8 q9 q10 q11 q12 q13) (by decide) ?_
  refine mb_aload_n (pn := 76) 0 dX6_infoTold_75 rfl rfl rfl ?_
  refine gf_X6_7 (pn := 79) dX6_infoTold_76 rfl ?_
  refine mb_iload_n (pn := 80) 1 dX6_infoTold_79 rfl rfl rfl ?_
  refine mb_iald (pn := 81) (n := 270) rfl dX6_infoTold_80 rfl hr (fun hr => ?_)
  cases hr
  exact mb_iret dX6_infoTold_81
set_option maxRecDepth 100000 in
set_option maxHeartbeats 4000000 in
theorem cl_X6_179 {l : Launch} {G : mb_G} {cc : ByteArray} {nL : Nat} {ret : Option FieldType} {d pc pn : Nat} {lv : List (Nat × mb_AV)} {st : List mb_AV} {h : mb_AH} {res : mb_RS} (hst : l.stackTraces = false) (hg : mb_gok G) {x1 : Int32} {K : Int32 → mb_AH → Option mb_RS} (hd2 : 3 + 1 ≤ d) (hs4 : st.length ≤ 4) (dg : decode cc pc = .ok (.invokevirtual 179, 3)) (hn : pc + 3 = pn) (hr : mb_cI (F_X6_infoTold x1 h) K = some res) (kk : ∀ (x : Int32) (h2 : mb_AH), K x h2 = some res → mb_Ev l G RX6 cc nL ret d pn lv (.inl x :: st) h2 res) : mb_Ev l G RX6 cc nL ret d pc lv (.inl x1 :: mb_F 6 0 0 :: st) h res := mb_kVI (as := [.inl x1]) (n := 1) (d2 := 3) (ci := 6) (fun _ hf => C_X6_infoTold hst hg hf) (mb_gV wl_X6_179 mi_X6_infoTold ms_X6_infoTold mn_X6 mc_X6_infoTold) (by decide +kernel) rfl rfl rfl hd2 (by decide) hs4 rfl dg hn hr kk
def B_X6_info_16  (v1 : Int32) (s0 : Int32) (h : mb_AH) : Option mb_RS := (mb_cI (F_X6_refused s0 h) fun y104 h103 => (if y104 = 0 then (mb_cI (F_X6_infoTold v1 h103) fun y106 h105 => (some (.inl (some (.inl y106)), h105))) else (some (.inl (some (.inl 0)), h103))))
set_option maxRecDepth 100000 in
set_option maxHeartbeats 4000000 in
theorem T_X6_info_16 {l : Launch} {G : mb_G} {res : mb_RS} (hst : l.stackTraces = false) (hg : mb_gok G)   {v1 : Int32} {s0 : Int32} {h : mb_AH} (hr : B_X6_info_16  v1 s0 h = some res) : mb_Ev l G RX6 cX6_info 2 (some .int) 4 16 [(0, mb_F 6 0 0), (1, .inl v1)] [.inl s0, mb_F 6 0 0] h res := by
  unfold B_X6_info_16 at hr
  refine cl_X6_42 (pn := 19) hst hg (Nat.le_of_ble_eq_true rfl) (Nat.le_of_ble_eq_true rfl) dX6_info_16 rfl hr (fun y104 h103 hr => ?_)
  refine mb_if_eq (tgt := 26) (pn := 22) dX6_info_19 (by decide) rfl hr (fun hr => ?_) (fun hr => ?_)
  · refine mb_aload_n (pn := 27) 0 dX6_info_26 rfl rfl rfl ?_
    refine mb_iload_n (pn := 28) 1 dX6_info_27 rfl rfl rfl ?_
    refine cl_X6_179 (pn := 31) hst hg (Nat.le_of_ble_eq_true rfl) (Nat.le_of_ble_eq_true rfl) dX6_info_28 rfl hr (fun y106 h105 hr => ?_)
    cases hr
    exact mb_iret dX6_info_31
  · refine mb_iconst (v := 0) (pn := 23) dX6_info_22 (by decide) rfl ?_
    refine mb_goto (tgt := 31) dX6_info_23 (by decide) ?_
    cases hr
    exact mb_iret dX6_info_31
def F_X6_info (x1 : Int32) (h : mb_AH) : Option mb_RS := (mb_cI (F_X6_within x1 (0 : Int32) (13 : Int32) h) fun y102 h101 => (if y102 = 0 then (B_X6_info_16  x1 1 h101) else (B_X6_info_16  x1 0 h101)))
set_option maxRecDepth 100000 in
set_option maxHeartbeats 4000000 in
theorem C_X6_info {l : Launch} {G : mb_G} (hst : l.stackTraces = false) (hg : mb_gok G) {x1 : Int32} {h : mb_AH} {res : mb_RS} (hr : F_X6_info x1 h = some res) : mb_Mt l G yX6_info cX6_info 2 (some .int) 4 [mb_F 6 0 0, .inl x1] h res := by
  refine mb_entry (own := RX6) (lv := [(0, mb_F 6 0 0), (1, .inl x1)]) (by decide +kernel) rfl (Nat.le_of_ble_eq_true rfl) rfl rfl (fun _ => ?_) hst hg
  unfold F_X6_info at hr
  refine mb_aload_n (pn := 1) 0 dX6_info_0 rfl rfl rfl ?_
  refine mb_iload_n (pn := 2) 1 dX6_info_1 rfl rfl rfl ?_
  refine mb_iconst (v := 0) (pn := 3) dX6_info_2 (by decide) rfl ?_
  refine mb_bipush (v := 13) (pn := 5) dX6_info_3 (by decide) rfl ?_
  refine cl_X6_46 (pn := 8) hst hg (Nat.le_of_ble_eq_true rfl) (Nat.le_of_ble_eq_true rfl) dX6_info_5 rfl hr (fun y102 h101 hr => ?_)
  refine mb_if_eq (tgt := 15) (pn := 11) dX6_info_8 (by decide) rfl hr (fun hr => ?_) (fun hr => ?_)
  · refine mb_iconst (v := 1) (pn := 16) dX6_info_15 (by decide) rfl ?_
    exact mb_lvs [0, 1] rfl (T_X6_info_16 hst hg  hr)
  · refine mb_iconst (v := 0) (pn := 12) dX6_info_11 (by decide) rfl ?_
    refine mb_goto (tgt := 16) dX6_info_12 (by decide) ?_
    exact mb_lvs [0, 1] rfl (T_X6_info_16 hst hg  hr)
set_option maxRecDepth 100000 in
set_option maxHeartbeats 4000000 in
theorem cl_X6_182 {l : Launch} {G : mb_G} {cc : ByteArray} {nL : Nat} {ret : Option FieldType} {d pc pn : Nat} {lv : List (Nat × mb_AV)} {st : List mb_AV} {h : mb_AH} {res : mb_RS} (hst : l.stackTraces = false) (hg : mb_gok G) {x1 : Int32} {K : Int32 → mb_AH → Option mb_RS} (hd2 : 2 + 1 ≤ d) (hs4 : st.length ≤ 4) (dg : decode cc pc = .ok (.invokevirtual 182, 3)) (hn : pc + 3 = pn) (hr : mb_cI (F_X6_isOpen x1 h) K = some res) (kk : ∀ (x : Int32) (h2 : mb_AH), K x h2 = some res → mb_Ev l G RX6 cc nL ret d pn lv (.inl x :: st) h2 res) : mb_Ev l G RX6 cc nL ret d pc lv (.inl x1 :: mb_F 6 0 0 :: st) h res := mb_kVI (as := [.inl x1]) (n := 1) (d2 := 2) (ci := 6) (fun _ hf => C_X6_isOpen hst hg hf) (mb_gV wl_X6_182 mi_X6_isOpen ms_X6_isOpen mn_X6 mc_X6_isOpen) (by decide +kernel) rfl rfl rfl hd2 (by decide) hs4 rfl dg hn hr kk
def B_X6_place_36  (v1 : Int32) (v2 : Int32) (s0 : Int32) (h : mb_AH) : Option mb_RS := (mb_cI (F_X6_refused s0 h) fun y106 h105 => (if y106 = 0 then (mb_cI (F_X6_ofBoat v1 (4 : Int32) h105) fun y108 h107 => (mb_cV (F_X6_saves h107) fun h109 => (mb_cV (F_X6_puts v1 (1 : Int32) v2 h109) fun h110 => (mb_cV (F_X6_sets v1 (7 : Int32) ((-1) : Int32) h110) fun h111 => (some (.inl (some (.inl y108)), h111)))))) else (some (.inl (some (.inl 0)), h105))))
set_option maxRecDepth 100000 in
set_option maxHeartbeats 4000000 in
theorem T_X6_place_36 {l : Launch} {G : mb_G} {res : mb_RS} (hst : l.stackTraces = false) (hg : mb_gok G)   {v1 : Int32} {v2 : Int32} {s0 : Int32} {h : mb_AH} (hr : B_X6_place_36  v1 v2 s0 h = some res) : mb_Ev l G RX6 cX6_place 4 (some .int) 3 36 [(0, mb_F 6 0 0), (1, .inl v1), (2, .inl v2)] [.inl s0, mb_F 6 0 0] h res := by
  unfold B_X6_place_36 at hr
  refine cl_X6_42 (pn := 39) hst hg (Nat.le_of_ble_eq_true rfl) (Nat.le_of_ble_eq_true rfl) dX6_place_36 rfl hr (fun y106 h105 hr => ?_)
  refine mb_if_eq (tgt := 44) (pn := 42) dX6_place_39 (by decide) rfl hr (fun hr => ?_) (fun hr => ?_)
  · refine mb_aload_n (pn := 45) 0 dX6_place_44 rfl rfl rfl ?_
    refine mb_iload_n (pn := 46) 1 dX6_place_45 rfl rfl rfl ?_
    refine mb_iconst (v := 4) (pn := 47) dX6_place_46 (by decide) rfl ?_
    refine cl_X6_50 (pn := 50) hst hg (Nat.le_of_ble_eq_true rfl) (Nat.le_of_ble_eq_true rfl) dX6_place_47 rfl hr (fun y108 h107 hr => ?_)
    refine mb_istore_n (pn := 51) (lv2 := [(3, .inl y108), (0, mb_F 6 0 0), (1, .inl v1), (2, .inl v2)]) dX6_place_50 rfl (by decide) rfl rfl ?_
    refine mb_aload_n (pn := 52) 1 dX6_place_51 rfl rfl rfl ?_
    refine cl_X6_142 (pn := 55) hst hg (Nat.le_of_ble_eq_true rfl) (Nat.le_of_ble_eq_true rfl) dX6_place_52 rfl hr (fun h109 hr => ?_)
    refine mb_aload_n (pn := 56) 1 dX6_place_55 rfl rfl rfl ?_
    refine mb_iload_n (pn := 57) 2 dX6_place_56 rfl rfl rfl ?_
    refine mb_iconst (v := 1) (pn := 58) dX6_place_57 (by decide) rfl ?_
    refine mb_iload_n (pn := 59) 3 dX6_place_58 rfl rfl rfl ?_
    refine cl_X6_79 (pn := 62) hst hg (Nat.le_of_ble_eq_true rfl) (Nat.le_of_ble_eq_true rfl) dX6_place_59 rfl hr (fun h110 hr => ?_)
    refine mb_aload_n (pn := 63) 1 dX6_place_62 rfl rfl rfl ?_
    refine mb_iload_n (pn := 64) 2 dX6_place_63 rfl rfl rfl ?_
    refine mb_bipush (v := 7) (pn := 66) dX6_place_64 (by decide) rfl ?_
    refine mb_iconst (v := (-1)) (pn := 67) dX6_place_66 (by decide) rfl ?_
    refine cl_X6_75 (pn := 70) hst hg (Nat.le_of_ble_eq_true rfl) (Nat.le_of_ble_eq_true rfl) dX6_place_67 rfl hr (fun h111 hr => ?_)
    refine mb_iload_n (pn := 71) 0 dX6_place_70 rfl rfl rfl ?_
    cases hr
    exact mb_iret dX6_place_71
  · refine mb_iconst (v := 0) (pn := 43) dX6_place_42 (by decide) rfl ?_
    cases hr
    exact mb_iret dX6_place_43
def B_X6_place_31  (v1 : Int32) (v2 : Int32) (h : mb_AH) : Option mb_RS := (B_X6_place_36  v1 v2 2 h)
set_option maxRecDepth 100000 in
set_option maxHeartbeats 4000000 in
theorem T_X6_place_31 {l : Launch} {G : mb_G} {res : mb_RS} (hst : l.stackTraces = false) (hg : mb_gok G)   {v1 : Int32} {v2 : Int32} {h : mb_AH} (hr : B_X6_place_31  v1 v2 h = some res) : mb_Ev l G RX6 cX6_place 4 (some .int) 3 31 [(0, mb_F 6 0 0), (1, .inl v1), (2, .inl v2)] [mb_F 6 0 0] h res := by
  unfold B_X6_place_31 at hr
  refine mb_iconst (v := 2) (pn := 32) dX6_place_31 (by decide) rfl ?_
  refine mb_goto (tgt := 36) dX6_place_32 (by decide) ?_
  exact mb_lvs [0, 1, 2] rfl (T_X6_place_36 hst hg  hr)
def F_X6_place (x1 : Int32) (x2 : Int32) (h : mb_AH) : Option mb_RS := (mb_cI (F_X6_areBoth x1 x2 h) fun y102 h101 => (if y102 = 0 then (B_X6_place_36  x1 x2 1 h101) else (mb_cI (F_X6_isOpen x2 h101) fun y104 h103 => (if y104 = 0 then (B_X6_place_31  x1 x2 h103) else (mb_cI (F_X6_isFit x1 x2 h103) fun y113 h112 => (if y113 = 0 then (B_X6_place_31  x1 x2 h112) else (B_X6_place_36  x1 x2 0 h112)))))))
set_option maxRecDepth 100000 in
set_option maxHeartbeats 4000000 in
theorem C_X6_place {l : Launch} {G : mb_G} (hst : l.stackTraces = false) (hg : mb_gok G) {x1 : Int32} {x2 : Int32} {h : mb_AH} {res : mb_RS} (hr : F_X6_place x1 x2 h = some res) : mb_Mt l G yX6_place cX6_place 4 (some .int) 3 [mb_F 6 0 0, .inl x1, .inl x2] h res := by
  refine mb_entry (own := RX6) (lv := [(0, mb_F 6 0 0), (1, .inl x1), (2, .inl x2)]) (by decide +kernel) rfl (Nat.le_of_ble_eq_true rfl) rfl rfl (fun _ => ?_) hst hg
  unfold F_X6_place at hr
  refine mb_aload_n (pn := 1) 0 dX6_place_0 rfl rfl rfl ?_
  refine mb_aload_n (pn := 2) 0 dX6_place_1 rfl rfl rfl ?_
  refine mb_iload_n (pn := 3) 1 dX6_place_2 rfl rfl rfl ?_
  refine mb_iload_n (pn := 4) 2 dX6_place_3 rfl rfl rfl ?_
  refine cl_X6_167 (pn := 7) hst hg (Nat.le_of_ble_eq_true rfl) (Nat.le_of_ble_eq_true rfl) dX6_place_4 rfl hr (fun y102 h101 hr => ?_)
  refine mb_if_ne (tgt := 14) (pn := 10) dX6_place_7 (by decide) rfl hr (fun hr => ?_) (fun hr => ?_)
  · refine mb_aload_n (pn := 15) 0 dX6_place_14 rfl rfl rfl ?_
    refine mb_iload_n (pn := 16) 2 dX6_place_15 rfl rfl rfl ?_
    refine cl_X6_182 (pn := 19) hst hg (Nat.le_of_ble_eq_true rfl) (Nat.le_of_ble_eq_true rfl) dX6_place_16 rfl hr (fun y104 h103 hr => ?_)
    refine mb_if_eq (tgt := 31) (pn := 22) dX6_place_19 (by decide) rfl hr (fun hr => ?_) (fun hr => ?_)
    · exact mb_lvs [0, 1, 2] rfl (T_X6_place_31 hst hg  hr)
    · refine mb_aload_n (pn := 23) 0 dX6_place_22 rfl rfl rfl ?_
      refine mb_iload_n (pn := 24) 1 dX6_place_23 rfl rfl rfl ?_
      refine mb_iload_n (pn := 25) 2 dX6_place_24 rfl rfl rfl ?_
      refine cl_X6_96 (pn := 28) hst hg (Nat.le_of_ble_eq_true rfl) (Nat.le_of_ble_eq_true rfl) dX6_place_25 rfl hr (fun y113 h112 hr => ?_)
      refine mb_if_ne (tgt := 35) (pn := 31) dX6_place_28 (by decide) rfl hr (fun hr => ?_) (fun hr => ?_)
      · refine mb_iconst (v := 0) (pn := 36) dX6_place_35 (by decide) rfl ?_
        exact mb_lvs [0, 1, 2] rfl (T_X6_place_36 hst hg  hr)
      · exact mb_lvs [0, 1, 2] rfl (T_X6_place_31 hst hg  hr)
  · refine mb_iconst (v := 1) (pn := 11) dX6_place_10 (by decide) rfl ?_
    refine mb_goto (tgt := 36) dX6_place_11 (by decide) ?_
    exact mb_lvs [0, 1, 2] rfl (T_X6_place_36 hst hg  hr)
def B_X6_leave_37  (v1 : Int32) (s0 : Int32) (h : mb_AH) : Option mb_RS := (mb_cI (F_X6_refused s0 h) fun y106 h105 => (if y106 = 0 then (mb_cI (F_X6_ofBoat v1 (3 : Int32) h105) fun y108 h107 => (mb_cV (F_X6_saves h107) fun h109 => (mb_cV (F_X6_puts v1 (0 : Int32) ((-1) : Int32) h109) fun h110 => (mb_cV (F_X6_sets v1 (7 : Int32) ((-1) : Int32) h110) fun h111 => (some (.inl (some (.inl y108)), h111)))))) else (some (.inl (some (.inl 0)), h105))))
set_option maxRecDepth 100000 in
set_option maxHeartbeats 4000000 in
theorem T_X6_leave_37 {l : Launch} {G : mb_G} {res : mb_RS} (hst : l.stackTraces = false) (hg : mb_gok G)   {v1 : Int32} {s0 : Int32} {h : mb_AH} (hr : B_X6_leave_37  v1 s0 h = some res) : mb_Ev l G RX6 cX6_leave 3 (some .int) 2 37 [(0, mb_F 6 0 0), (1, .inl v1)] [.inl s0, mb_F 6 0 0] h res := by
  unfold B_X6_leave_37 at hr
  refine cl_X6_42 (pn := 40) hst hg (Nat.le_of_ble_eq_true rfl) (Nat.le_of_ble_eq_true rfl) dX6_leave_37 rfl hr (fun y106 h105 hr => ?_)
  refine mb_if_eq (tgt := 45) (pn := 43) dX6_leave_40 (by decide) rfl hr (fun hr => ?_) (fun hr => ?_)
  · refine mb_aload_n (pn := 46) 0 dX6_leave_45 rfl rfl rfl ?_
    refine mb_iload_n (pn := 47) 1 dX6_leave_46 rfl rfl rfl ?_
    refine mb_iconst (v := 3) (pn := 48) dX6_leave_47 (by decide) rfl ?_
    refine cl_X6_50 (pn := 51) hst hg (Nat.le_of_ble_eq_true rfl) (Nat.le_of_ble_eq_true rfl) dX6_leave_48 rfl hr (fun y108 h107 hr => ?_)
    refine mb_istore_n (pn := 52) (lv2 := [(2, .inl y108), (0, mb_F 6 0 0), (1, .inl v1)]) dX6_leave_51 rfl (by decide) rfl rfl ?_
    refine mb_aload_n (pn := 53) 1 dX6_leave_52 rfl rfl rfl ?_
    refine cl_X6_142 (pn := 56) hst hg (Nat.le_of_ble_eq_true rfl) (Nat.le_of_ble_eq_true rfl) dX6_leave_53 rfl hr (fun h109 hr => ?_)
    refine mb_aload_n (pn := 57) 1 dX6_leave_56 rfl rfl rfl ?_
    refine mb_iload_n (pn := 58) 2 dX6_leave_57 rfl rfl rfl ?_
    refine mb_iconst (v := 0) (pn := 59) dX6_leave_58 (by decide) rfl ?_
    refine mb_iconst (v := (-1)) (pn := 60) dX6_leave_59 (by decide) rfl ?_
    refine cl_X6_79 (pn := 63) hst hg (Nat.le_of_ble_eq_true rfl) (Nat.le_of_ble_eq_true rfl) dX6_leave_60 rfl hr (fun h110 hr => ?_)
    refine mb_aload_n (pn := 64) 1 dX6_leave_63 rfl rfl rfl ?_
    refine mb_iload_n (pn := 65) 2 dX6_leave_64 rfl rfl rfl ?_
    refine mb_bipush (v := 7) (pn := 67) dX6_leave_65 (by decide) rfl ?_
    refine mb_iconst (v := (-1)) (pn := 68) dX6_leave_67 (by decide) rfl ?_
    refine cl_X6_75 (pn := 71) hst hg (Nat.le_of_ble_eq_true rfl) (Nat.le_of_ble_eq_true rfl) dX6_leave_68 rfl hr (fun h111 hr => ?_)
    refine mb_iload_n (pn := 72) 0 dX6_leave_71 rfl rfl rfl ?_
    cases hr
    exact mb_iret dX6_leave_72
  · refine mb_iconst (v := 0) (pn := 44) dX6_leave_43 (by decide) rfl ?_
    cases hr
    exact mb_iret dX6_leave_44
def B_X6_leave_32  (v1 : Int32) (h : mb_AH) : Option mb_RS := (B_X6_leave_37  v1 2 h)
set_option maxRecDepth 100000 in
set_option maxHeartbeats 4000000 in
theorem T_X6_leave_32 {l : Launch} {G : mb_G} {res : mb_RS} (hst : l.stackTraces = false) (hg : mb_gok G)   {v1 : Int32} {h : mb_AH} (hr : B_X6_leave_32  v1 h = some res) : mb_Ev l G RX6 cX6_leave 3 (some .int) 2 32 [(0, mb_F 6 0 0), (1, .inl v1)] [mb_F 6 0 0] h res := by
  unfold B_X6_leave_32 at hr
  refine mb_iconst (v := 2) (pn := 33) dX6_leave_32 (by decide) rfl ?_
  refine mb_goto (tgt := 37) dX6_leave_33 (by decide) ?_
  exact mb_lvs [0, 1] rfl (T_X6_leave_37 hst hg  hr)
def F_X6_leave (x1 : Int32) (h : mb_AH) : Option mb_RS := (mb_cI (F_X6_isBoat x1 h) fun y102 h101 => (if y102 = 0 then (B_X6_leave_37  x1 1 h101) else (mb_cI (F_X6_ofBoat x1 (3 : Int32) h101) fun y104 h103 => (if y104 = 0 then (B_X6_leave_32  x1 h103) else (mb_cI (F_X6_ofBoat x1 (8 : Int32) h103) fun y113 h112 => (if y113 ≤ 0 then (B_X6_leave_37  x1 0 h112) else (B_X6_leave_32  x1 h112)))))))
set_option maxRecDepth 100000 in
set_option maxHeartbeats 4000000 in
theorem C_X6_leave {l : Launch} {G : mb_G} (hst : l.stackTraces = false) (hg : mb_gok G) {x1 : Int32} {h : mb_AH} {res : mb_RS} (hr : F_X6_leave x1 h = some res) : mb_Mt l G yX6_leave cX6_leave 3 (some .int) 2 [mb_F 6 0 0, .inl x1] h res := by
  refine mb_entry (own := RX6) (lv := [(0, mb_F 6 0 0), (1, .inl x1)]) (by decide +kernel) rfl (Nat.le_of_ble_eq_true rfl) rfl rfl (fun _ => ?_) hst hg
  unfold F_X6_leave at hr
  refine mb_aload_n (pn := 1) 0 dX6_leave_0 rfl rfl rfl ?_
  refine mb_aload_n (pn := 2) 0 dX6_leave_1 rfl rfl rfl ?_
  refine mb_iload_n (pn := 3) 1 dX6_leave_2 rfl rfl rfl ?_
  refine cl_X6_161 (pn := 6) hst hg (Nat.le_of_ble_eq_true rfl) (Nat.le_of_ble_eq_true rfl) dX6_leave_3 rfl hr (fun y102 h101 hr => ?_)
  refine mb_if_ne (tgt := 13) (pn := 9) dX6_leave_6 (by decide) rfl hr (fun hr => ?_) (fun hr => ?_)
  · refine mb_aload_n (pn := 14) 0 dX6_leave_13 rfl rfl rfl ?_
    refine mb_iload_n (pn := 15) 1 dX6_leave_14 rfl rfl rfl ?_
    refine mb_iconst (v := 3) (pn := 16) dX6_leave_15 (by decide) rfl ?_
    refine cl_X6_50 (pn := 19) hst hg (Nat.le_of_ble_eq_true rfl) (Nat.le_of_ble_eq_true rfl) dX6_leave_16 rfl hr (fun y104 h103 hr => ?_)
    refine mb_if_eq (tgt := 32) (pn := 22) dX6_leave_19 (by decide) rfl hr (fun hr => ?_) (fun hr => ?_)
    · exact mb_lvs [0, 1] rfl (T_X6_leave_32 hst hg  hr)
    · refine mb_aload_n (pn := 23) 0 dX6_leave_22 rfl rfl rfl ?_
      refine mb_iload_n (pn := 24) 1 dX6_leave_23 rfl rfl rfl ?_
      refine mb_bipush (v := 8) (pn := 26) dX6_leave_24 (by decide) rfl ?_
      refine cl_X6_50 (pn := 29) hst hg (Nat.le_of_ble_eq_true rfl) (Nat.le_of_ble_eq_true rfl) dX6_leave_26 rfl hr (fun y113 h112 hr => ?_)
      refine mb_if_le (tgt := 36) (pn := 32) dX6_leave_29 (by decide) rfl hr (fun hr => ?_) (fun hr => ?_)
      · refine mb_iconst (v := 0) (pn := 37) dX6_leave_36 (by decide) rfl ?_
        exact mb_lvs [0, 1] rfl (T_X6_leave_37 hst hg  hr)
      · exact mb_lvs [0, 1] rfl (T_X6_leave_32 hst hg  hr)
  · refine mb_iconst (v := 1) (pn := 10) dX6_leave_9 (by decide) rfl ?_
    refine mb_goto (tgt := 37) dX6_leave_10 (by decide) ?_
    exact mb_lvs [0, 1] rfl (T_X6_leave_37 hst hg  hr)
def B_X6_canChange_25  (v1 : Int32) (v2 : Int32) (s0 : Int32) (h : mb_AH) : Option mb_RS := (if s0 = 0 then (some (.inl (some (.inl 0)), h)) else (mb_cI (F_X6_ofBoat v2 (4 : Int32) h) fun y104 h103 => (mb_cI (F_X6_isFit v1 y104 h103) fun y106 h105 => (if y106 = 0 then (some (.inl (some (.inl 0)), h105)) else (mb_cI (F_X6_ofBoat v1 (4 : Int32) h105) fun y108 h107 => (mb_cI (F_X6_isFit v2 y108 h107) fun y110 h109 => (if y110 = 0 then (some (.inl (some (.inl 0)), h109)) else (some (.inl (some (.inl 1)), h109)))))))))
set_option maxRecDepth 100000 in
set_option maxHeartbeats 4000000 in
theorem T_X6_canChange_25 {l : Launch} {G : mb_G} {res : mb_RS} (hst : l.stackTraces = false) (hg : mb_gok G)   {v1 : Int32} {v2 : Int32} {s0 : Int32} {h : mb_AH} (hr : B_X6_canChange_25  v1 v2 s0 h = some res) : mb_Ev l G RX6 cX6_canChange 4 (some .boolean) 3 25 [(0, mb_F 6 0 0), (1, .inl v1), (2, .inl v2)] [.inl s0] h res := by
  unfold B_X6_canChange_25 at hr
  refine mb_istore_n (pn := 26) (lv2 := [(3, .inl s0), (0, mb_F 6 0 0), (1, .inl v1), (2, .inl v2)]) dX6_canChange_25 rfl (by decide) rfl rfl ?_
  refine mb_iload_n (pn := 27) 0 dX6_canChange_26 rfl rfl rfl ?_
  refine mb_if_eq (tgt := 62) (pn := 30) dX6_canChange_27 (by decide) rfl hr (fun hr => ?_) (fun hr => ?_)
  · refine mb_iconst (v := 0) (pn := 63) dX6_canChange_62 (by decide) rfl ?_
    cases hr
    exact mb_zret0 dX6_canChange_63
  · refine mb_aload_n (pn := 31) 1 dX6_canChange_30 rfl rfl rfl ?_
    refine mb_iload_n (pn := 32) 2 dX6_canChange_31 rfl rfl rfl ?_
    refine mb_aload_n (pn := 33) 1 dX6_canChange_32 rfl rfl rfl ?_
    refine mb_iload_n (pn := 34) 3 dX6_canChange_33 rfl rfl rfl ?_
    refine mb_iconst (v := 4) (pn := 35) dX6_canChange_34 (by decide) rfl ?_
    refine cl_X6_50 (pn := 38) hst hg (Nat.le_of_ble_eq_true rfl) (Nat.le_of_ble_eq_true rfl) dX6_canChange_35 rfl hr (fun y104 h103 hr => ?_)
    refine cl_X6_96 (pn := 41) hst hg (Nat.le_of_ble_eq_true rfl) (Nat.le_of_ble_eq_true rfl) dX6_canChange_38 rfl hr (fun y106 h105 hr => ?_)
    refine mb_if_eq (tgt := 62) (pn := 44) dX6_canChange_41 (by decide) rfl hr (fun hr => ?_) (fun hr => ?_)
    · refine mb_iconst (v := 0) (pn := 63) dX6_canChange_62 (by decide) rfl ?_
      cases hr
      exact mb_zret0 dX6_canChange_63
    · refine mb_aload_n (pn := 45) 1 dX6_canChange_44 rfl rfl rfl ?_
      refine mb_iload_n (pn := 46) 3 dX6_canChange_45 rfl rfl rfl ?_
      refine mb_aload_n (pn := 47) 1 dX6_canChange_46 rfl rfl rfl ?_
      refine mb_iload_n (pn := 48) 2 dX6_canChange_47 rfl rfl rfl ?_
      refine mb_iconst (v := 4) (pn := 49) dX6_canChange_48 (by decide) rfl ?_
      refine cl_X6_50 (pn := 52) hst hg (Nat.le_of_ble_eq_true rfl) (Nat.le_of_ble_eq_true rfl) dX6_canChange_49 rfl hr (fun y108 h107 hr => ?_)
      refine cl_X6_96 (pn := 55) hst hg (Nat.le_of_ble_eq_true rfl) (Nat.le_of_ble_eq_true rfl) dX6_canChange_52 rfl hr (fun y110 h109 hr => ?_)
      refine mb_if_eq (tgt := 62) (pn := 58) dX6_canChange_55 (by decide) rfl hr (fun hr => ?_) (fun hr => ?_)
      · refine mb_iconst (v := 0) (pn := 63) dX6_canChange_62 (by decide) rfl ?_
        cases hr
        exact mb_zret0 dX6_canChange_63
      · refine mb_iconst (v := 1) (pn := 59) dX6_canChange_58 (by decide) rfl ?_
        refine mb_goto (tgt := 63) dX6_canChange_59 (by decide) ?_
        cases hr
        exact mb_zret1 dX6_canChange_63
def B_X6_canChange_24  (v1 : Int32) (v2 : Int32) (h : mb_AH) : Option mb_RS := (B_X6_canChange_25  v1 v2 0 h)
set_option maxRecDepth 100000 in
set_option maxHeartbeats 4000000 in
theorem T_X6_canChange_24 {l : Launch} {G : mb_G} {res : mb_RS} (hst : l.stackTraces = false) (hg : mb_gok G)   {v1 : Int32} {v2 : Int32} {h : mb_AH} (hr : B_X6_canChange_24  v1 v2 h = some res) : mb_Ev l G RX6 cX6_canChange 4 (some .boolean) 3 24 [(0, mb_F 6 0 0), (1, .inl v1), (2, .inl v2)] [] h res := by
  unfold B_X6_canChange_24 at hr
  refine mb_iconst (v := 0) (pn := 25) dX6_canChange_24 (by decide) rfl ?_
  exact mb_lvs [0, 1, 2] rfl (T_X6_canChange_25 hst hg  hr)
def F_X6_canChange (x1 : Int32) (x2 : Int32) (h : mb_AH) : Option mb_RS := (mb_cI (F_X6_ofBoat x1 (3 : Int32) h) fun y102 h101 => (if y102 = 1 then (mb_cI (F_X6_ofBoat x2 (3 : Int32) h101) fun y112 h111 => (if y112 = 1 then (B_X6_canChange_25  x1 x2 1 h111) else (B_X6_canChange_24  x1 x2 h111))) else (B_X6_canChange_24  x1 x2 h101)))
set_option maxRecDepth 100000 in
set_option maxHeartbeats 4000000 in
theorem C_X6_canChange {l : Launch} {G : mb_G} (hst : l.stackTraces = false) (hg : mb_gok G) {x1 : Int32} {x2 : Int32} {h : mb_AH} {res : mb_RS} (hr : F_X6_canChange x1 x2 h = some res) : mb_Mt l G yX6_canChange cX6_canChange 4 (some .boolean) 3 [mb_F 6 0 0, .inl x1, .inl x2] h res := by
  refine mb_entry (own := RX6) (lv := [(0, mb_F 6 0 0), (1, .inl x1), (2, .inl x2)]) (by decide +kernel) rfl (Nat.le_of_ble_eq_true rfl) rfl rfl (fun _ => ?_) hst hg
  unfold F_X6_canChange at hr
  refine mb_aload_n (pn := 1) 0 dX6_canChange_0 rfl rfl rfl ?_
  refine mb_iload_n (pn := 2) 1 dX6_canChange_1 rfl rfl rfl ?_
  refine mb_iconst (v := 3) (pn := 3) dX6_canChange_2 (by decide) rfl ?_
  refine cl_X6_50 (pn := 6) hst hg (Nat.le_of_ble_eq_true rfl) (Nat.le_of_ble_eq_true rfl) dX6_canChange_3 rfl hr (fun y102 h101 hr => ?_)
  refine mb_iconst (v := 1) (pn := 7) dX6_canChange_6 (by decide) rfl ?_
  refine mb_ic_ne (tgt := 24) (pn := 10) dX6_canChange_7 (by decide) rfl hr (fun hr => ?_) (fun hr => ?_)
  · exact mb_lvs [0, 1, 2] rfl (T_X6_canChange_24 hst hg  hr)
  · refine mb_aload_n (pn := 11) 0 dX6_canChange_10 rfl rfl rfl ?_
    refine mb_iload_n (pn := 12) 2 dX6_canChange_11 rfl rfl rfl ?_
    refine mb_iconst (v := 3) (pn := 13) dX6_canChange_12 (by decide) rfl ?_
    refine cl_X6_50 (pn := 16) hst hg (Nat.le_of_ble_eq_true rfl) (Nat.le_of_ble_eq_true rfl) dX6_canChange_13 rfl hr (fun y112 h111 hr => ?_)
    refine mb_iconst (v := 1) (pn := 17) dX6_canChange_16 (by decide) rfl ?_
    refine mb_ic_ne (tgt := 24) (pn := 20) dX6_canChange_17 (by decide) rfl hr (fun hr => ?_) (fun hr => ?_)
    · exact mb_lvs [0, 1, 2] rfl (T_X6_canChange_24 hst hg  hr)
    · refine mb_iconst (v := 1) (pn := 21) dX6_canChange_20 (by decide) rfl ?_
      refine mb_goto (tgt := 25) dX6_canChange_21 (by decide) ?_
      exact mb_lvs [0, 1, 2] rfl (T_X6_canChange_25 hst hg  hr)
def B_X6_change_44  (v1 : Int32) (v2 : Int32) (s0 : Int32) (h : mb_AH) : Option mb_RS := (mb_cI (F_X6_refused s0 h) fun y104 h103 => (if y104 = 0 then (mb_cI (F_X6_ofBoat v2 (4 : Int32) h103) fun y106 h105 => (mb_cI (F_X6_ofBoat v1 (4 : Int32) h105) fun y108 h107 => (mb_cV (F_X6_saves h107) fun h109 => (mb_cV (F_X6_puts v1 (1 : Int32) y106 h109) fun h110 => (mb_cV (F_X6_puts v2 (1 : Int32) y108 h110) fun h111 => (mb_cV (F_X6_sets v1 (7 : Int32) ((-1) : Int32) h111) fun h112 => (mb_cV (F_X6_sets v2 (7 : Int32) ((-1) : Int32) h112) fun h113 => (some (.inl (some (.inl y106)), h113))))))))) else (some (.inl (some (.inl 0)), h103))))
set_option maxRecDepth 100000 in
set_option maxHeartbeats 4000000 in
theorem T_X6_change_44 {l : Launch} {G : mb_G} {res : mb_RS} (hst : l.stackTraces = false) (hg : mb_gok G)   {v1 : Int32} {v2 : Int32} {s0 : Int32} {h : mb_AH} (hr : B_X6_change_44  v1 v2 s0 h = some res) : mb_Ev l G RX6 cX6_change 5 (some .int) 4 44 [(0, mb_F 6 0 0), (1, .inl v1), (2, .inl v2)] [.inl s0, mb_F 6 0 0] h res := by
  unfold B_X6_change_44 at hr
  refine cl_X6_42 (pn := 47) hst hg (Nat.le_of_ble_eq_true rfl) (Nat.le_of_ble_eq_true rfl) dX6_change_44 rfl hr (fun y104 h103 hr => ?_)
  refine mb_if_eq (tgt := 52) (pn := 50) dX6_change_47 (by decide) rfl hr (fun hr => ?_) (fun hr => ?_)
  · refine mb_aload_n (pn := 53) 0 dX6_change_52 rfl rfl rfl ?_
    refine mb_iload_n (pn := 54) 2 dX6_change_53 rfl rfl rfl ?_
    refine mb_iconst (v := 4) (pn := 55) dX6_change_54 (by decide) rfl ?_
    refine cl_X6_50 (pn := 58) hst hg (Nat.le_of_ble_eq_true rfl) (Nat.le_of_ble_eq_true rfl) dX6_change_55 rfl hr (fun y106 h105 hr => ?_)
    refine mb_istore_n (pn := 59) (lv2 := [(3, .inl y106), (0, mb_F 6 0 0), (1, .inl v1), (2, .inl v2)]) dX6_change_58 rfl (by decide) rfl rfl ?_
    refine mb_aload_n (pn := 60) 1 dX6_change_59 rfl rfl rfl ?_
    refine mb_iload_n (pn := 61) 2 dX6_change_60 rfl rfl rfl ?_
    refine mb_iconst (v := 4) (pn := 62) dX6_change_61 (by decide) rfl ?_
    refine cl_X6_50 (pn := 65) hst hg (Nat.le_of_ble_eq_true rfl) (Nat.le_of_ble_eq_true rfl) dX6_change_62 rfl hr (fun y108 h107 hr => ?_)
    refine mb_istore (pn := 67) (lv2 := [(4, .inl y108), (3, .inl y106), (0, mb_F 6 0 0), (1, .inl v1), (2, .inl v2)]) dX6_change_65 (by decide) rfl rfl ?_
    refine mb_aload_n (pn := 68) 2 dX6_change_67 rfl rfl rfl ?_
    refine cl_X6_142 (pn := 71) hst hg (Nat.le_of_ble_eq_true rfl) (Nat.le_of_ble_eq_true rfl) dX6_change_68 rfl hr (fun h109 hr => ?_)
    refine mb_aload_n (pn := 72) 2 dX6_change_71 rfl rfl rfl ?_
    refine mb_iload_n (pn := 73) 3 dX6_change_72 rfl rfl rfl ?_
    refine mb_iconst (v := 1) (pn := 74) dX6_change_73 (by decide) rfl ?_
    refine mb_iload_n (pn := 75) 1 dX6_change_74 rfl rfl rfl ?_
    refine cl_X6_79 (pn := 78) hst hg (Nat.le_of_ble_eq_true rfl) (Nat.le_of_ble_eq_true rfl) dX6_change_75 rfl hr (fun h110 hr => ?_)
    refine mb_aload_n (pn := 79) 2 dX6_change_78 rfl rfl rfl ?_
    refine mb_iload_n (pn := 80) 4 dX6_change_79 rfl rfl rfl ?_
    refine mb_iconst (v := 1) (pn := 81) dX6_change_80 (by decide) rfl ?_
    refine mb_iload (pn := 83) 0 dX6_change_81 rfl rfl ?_
    refine cl_X6_79 (pn := 86) hst hg (Nat.le_of_ble_eq_true rfl) (Nat.le_of_ble_eq_true rfl) dX6_change_83 rfl hr (fun h111 hr => ?_)
    refine mb_aload_n (pn := 87) 2 dX6_change_86 rfl rfl rfl ?_
    refine mb_iload_n (pn := 88) 3 dX6_change_87 rfl rfl rfl ?_
    refine mb_bipush (v := 7) (pn := 90) dX6_change_88 (by decide) rfl ?_
    refine mb_iconst (v := (-1)) (pn := 91) dX6_change_90 (by decide) rfl ?_
    refine cl_X6_75 (pn := 94) hst hg (Nat.le_of_ble_eq_true rfl) (Nat.le_of_ble_eq_true rfl) dX6_change_91 rfl hr (fun h112 hr => ?_)
    refine mb_aload_n (pn := 95) 2 dX6_change_94 rfl rfl rfl ?_
    refine mb_iload_n (pn := 96) 4 dX6_change_95 rfl rfl rfl ?_
    refine mb_bipush (v := 7) (pn := 98) dX6_change_96 (by decide) rfl ?_
    refine mb_iconst (v := (-1)) (pn := 99) dX6_change_98 (by decide) rfl ?_
    refine cl_X6_75 (pn := 102) hst hg (Nat.le_of_ble_eq_true rfl) (Nat.le_of_ble_eq_true rfl) dX6_change_99 rfl hr (fun h113 hr => ?_)
    refine mb_iload_n (pn := 103) 1 dX6_change_102 rfl rfl rfl ?_
    cases hr
    exact mb_iret dX6_change_103
  · refine mb_iconst (v := 0) (pn := 51) dX6_change_50 (by decide) rfl ?_
    cases hr
    exact mb_iret dX6_change_51
def B_X6_change_17  (v1 : Int32) (v2 : Int32) (h : mb_AH) : Option mb_RS := (B_X6_change_44  v1 v2 1 h)
set_option maxRecDepth 100000 in
set_option maxHeartbeats 4000000 in
theorem T_X6_change_17 {l : Launch} {G : mb_G} {res : mb_RS} (hst : l.stackTraces = false) (hg : mb_gok G)   {v1 : Int32} {v2 : Int32} {h : mb_AH} (hr : B_X6_change_17  v1 v2 h = some res) : mb_Ev l G RX6 cX6_change 5 (some .int) 4 17 [(0, mb_F 6 0 0), (1, .inl v1), (2, .inl v2)] [mb_F 6 0 0] h res := by
  unfold B_X6_change_17 at hr
  refine mb_iconst (v := 1) (pn := 18) dX6_change_17 (by decide) rfl ?_
  refine mb_goto (tgt := 44) dX6_change_18 (by decide) ?_
  exact mb_lvs [0, 1, 2] rfl (T_X6_change_44 hst hg  hr)
set_option maxRecDepth 100000 in
set_option maxHeartbeats 4000000 in
theorem cl_X6_185 {l : Launch} {G : mb_G} {cc : ByteArray} {nL : Nat} {ret : Option FieldType} {d pc pn : Nat} {lv : List (Nat × mb_AV)} {st : List mb_AV} {h : mb_AH} {res : mb_RS} (hst : l.stackTraces = false) (hg : mb_gok G) {x1 : Int32} {x2 : Int32} {K : Int32 → mb_AH → Option mb_RS} (hd2 : 3 + 1 ≤ d) (hs4 : st.length ≤ 4) (dg : decode cc pc = .ok (.invokevirtual 185, 3)) (hn : pc + 3 = pn) (hr : mb_cI (F_X6_canChange x1 x2 h) K = some res) (kk : ∀ (x : Int32) (h2 : mb_AH), K x h2 = some res → mb_Ev l G RX6 cc nL ret d pn lv (.inl x :: st) h2 res) : mb_Ev l G RX6 cc nL ret d pc lv (.inl x2 :: .inl x1 :: mb_F 6 0 0 :: st) h res := mb_kVI (as := [.inl x1, .inl x2]) (n := 2) (d2 := 3) (ci := 6) (fun _ hf => C_X6_canChange hst hg hf) (mb_gV wl_X6_185 mi_X6_canChange ms_X6_canChange mn_X6 mc_X6_canChange) (by decide +kernel) rfl rfl rfl hd2 (by decide) hs4 rfl dg hn hr kk
def F_X6_change (x1 : Int32) (x2 : Int32) (h : mb_AH) : Option mb_RS := (mb_cI (F_X6_isBoat x1 h) fun y102 h101 => (if y102 = 0 then (B_X6_change_17  x1 x2 h101) else (mb_cI (F_X6_isBoat x2 h101) fun y115 h114 => (if y115 = 0 then (B_X6_change_17  x1 x2 h114) else (if x1 = x2 then (B_X6_change_44  x1 x2 2 h114) else (mb_cI (F_X6_canChange x1 x2 h114) fun y117 h116 => (if y117 = 0 then (B_X6_change_44  x1 x2 3 h116) else (B_X6_change_44  x1 x2 0 h116))))))))
set_option maxRecDepth 100000 in
set_option maxHeartbeats 4000000 in
theorem C_X6_change {l : Launch} {G : mb_G} (hst : l.stackTraces = false) (hg : mb_gok G) {x1 : Int32} {x2 : Int32} {h : mb_AH} {res : mb_RS} (hr : F_X6_change x1 x2 h = some res) : mb_Mt l G yX6_change cX6_change 5 (some .int) 4 [mb_F 6 0 0, .inl x1, .inl x2] h res := by
  refine mb_entry (own := RX6) (lv := [(0, mb_F 6 0 0), (1, .inl x1), (2, .inl x2)]) (by decide +kernel) rfl (Nat.le_of_ble_eq_true rfl) rfl rfl (fun _ => ?_) hst hg
  unfold F_X6_change at hr
  refine mb_aload_n (pn := 1) 0 dX6_change_0 rfl rfl rfl ?_
  refine mb_aload_n (pn := 2) 0 dX6_change_1 rfl rfl rfl ?_
  refine mb_iload_n (pn := 3) 1 dX6_change_2 rfl rfl rfl ?_
  refine cl_X6_161 (pn := 6) hst hg (Nat.le_of_ble_eq_true rfl) (Nat.le_of_ble_eq_true rfl) dX6_change_3 rfl hr (fun y102 h101 hr => ?_)
  refine mb_if_eq (tgt := 17) (pn := 9) dX6_change_6 (by decide) rfl hr (fun hr => ?_) (fun hr => ?_)
  · exact mb_lvs [0, 1, 2] rfl (T_X6_change_17 hst hg  hr)
  · refine mb_aload_n (pn := 10) 0 dX6_change_9 rfl rfl rfl ?_
    refine mb_iload_n (pn := 11) 2 dX6_change_10 rfl rfl rfl ?_
    refine cl_X6_161 (pn := 14) hst hg (Nat.le_of_ble_eq_true rfl) (Nat.le_of_ble_eq_true rfl) dX6_change_11 rfl hr (fun y115 h114 hr => ?_)
    refine mb_if_ne (tgt := 21) (pn := 17) dX6_change_14 (by decide) rfl hr (fun hr => ?_) (fun hr => ?_)
    · refine mb_iload_n (pn := 22) 1 dX6_change_21 rfl rfl rfl ?_
      refine mb_iload_n (pn := 23) 2 dX6_change_22 rfl rfl rfl ?_
      refine mb_ic_ne (tgt := 30) (pn := 26) dX6_change_23 (by decide) rfl hr (fun hr => ?_) (fun hr => ?_)
      · refine mb_aload_n (pn := 31) 0 dX6_change_30 rfl rfl rfl ?_
        refine mb_iload_n (pn := 32) 1 dX6_change_31 rfl rfl rfl ?_
        refine mb_iload_n (pn := 33) 2 dX6_change_32 rfl rfl rfl ?_
        refine cl_X6_185 (pn := 36) hst hg (Nat.le_of_ble_eq_true rfl) (Nat.le_of_ble_eq_true rfl) dX6_change_33 rfl hr (fun y117 h116 hr => ?_)
        refine mb_if_ne (tgt := 43) (pn := 39) dX6_change_36 (by decide) rfl hr (fun hr => ?_) (fun hr => ?_)
        · refine mb_iconst (v := 0) (pn := 44) dX6_change_43 (by decide) rfl ?_
          exact mb_lvs [0, 1, 2] rfl (T_X6_change_44 hst hg  hr)
        · refine mb_iconst (v := 3) (pn := 40) dX6_change_39 (by decide) rfl ?_
          refine mb_goto (tgt := 44) dX6_change_40 (by decide) ?_
          exact mb_lvs [0, 1, 2] rfl (T_X6_change_44 hst hg  hr)
      · refine mb_iconst (v := 2) (pn := 27) dX6_change_26 (by decide) rfl ?_
        refine mb_goto (tgt := 44) dX6_change_27 (by decide) ?_
        exact mb_lvs [0, 1, 2] rfl (T_X6_change_44 hst hg  hr)
    · exact mb_lvs [0, 1, 2] rfl (T_X6_change_17 hst hg  hr)
def B_X6_await_27  (v1 : Int32) (s0 : Int32) (h : mb_AH) : Option mb_RS := (mb_cI (F_X6_refused s0 h) fun y106 h105 => (if y106 = 0 then (mb_cV (F_X6_saves h105) fun h107 => (mb_cV (F_X6_waits v1 h107) fun h108 => (mb_cI (F_X6_ahead v1 h108) fun y110 h109 => (some (.inl (some (.inl y110)), h109))))) else (some (.inl (some (.inl 0)), h105))))
set_option maxRecDepth 100000 in
set_option maxHeartbeats 4000000 in
theorem T_X6_await_27 {l : Launch} {G : mb_G} {res : mb_RS} (hst : l.stackTraces = false) (hg : mb_gok G)   {v1 : Int32} {s0 : Int32} {h : mb_AH} (hr : B_X6_await_27  v1 s0 h = some res) : mb_Ev l G RX6 cX6_await 2 (some .int) 3 27 [(0, mb_F 6 0 0), (1, .inl v1)] [.inl s0, mb_F 6 0 0] h res := by
  unfold B_X6_await_27 at hr
  refine cl_X6_42 (pn := 30) hst hg (Nat.le_of_ble_eq_true rfl) (Nat.le_of_ble_eq_true rfl) dX6_await_27 rfl hr (fun y106 h105 hr => ?_)
  refine mb_if_eq (tgt := 35) (pn := 33) dX6_await_30 (by decide) rfl hr (fun hr => ?_) (fun hr => ?_)
  · refine mb_aload_n (pn := 36) 0 dX6_await_35 rfl rfl rfl ?_
    refine cl_X6_142 (pn := 39) hst hg (Nat.le_of_ble_eq_true rfl) (Nat.le_of_ble_eq_true rfl) dX6_await_36 rfl hr (fun h107 hr => ?_)
    refine mb_aload_n (pn := 40) 0 dX6_await_39 rfl rfl rfl ?_
    refine mb_iload_n (pn := 41) 1 dX6_await_40 rfl rfl rfl ?_
    refine cl_X6_99 (pn := 44) hst hg (Nat.le_of_ble_eq_true rfl) (Nat.le_of_ble_eq_true rfl) dX6_await_41 rfl hr (fun h108 hr => ?_)
    refine mb_aload_n (pn := 45) 0 dX6_await_44 rfl rfl rfl ?_
    refine mb_iload_n (pn := 46) 1 dX6_await_45 rfl rfl rfl ?_
    refine cl_X6_85 (pn := 49) hst hg (Nat.le_of_ble_eq_true rfl) (Nat.le_of_ble_eq_true rfl) dX6_await_46 rfl hr (fun y110 h109 hr => ?_)
    cases hr
    exact mb_iret dX6_await_49
  · refine mb_iconst (v := 0) (pn := 34) dX6_await_33 (by decide) rfl ?_
    cases hr
    exact mb_iret dX6_await_34
def F_X6_await (x1 : Int32) (h : mb_AH) : Option mb_RS := (mb_cI (F_X6_isBoat x1 h) fun y102 h101 => (if y102 = 0 then (B_X6_await_27  x1 1 h101) else (mb_cI (F_X6_ofBoat x1 (3 : Int32) h101) fun y104 h103 => (if y104 = 0 then (B_X6_await_27  x1 0 h103) else (B_X6_await_27  x1 2 h103)))))
set_option maxRecDepth 100000 in
set_option maxHeartbeats 4000000 in
theorem C_X6_await {l : Launch} {G : mb_G} (hst : l.stackTraces = false) (hg : mb_gok G) {x1 : Int32} {h : mb_AH} {res : mb_RS} (hr : F_X6_await x1 h = some res) : mb_Mt l G yX6_await cX6_await 2 (some .int) 3 [mb_F 6 0 0, .inl x1] h res := by
  refine mb_entry (own := RX6) (lv := [(0, mb_F 6 0 0), (1, .inl x1)]) (by decide +kernel) rfl (Nat.le_of_ble_eq_true rfl) rfl rfl (fun _ => ?_) hst hg
  unfold F_X6_await at hr
  refine mb_aload_n (pn := 1) 0 dX6_await_0 rfl rfl rfl ?_
  refine mb_aload_n (pn := 2) 0 dX6_await_1 rfl rfl rfl ?_
  refine mb_iload_n (pn := 3) 1 dX6_await_2 rfl rfl rfl ?_
  refine cl_X6_161 (pn := 6) hst hg (Nat.le_of_ble_eq_true rfl) (Nat.le_of_ble_eq_true rfl) dX6_await_3 rfl hr (fun y102 h101 hr => ?_)
  refine mb_if_ne (tgt := 13) (pn := 9) dX6_await_6 (by decide) rfl hr (fun hr => ?_) (fun hr => ?_)
  · refine mb_aload_n (pn := 14) 0 dX6_await_13 rfl rfl rfl ?_
    refine mb_iload_n (pn := 15) 1 dX6_await_14 rfl rfl rfl ?_
    refine mb_iconst (v := 3) (pn := 16) dX6_await_15 (by decide) rfl ?_
    refine cl_X6_50 (pn := 19) hst hg (Nat.le_of_ble_eq_true rfl) (Nat.le_of_ble_eq_true rfl) dX6_await_16 rfl hr (fun y104 h103 hr => ?_)
    refine mb_if_eq (tgt := 26) (pn := 22) dX6_await_19 (by decide) rfl hr (fun hr => ?_) (fun hr => ?_)
    · refine mb_iconst (v := 0) (pn := 27) dX6_await_26 (by decide) rfl ?_
      exact mb_lvs [0, 1] rfl (T_X6_await_27 hst hg  hr)
    · refine mb_iconst (v := 2) (pn := 23) dX6_await_22 (by decide) rfl ?_
      refine mb_goto (tgt := 27) dX6_await_23 (by decide) ?_
      exact mb_lvs [0, 1] rfl (T_X6_await_27 hst hg  hr)
  · refine mb_iconst (v := 1) (pn := 10) dX6_await_9 (by decide) rfl ?_
    refine mb_goto (tgt := 27) dX6_await_10 (by decide) ?_
    exact mb_lvs [0, 1] rfl (T_X6_await_27 hst hg  hr)
set_option maxRecDepth 100000 in
set_option maxHeartbeats 4000000 in
theorem cl_X6_188 {l : Launch} {G : mb_G} {cc : ByteArray} {nL : Nat} {ret : Option FieldType} {d pc pn : Nat} {lv : List (Nat × mb_AV)} {st : List mb_AV} {h : mb_AH} {res : mb_RS} (hst : l.stackTraces = false) (hg : mb_gok G) {x1 : Int32} {K : Int32 → mb_AH → Option mb_RS} (hd2 : 3 + 1 ≤ d) (hs4 : st.length ≤ 4) (dg : decode cc pc = .ok (.invokevirtual 188, 3)) (hn : pc + 3 = pn) (hr : mb_cI (F_X6_waitingAt x1 h) K = some res) (kk : ∀ (x : Int32) (h2 : mb_AH), K x h2 = some res → mb_Ev l G RX6 cc nL ret d pn lv (.inl x :: st) h2 res) : mb_Ev l G RX6 cc nL ret d pc lv (.inl x1 :: mb_F 6 0 0 :: st) h res := mb_kVI (as := [.inl x1]) (n := 1) (d2 := 3) (ci := 6) (fun _ hf => C_X6_waitingAt hst hg hf) (mb_gV wl_X6_188 mi_X6_waitingAt ms_X6_waitingAt mn_X6 mc_X6_waitingAt) (by decide +kernel) rfl rfl rfl hd2 (by decide) hs4 rfl dg hn hr kk
def B_X6_offer_46  : Nat → Int32 → Int32 → Int32 → mb_AH → Option mb_RS
  | 0, _, _, _, _ => none
  | n + 1, v1, v2, v3, h => (if v2 ≤ v3 then (some (.inl (some (.inl (-1))), h)) else (mb_cI (F_X6_waitingAt v3 h) fun y111 h110 => (mb_cI (F_X6_isFit y111 v1 h110) fun y113 h112 => (if y113 = 0 then (mb_lI (v3 + 1) fun y114 => ((B_X6_offer_46  n) v1 v2 y114 h112)) else (mb_cV (F_X6_puts y111 (1 : Int32) v1 h112) fun h115 => (some (.inl (some (.inl y111)), h115)))))))
set_option maxRecDepth 100000 in
set_option maxHeartbeats 4000000 in
theorem T_X6_offer_46 {l : Launch} {G : mb_G} {res : mb_RS} (hst : l.stackTraces = false) (hg : mb_gok G)   : ∀ (n : Nat) (v1 : Int32) (v2 : Int32) (v3 : Int32) (h : mb_AH), B_X6_offer_46  n v1 v2 v3 h = some res → mb_Ev l G RX6 cX6_offer 5 (some .int) 4 46 [(0, mb_F 6 0 0), (1, .inl v1), (2, .inl v2), (3, .inl v3)] [] h res := by
  intro n
  induction n with
  | zero => intro v1 v2 v3 h hr; cases hr
  | succ n ih =>
    intro v1 v2 v3 h hr
    rw [B_X6_offer_46] at hr
    refine mb_iload_n (pn := 47) 3 dX6_offer_46 rfl rfl rfl ?_
    refine mb_iload_n (pn := 48) 2 dX6_offer_47 rfl rfl rfl ?_
    refine mb_ic_ge (tgt := 85) (pn := 51) dX6_offer_48 (by decide) rfl hr (fun hr => ?_) (fun hr => ?_)
    · refine mb_iconst (v := (-1)) (pn := 86) dX6_offer_85 (by decide) rfl ?_
      cases hr
      exact mb_iret dX6_offer_86
    · refine mb_aload_n (pn := 52) 0 dX6_offer_51 rfl rfl rfl ?_
      refine mb_iload_n (pn := 53) 3 dX6_offer_52 rfl rfl rfl ?_
      refine cl_X6_188 (pn := 56) hst hg (Nat.le_of_ble_eq_true rfl) (Nat.le_of_ble_eq_true rfl) dX6_offer_53 rfl hr (fun y111 h110 hr => ?_)
      refine mb_istore (pn := 58) (lv2 := [(4, .inl y111), (0, mb_F 6 0 0), (1, .inl v1), (2, .inl v2), (3, .inl v3)]) dX6_offer_56 (by decide) rfl rfl ?_
      refine mb_aload_n (pn := 59) 1 dX6_offer_58 rfl rfl rfl ?_
      refine mb_iload (pn := 61) 0 dX6_offer_59 rfl rfl ?_
      refine mb_iload_n (pn := 62) 2 dX6_offer_61 rfl rfl rfl ?_
      refine cl_X6_96 (pn := 65) hst hg (Nat.le_of_ble_eq_true rfl) (Nat.le_of_ble_eq_true rfl) dX6_offer_62 rfl hr (fun y113 h112 hr => ?_)
      refine mb_if_eq (tgt := 79) (pn := 68) dX6_offer_65 (by decide) rfl hr (fun hr => ?_) (fun hr => ?_)
      · refine mb_nmx hr (fun y114 qy114 hr => ?_)
        refine mb_iinc (v := y114) (pn := 82) (lv2 := [(3, .inl y114), (4, .inl y111), (0, mb_F 6 0 0), (1, .inl v1), (2, .inl v2)]) 4 dX6_offer_79 rfl (by rw [qy114]; rfl) (by decide) rfl rfl ?_
        refine mb_goto (tgt := 46) dX6_offer_82 (by decide) ?_
        exact mb_lvs [2, 3, 4, 0] rfl (ih _ _ _ _ hr)
      · refine mb_aload_n (pn := 69) 1 dX6_offer_68 rfl rfl rfl ?_
        refine mb_iload (pn := 71) 0 dX6_offer_69 rfl rfl ?_
        refine mb_iconst (v := 1) (pn := 72) dX6_offer_71 (by decide) rfl ?_
        refine mb_iload_n (pn := 73) 2 dX6_offer_72 rfl rfl rfl ?_
        refine cl_X6_79 (pn := 76) hst hg (Nat.le_of_ble_eq_true rfl) (Nat.le_of_ble_eq_true rfl) dX6_offer_73 rfl hr (fun h115 hr => ?_)
        refine mb_iload (pn := 78) 0 dX6_offer_76 rfl rfl ?_
        cases hr
        exact mb_iret dX6_offer_78
def B_X6_offer_26  (v1 : Int32) (s0 : Int32) (h : mb_AH) : Option mb_RS := (mb_cI (F_X6_refused s0 h) fun y106 h105 => (if y106 = 0 then (mb_cV (F_X6_saves h105) fun h107 => (mb_cI (F_X6_countIn (2 : Int32) h107) fun y109 h108 => (B_X6_offer_46  mb_fu v1 y109 0 h108))) else (some (.inl (some (.inl 0)), h105))))
set_option maxRecDepth 100000 in
set_option maxHeartbeats 4000000 in
theorem T_X6_offer_26 {l : Launch} {G : mb_G} {res : mb_RS} (hst : l.stackTraces = false) (hg : mb_gok G)   {v1 : Int32} {s0 : Int32} {h : mb_AH} (hr : B_X6_offer_26  v1 s0 h = some res) : mb_Ev l G RX6 cX6_offer 5 (some .int) 4 26 [(0, mb_F 6 0 0), (1, .inl v1)] [.inl s0, mb_F 6 0 0] h res := by
  unfold B_X6_offer_26 at hr
  refine cl_X6_42 (pn := 29) hst hg (Nat.le_of_ble_eq_true rfl) (Nat.le_of_ble_eq_true rfl) dX6_offer_26 rfl hr (fun y106 h105 hr => ?_)
  refine mb_if_eq (tgt := 34) (pn := 32) dX6_offer_29 (by decide) rfl hr (fun hr => ?_) (fun hr => ?_)
  · refine mb_aload_n (pn := 35) 0 dX6_offer_34 rfl rfl rfl ?_
    refine cl_X6_142 (pn := 38) hst hg (Nat.le_of_ble_eq_true rfl) (Nat.le_of_ble_eq_true rfl) dX6_offer_35 rfl hr (fun h107 hr => ?_)
    refine mb_aload_n (pn := 39) 0 dX6_offer_38 rfl rfl rfl ?_
    refine mb_iconst (v := 2) (pn := 40) dX6_offer_39 (by decide) rfl ?_
    refine cl_X6_170 (pn := 43) hst hg (Nat.le_of_ble_eq_true rfl) (Nat.le_of_ble_eq_true rfl) dX6_offer_40 rfl hr (fun y109 h108 hr => ?_)
    refine mb_istore_n (pn := 44) (lv2 := [(2, .inl y109), (0, mb_F 6 0 0), (1, .inl v1)]) dX6_offer_43 rfl (by decide) rfl rfl ?_
    refine mb_iconst (v := 0) (pn := 45) dX6_offer_44 (by decide) rfl ?_
    refine mb_istore_n (pn := 46) (lv2 := [(3, .inl 0), (2, .inl y109), (0, mb_F 6 0 0), (1, .inl v1)]) dX6_offer_45 rfl (by decide) rfl rfl ?_
    exact mb_lvs [2, 3, 1, 0] rfl (T_X6_offer_46 hst hg  mb_fu _ _ _ _ hr)
  · refine mb_iconst (v := 0) (pn := 33) dX6_offer_32 (by decide) rfl ?_
    cases hr
    exact mb_iret dX6_offer_33
def F_X6_offer (x1 : Int32) (h : mb_AH) : Option mb_RS := (mb_cI (F_X6_isBerth x1 h) fun y102 h101 => (if y102 = 0 then (B_X6_offer_26  x1 1 h101) else (mb_cI (F_X6_isOpen x1 h101) fun y104 h103 => (if y104 = 0 then (B_X6_offer_26  x1 2 h103) else (B_X6_offer_26  x1 0 h103)))))
set_option maxRecDepth 100000 in
set_option maxHeartbeats 4000000 in
theorem C_X6_offer {l : Launch} {G : mb_G} (hst : l.stackTraces = false) (hg : mb_gok G) {x1 : Int32} {h : mb_AH} {res : mb_RS} (hr : F_X6_offer x1 h = some res) : mb_Mt l G yX6_offer cX6_offer 5 (some .int) 4 [mb_F 6 0 0, .inl x1] h res := by
  refine mb_entry (own := RX6) (lv := [(0, mb_F 6 0 0), (1, .inl x1)]) (by decide +kernel) rfl (Nat.le_of_ble_eq_true rfl) rfl rfl (fun _ => ?_) hst hg
  unfold F_X6_offer at hr
  refine mb_aload_n (pn := 1) 0 dX6_offer_0 rfl rfl rfl ?_
  refine mb_aload_n (pn := 2) 0 dX6_offer_1 rfl rfl rfl ?_
  refine mb_iload_n (pn := 3) 1 dX6_offer_2 rfl rfl rfl ?_
  refine cl_X6_152 (pn := 6) hst hg (Nat.le_of_ble_eq_true rfl) (Nat.le_of_ble_eq_true rfl) dX6_offer_3 rfl hr (fun y102 h101 hr => ?_)
  refine mb_if_ne (tgt := 13) (pn := 9) dX6_offer_6 (by decide) rfl hr (fun hr => ?_) (fun hr => ?_)
  · refine mb_aload_n (pn := 14) 0 dX6_offer_13 rfl rfl rfl ?_
    refine mb_iload_n (pn := 15) 1 dX6_offer_14 rfl rfl rfl ?_
    refine cl_X6_182 (pn := 18) hst hg (Nat.le_of_ble_eq_true rfl) (Nat.le_of_ble_eq_true rfl) dX6_offer_15 rfl hr (fun y104 h103 hr => ?_)
    refine mb_if_ne (tgt := 25) (pn := 21) dX6_offer_18 (by decide) rfl hr (fun hr => ?_) (fun hr => ?_)
    · refine mb_iconst (v := 0) (pn := 26) dX6_offer_25 (by decide) rfl ?_
      exact mb_lvs [0, 1] rfl (T_X6_offer_26 hst hg  hr)
    · refine mb_iconst (v := 2) (pn := 22) dX6_offer_21 (by decide) rfl ?_
      refine mb_goto (tgt := 26) dX6_offer_22 (by decide) ?_
      exact mb_lvs [0, 1] rfl (T_X6_offer_26 hst hg  hr)
  · refine mb_iconst (v := 1) (pn := 10) dX6_offer_9 (by decide) rfl ?_
    refine mb_goto (tgt := 26) dX6_offer_10 (by decide) ?_
    exact mb_lvs [0, 1] rfl (T_X6_offer_26 hst hg  hr)
def F_X6_waiting (x1 : Int32) (h : mb_AH) : Option mb_RS := (mb_up (mb_sI h 6 0 0 4 0) fun h101 => (if 0 ≤ x1 then (mb_cI (F_X6_waitingAt x1 h101) fun y103 h102 => (some (.inl (some (.inl y103)), h102))) else (some (.inl (some (.inl (-1))), h101))))
set_option maxRecDepth 100000 in
set_option maxHeartbeats 4000000 in
theorem C_X6_waiting {l : Launch} {G : mb_G} (hst : l.stackTraces = false) (hg : mb_gok G) {x1 : Int32} {h : mb_AH} {res : mb_RS} (hr : F_X6_waiting x1 h = some res) : mb_Mt l G yX6_waiting cX6_waiting 2 (some .int) 4 [mb_F 6 0 0, .inl x1] h res := by
  refine mb_entry (own := RX6) (lv := [(0, mb_F 6 0 0), (1, .inl x1)]) (by decide +kernel) rfl (Nat.le_of_ble_eq_true rfl) rfl rfl (fun _ => ?_) hst hg
  unfold F_X6_waiting at hr
  refine mb_aload_n (pn := 1) 0 dX6_waiting_0 rfl rfl rfl ?_
  refine mb_iconst (v := 0) (pn := 2) dX6_waiting_1 (by decide) rfl ?_
  refine pf_X6_35 (pn := 5) dX6_waiting_2 rfl hr (fun h101 hr => ?_)
  refine mb_iload_n (pn := 6) 1 dX6_waiting_5 rfl rfl rfl ?_
  refine mb_if_ge (tgt := 13) (pn := 9) dX6_waiting_6 (by decide) rfl hr (fun hr => ?_) (fun hr => ?_)
  · refine mb_aload_n (pn := 14) 0 dX6_waiting_13 rfl rfl rfl ?_
    refine mb_iload_n (pn := 15) 1 dX6_waiting_14 rfl rfl rfl ?_
    refine cl_X6_188 (pn := 18) hst hg (Nat.le_of_ble_eq_true rfl) (Nat.le_of_ble_eq_true rfl) dX6_waiting_15 rfl hr (fun y103 h102 hr => ?_)
    cases hr
    exact mb_iret dX6_waiting_18
  · refine mb_iconst (v := (-1)) (pn := 10) dX6_waiting_9 (by decide) rfl ?_
    refine mb_goto (tgt := 18) dX6_waiting_10 (by decide) ?_
    cases hr
    exact mb_iret dX6_waiting_18
def B_X6_bestOf_86 (K4 : Int32 → Int32 → Int32 → mb_AH → Option mb_RS) (v1 : Int32) (v2 : Int32) (v3 : Int32) (s0 : Int32) (h : mb_AH) : Option mb_RS := (if s0 = 0 then (mb_lI (v3 + 1) fun y111 => (K4 v1 v2 y111 h)) else (mb_lI (v3 + 1) fun y112 => (K4 v1 v3 y112 h)))
set_option maxRecDepth 100000 in
set_option maxHeartbeats 4000000 in
theorem T_X6_bestOf_86 {l : Launch} {G : mb_G} {res : mb_RS} (hst : l.stackTraces = false) (hg : mb_gok G) {K4 : Int32 → Int32 → Int32 → mb_AH → Option mb_RS} (hK4 : ∀ (v1z : Int32) (v2z : Int32) (v3z : Int32) (hz : mb_AH), K4 v1z v2z v3z hz = some res → mb_Ev l G RX6 cX6_bestOf 6 (some .int) 3 4 [(0, mb_F 6 0 0), (1, .inl v1z), (2, .inl v2z), (3, .inl v3z)] [] hz res) {v1 : Int32} {v2 : Int32} {v3 : Int32} {s0 : Int32} {h : mb_AH} (hr : B_X6_bestOf_86 K4 v1 v2 v3 s0 h = some res) : mb_Ev l G RX6 cX6_bestOf 6 (some .int) 3 86 [(0, mb_F 6 0 0), (1, .inl v1), (2, .inl v2), (3, .inl v3)] [.inl s0] h res := by
  unfold B_X6_bestOf_86 at hr
  refine mb_istore (pn := 88) (lv2 := [(5, .inl s0), (0, mb_F 6 0 0), (1, .inl v1), (2, .inl v2), (3, .inl v3)]) dX6_bestOf_86 (by decide) rfl rfl ?_
  refine mb_iload (pn := 90) 0 dX6_bestOf_88 rfl rfl ?_
  refine mb_if_eq (tgt := 97) (pn := 93) dX6_bestOf_90 (by decide) rfl hr (fun hr => ?_) (fun hr => ?_)
  · refine mb_iload_n (pn := 98) 3 dX6_bestOf_97 rfl rfl rfl ?_
    refine mb_istore_n (pn := 99) (lv2 := [(2, .inl v2), (5, .inl s0), (0, mb_F 6 0 0), (1, .inl v1), (3, .inl v3)]) dX6_bestOf_98 rfl (by decide) rfl rfl ?_
    refine mb_nmx hr (fun y111 qy111 hr => ?_)
    refine mb_iinc (v := y111) (pn := 102) (lv2 := [(3, .inl y111), (2, .inl v2), (5, .inl s0), (0, mb_F 6 0 0), (1, .inl v1)]) 4 dX6_bestOf_99 rfl (by rw [qy111]; rfl) (by decide) rfl rfl ?_
    refine mb_goto (tgt := 4) dX6_bestOf_102 (by decide) ?_
    exact mb_lvs [3, 4, 1, 0] rfl (hK4 _ _ _ _ hr)
  · refine mb_iload_n (pn := 94) 4 dX6_bestOf_93 rfl rfl rfl ?_
    refine mb_goto (tgt := 98) dX6_bestOf_94 (by decide) ?_
    refine mb_istore_n (pn := 99) (lv2 := [(2, .inl v3), (5, .inl s0), (0, mb_F 6 0 0), (1, .inl v1), (3, .inl v3)]) dX6_bestOf_98 rfl (by decide) rfl rfl ?_
    refine mb_nmx hr (fun y112 qy112 hr => ?_)
    refine mb_iinc (v := y112) (pn := 102) (lv2 := [(3, .inl y112), (2, .inl v3), (5, .inl s0), (0, mb_F 6 0 0), (1, .inl v1)]) 4 dX6_bestOf_99 rfl (by rw [qy112]; rfl) (by decide) rfl rfl ?_
    refine mb_goto (tgt := 4) dX6_bestOf_102 (by decide) ?_
    exact mb_lvs [3, 4, 1, 0] rfl (hK4 _ _ _ _ hr)
def B_X6_bestOf_81 (K4 : Int32 → Int32 → Int32 → mb_AH → Option mb_RS) (v1 : Int32) (v2 : Int32) (v3 : Int32) (h : mb_AH) : Option mb_RS := (B_X6_bestOf_86 K4 v1 v2 v3 1 h)
set_option maxRecDepth 100000 in
set_option maxHeartbeats 4000000 in
theorem T_X6_bestOf_81 {l : Launch} {G : mb_G} {res : mb_RS} (hst : l.stackTraces = false) (hg : mb_gok G) {K4 : Int32 → Int32 → Int32 → mb_AH → Option mb_RS} (hK4 : ∀ (v1z : Int32) (v2z : Int32) (v3z : Int32) (hz : mb_AH), K4 v1z v2z v3z hz = some res → mb_Ev l G RX6 cX6_bestOf 6 (some .int) 3 4 [(0, mb_F 6 0 0), (1, .inl v1z), (2, .inl v2z), (3, .inl v3z)] [] hz res) {v1 : Int32} {v2 : Int32} {v3 : Int32} {h : mb_AH} (hr : B_X6_bestOf_81 K4 v1 v2 v3 h = some res) : mb_Ev l G RX6 cX6_bestOf 6 (some .int) 3 81 [(0, mb_F 6 0 0), (1, .inl v1), (2, .inl v2), (3, .inl v3)] [] h res := by
  unfold B_X6_bestOf_81 at hr
  refine mb_iconst (v := 1) (pn := 82) dX6_bestOf_81 (by decide) rfl ?_
  refine mb_goto (tgt := 86) dX6_bestOf_82 (by decide) ?_
  exact mb_lvs [0, 1, 2, 3] rfl (T_X6_bestOf_86 hst hg hK4 hr)
def B_X6_bestOf_85 (K4 : Int32 → Int32 → Int32 → mb_AH → Option mb_RS) (v1 : Int32) (v2 : Int32) (v3 : Int32) (h : mb_AH) : Option mb_RS := (B_X6_bestOf_86 K4 v1 v2 v3 0 h)
set_option maxRecDepth 100000 in
set_option maxHeartbeats 4000000 in
theorem T_X6_bestOf_85 {l : Launch} {G : mb_G} {res : mb_RS} (hst : l.stackTraces = false) (hg : mb_gok G) {K4 : Int32 → Int32 → Int32 → mb_AH → Option mb_RS} (hK4 : ∀ (v1z : Int32) (v2z : Int32) (v3z : Int32) (hz : mb_AH), K4 v1z v2z v3z hz = some res → mb_Ev l G RX6 cX6_bestOf 6 (some .int) 3 4 [(0, mb_F 6 0 0), (1, .inl v1z), (2, .inl v2z), (3, .inl v3z)] [] hz res) {v1 : Int32} {v2 : Int32} {v3 : Int32} {h : mb_AH} (hr : B_X6_bestOf_85 K4 v1 v2 v3 h = some res) : mb_Ev l G RX6 cX6_bestOf 6 (some .int) 3 85 [(0, mb_F 6 0 0), (1, .inl v1), (2, .inl v2), (3, .inl v3)] [] h res := by
  unfold B_X6_bestOf_85 at hr
  refine mb_iconst (v := 0) (pn := 86) dX6_bestOf_85 (by decide) rfl ?_
  exact mb_lvs [0, 1, 2, 3] rfl (T_X6_bestOf_86 hst hg hK4 hr)
def B_X6_bestOf_54 (K4 : Int32 → Int32 → Int32 → mb_AH → Option mb_RS) (v1 : Int32) (v2 : Int32) (v3 : Int32) (s0 : Int32) (h : mb_AH) : Option mb_RS := (if s0 < 0 then (B_X6_bestOf_81 K4 v1 v2 v3 h) else (if s0 = 0 then (mb_cI (F_X6_ofBerth v3 (0 : Int32) h) fun y114 h113 => (mb_cI (F_X6_ofBerth v2 (0 : Int32) h113) fun y116 h115 => (if y116 ≤ y114 then (B_X6_bestOf_85 K4 v1 v2 v3 h115) else (B_X6_bestOf_81 K4 v1 v2 v3 h115)))) else (B_X6_bestOf_85 K4 v1 v2 v3 h)))
set_option maxRecDepth 100000 in
set_option maxHeartbeats 4000000 in
theorem T_X6_bestOf_54 {l : Launch} {G : mb_G} {res : mb_RS} (hst : l.stackTraces = false) (hg : mb_gok G) {K4 : Int32 → Int32 → Int32 → mb_AH → Option mb_RS} (hK4 : ∀ (v1z : Int32) (v2z : Int32) (v3z : Int32) (hz : mb_AH), K4 v1z v2z v3z hz = some res → mb_Ev l G RX6 cX6_bestOf 6 (some .int) 3 4 [(0, mb_F 6 0 0), (1, .inl v1z), (2, .inl v2z), (3, .inl v3z)] [] hz res) {v1 : Int32} {v2 : Int32} {v3 : Int32} {s0 : Int32} {h : mb_AH} (hr : B_X6_bestOf_54 K4 v1 v2 v3 s0 h = some res) : mb_Ev l G RX6 cX6_bestOf 6 (some .int) 3 54 [(0, mb_F 6 0 0), (1, .inl v1), (2, .inl v2), (3, .inl v3)] [.inl s0] h res := by
  unfold B_X6_bestOf_54 at hr
  refine mb_istore (pn := 56) (lv2 := [(4, .inl s0), (0, mb_F 6 0 0), (1, .inl v1), (2, .inl v2), (3, .inl v3)]) dX6_bestOf_54 (by decide) rfl rfl ?_
  refine mb_iload (pn := 58) 0 dX6_bestOf_56 rfl rfl ?_
  refine mb_if_lt (tgt := 81) (pn := 61) dX6_bestOf_58 (by decide) rfl hr (fun hr => ?_) (fun hr => ?_)
  · exact mb_lvs [1, 2, 3, 4] rfl (T_X6_bestOf_81 hst hg hK4 hr)
  · refine mb_iload (pn := 63) 0 dX6_bestOf_61 rfl rfl ?_
    refine mb_if_ne (tgt := 85) (pn := 66) dX6_bestOf_63 (by decide) rfl hr (fun hr => ?_) (fun hr => ?_)
    · exact mb_lvs [1, 2, 3, 4] rfl (T_X6_bestOf_85 hst hg hK4 hr)
    · refine mb_aload_n (pn := 67) 1 dX6_bestOf_66 rfl rfl rfl ?_
      refine mb_iload_n (pn := 68) 4 dX6_bestOf_67 rfl rfl rfl ?_
      refine mb_iconst (v := 0) (pn := 69) dX6_bestOf_68 (by decide) rfl ?_
      refine cl_X6_54 (pn := 72) hst hg (Nat.le_of_ble_eq_true rfl) (Nat.le_of_ble_eq_true rfl) dX6_bestOf_69 rfl hr (fun y114 h113 hr => ?_)
      refine mb_aload_n (pn := 73) 1 dX6_bestOf_72 rfl rfl rfl ?_
      refine mb_iload_n (pn := 74) 3 dX6_bestOf_73 rfl rfl rfl ?_
      refine mb_iconst (v := 0) (pn := 75) dX6_bestOf_74 (by decide) rfl ?_
      refine cl_X6_54 (pn := 78) hst hg (Nat.le_of_ble_eq_true rfl) (Nat.le_of_ble_eq_true rfl) dX6_bestOf_75 rfl hr (fun y116 h115 hr => ?_)
      refine mb_ic_ge (tgt := 85) (pn := 81) dX6_bestOf_78 (by decide) rfl hr (fun hr => ?_) (fun hr => ?_)
      · exact mb_lvs [1, 2, 3, 4] rfl (T_X6_bestOf_85 hst hg hK4 hr)
      · exact mb_lvs [1, 2, 3, 4] rfl (T_X6_bestOf_81 hst hg hK4 hr)
def B_X6_bestOf_4  : Nat → Int32 → Int32 → Int32 → mb_AH → Option mb_RS
  | 0, _, _, _, _ => none
  | n + 1, v1, v2, v3, h => (mb_gB 6 270 (if (h.1 20 0 0 (6 : Int32).toNatClampNeg) ≤ v3 then (some (.inl (some (.inl v2)), h)) else (mb_cI (F_X6_isOpen v3 h) fun y102 h101 => (if y102 = 0 then (mb_lI (v3 + 1) fun y103 => ((B_X6_bestOf_4  n) v1 v2 y103 h101)) else (mb_cI (F_X6_isFit v1 v3 h101) fun y105 h104 => (if y105 = 0 then (mb_lI (v3 + 1) fun y106 => ((B_X6_bestOf_4  n) v1 v2 y106 h104)) else (if v2 = (-1) then (B_X6_bestOf_54 (B_X6_bestOf_4  n) v1 v2 v3 (-1) h104) else (mb_cI (F_X6_ofBerth v3 (1 : Int32) h104) fun y108 h107 => (mb_cI (F_X6_ofBerth v2 (1 : Int32) h107) fun y110 h109 => (B_X6_bestOf_54 (B_X6_bestOf_4  n) v1 v2 v3 (y108 - y110) h109))))))))))
set_option maxRecDepth 100000 in
set_option maxHeartbeats 4000000 in
theorem T_X6_bestOf_4 {l : Launch} {G : mb_G} {res : mb_RS} (hst : l.stackTraces = false) (hg : mb_gok G)   : ∀ (n : Nat) (v1 : Int32) (v2 : Int32) (v3 : Int32) (h : mb_AH), B_X6_bestOf_4  n v1 v2 v3 h = some res → mb_Ev l G RX6 cX6_bestOf 6 (some .int) 3 4 [(0, mb_F 6 0 0), (1, .inl v1), (2, .inl v2), (3, .inl v3)] [] h res := by
  intro n
  induction n with
  | zero => intro v1 v2 v3 h hr; cases hr
  | succ n ih =>
    intro v1 v2 v3 h hr
    rw [B_X6_bestOf_4] at hr
    refine mb_iload_n (pn := 5) 3 dX6_bestOf_4 rfl rfl rfl ?_
    refine mb_aload_n (pn := 6) 0 dX6_bestOf_5 rfl rfl rfl ?_
    refine gf_X6_7 (pn := 9) dX6_bestOf_6 rfl ?_
    refine mb_bipush (v := 6) (pn := 11) dX6_bestOf_9 (by decide) rfl ?_
    refine mb_iald (pn := 12) (n := 270) rfl dX6_bestOf_11 rfl hr (fun hr => ?_)
    refine mb_ic_ge (tgt := 105) (pn := 15) dX6_bestOf_12 (by decide) rfl hr (fun hr => ?_) (fun hr => ?_)
    · refine mb_iload_n (pn := 106) 2 dX6_bestOf_105 rfl rfl rfl ?_
      cases hr
      exact mb_iret dX6_bestOf_106
    · refine mb_aload_n (pn := 16) 0 dX6_bestOf_15 rfl rfl rfl ?_
      refine mb_iload_n (pn := 17) 3 dX6_bestOf_16 rfl rfl rfl ?_
      refine cl_X6_182 (pn := 20) hst hg (Nat.le_of_ble_eq_true rfl) (Nat.le_of_ble_eq_true rfl) dX6_bestOf_17 rfl hr (fun y102 h101 hr => ?_)
      refine mb_if_eq (tgt := 99) (pn := 23) dX6_bestOf_20 (by decide) rfl hr (fun hr => ?_) (fun hr => ?_)
      · refine mb_nmx hr (fun y103 qy103 hr => ?_)
        refine mb_iinc (v := y103) (pn := 102) (lv2 := [(3, .inl y103), (0, mb_F 6 0 0), (1, .inl v1), (2, .inl v2)]) 3 dX6_bestOf_99 rfl (by rw [qy103]; rfl) (by decide) rfl rfl ?_
        refine mb_goto (tgt := 4) dX6_bestOf_102 (by decide) ?_
        exact mb_lvs [1, 2, 3, 0] rfl (ih _ _ _ _ hr)
      · refine mb_aload_n (pn := 24) 0 dX6_bestOf_23 rfl rfl rfl ?_
        refine mb_iload_n (pn := 25) 1 dX6_bestOf_24 rfl rfl rfl ?_
        refine mb_iload_n (pn := 26) 3 dX6_bestOf_25 rfl rfl rfl ?_
        refine cl_X6_96 (pn := 29) hst hg (Nat.le_of_ble_eq_true rfl) (Nat.le_of_ble_eq_true rfl) dX6_bestOf_26 rfl hr (fun y105 h104 hr => ?_)
        refine mb_if_eq (tgt := 99) (pn := 32) dX6_bestOf_29 (by decide) rfl hr (fun hr => ?_) (fun hr => ?_)
        · refine mb_nmx hr (fun y106 qy106 hr => ?_)
          refine mb_iinc (v := y106) (pn := 102) (lv2 := [(3, .inl y106), (0, mb_F 6 0 0), (1, .inl v1), (2, .inl v2)]) 3 dX6_bestOf_99 rfl (by rw [qy106]; rfl) (by decide) rfl rfl ?_
          refine mb_goto (tgt := 4) dX6_bestOf_102 (by decide) ?_
          exact mb_lvs [1, 2, 3, 0] rfl (ih _ _ _ _ hr)
        · refine mb_iload_n (pn := 33) 2 dX6_bestOf_32 rfl rfl rfl ?_
          refine mb_iconst (v := (-1)) (pn := 34) dX6_bestOf_33 (by decide) rfl ?_
          refine mb_ic_ne (tgt := 41) (pn := 37) dX6_bestOf_34 (by decide) rfl hr (fun hr => ?_) (fun hr => ?_)
          · refine mb_aload_n (pn := 42) 0 dX6_bestOf_41 rfl rfl rfl ?_
            refine mb_iload_n (pn := 43) 3 dX6_bestOf_42 rfl rfl rfl ?_
            refine mb_iconst (v := 1) (pn := 44) dX6_bestOf_43 (by decide) rfl ?_
            refine cl_X6_54 (pn := 47) hst hg (Nat.le_of_ble_eq_true rfl) (Nat.le_of_ble_eq_true rfl) dX6_bestOf_44 rfl hr (fun y108 h107 hr => ?_)
            refine mb_aload_n (pn := 48) 0 dX6_bestOf_47 rfl rfl rfl ?_
            refine mb_iload_n (pn := 49) 2 dX6_bestOf_48 rfl rfl rfl ?_
            refine mb_iconst (v := 1) (pn := 50) dX6_bestOf_49 (by decide) rfl ?_
            refine cl_X6_54 (pn := 53) hst hg (Nat.le_of_ble_eq_true rfl) (Nat.le_of_ble_eq_true rfl) dX6_bestOf_50 rfl hr (fun y110 h109 hr => ?_)
            refine mb_isub (pn := 54) dX6_bestOf_53 rfl ?_
            exact mb_lvs [0, 1, 2, 3] rfl (T_X6_bestOf_54 hst hg ih hr)
          · refine mb_iconst (v := (-1)) (pn := 38) dX6_bestOf_37 (by decide) rfl ?_
            refine mb_goto (tgt := 54) dX6_bestOf_38 (by decide) ?_
            exact mb_lvs [0, 1, 2, 3] rfl (T_X6_bestOf_54 hst hg ih hr)
def F_X6_bestOf (x1 : Int32) (h : mb_AH) : Option mb_RS := (B_X6_bestOf_4  mb_fu x1 (-1) 0 h)
set_option maxRecDepth 100000 in
set_option maxHeartbeats 4000000 in
theorem C_X6_bestOf {l : Launch} {G : mb_G} (hst : l.stackTraces = false) (hg : mb_gok G) {x1 : Int32} {h : mb_AH} {res : mb_RS} (hr : F_X6_bestOf x1 h = some res) : mb_Mt l G yX6_bestOf cX6_bestOf 6 (some .int) 3 [mb_F 6 0 0, .inl x1] h res := by
  refine mb_entry (own := RX6) (lv := [(0, mb_F 6 0 0), (1, .inl x1)]) (by decide +kernel) rfl (Nat.le_of_ble_eq_true rfl) rfl rfl (fun _ => ?_) hst hg
  unfold F_X6_bestOf at hr
  refine mb_iconst (v := (-1)) (pn := 1) dX6_bestOf_0 (by decide) rfl ?_
  refine mb_istore_n (pn := 2) (lv2 := [(2, .inl (-1)), (0, mb_F 6 0 0), (1, .inl x1)]) dX6_bestOf_1 rfl (by decide) rfl rfl ?_
  refine mb_iconst (v := 0) (pn := 3) dX6_bestOf_2 (by decide) rfl ?_
  refine mb_istore_n (pn := 4) (lv2 := [(3, .inl 0), (2, .inl (-1)), (0, mb_F 6 0 0), (1, .inl x1)]) dX6_bestOf_3 rfl (by decide) rfl rfl ?_
  exact mb_lvs [2, 3, 1, 0] rfl (T_X6_bestOf_4 hst hg  mb_fu _ _ _ _ hr)
set_option maxRecDepth 100000 in
set_option maxHeartbeats 4000000 in
theorem cl_X6_191 {l : Launch} {G : mb_G} {cc : ByteArray} {nL : Nat} {ret : Option FieldType} {d pc pn : Nat} {lv : List (Nat × mb_AV)} {st : List mb_AV} {h : mb_AH} {res : mb_RS} (hst : l.stackTraces = false) (hg : mb_gok G) {x1 : Int32} {K : Int32 → mb_AH → Option mb_RS} (hd2 : 3 + 1 ≤ d) (hs4 : st.length ≤ 4) (dg : decode cc pc = .ok (.invokevirtual 191, 3)) (hn : pc + 3 = pn) (hr : mb_cI (F_X6_bestOf x1 h) K = some res) (kk : ∀ (x : Int32) (h2 : mb_AH), K x h2 = some res → mb_Ev l G RX6 cc nL ret d pn lv (.inl x :: st) h2 res) : mb_Ev l G RX6 cc nL ret d pc lv (.inl x1 :: mb_F 6 0 0 :: st) h res := mb_kVI (as := [.inl x1]) (n := 1) (d2 := 3) (ci := 6) (fun _ hf => C_X6_bestOf hst hg hf) (mb_gV wl_X6_191 mi_X6_bestOf ms_X6_bestOf mn_X6 mc_X6_bestOf) (by decide +kernel) rfl rfl rfl hd2 (by decide) hs4 rfl dg hn hr kk
def B_X6_bestBerth_14  (v1 : Int32) (s0 : Int32) (h : mb_AH) : Option mb_RS := (mb_cI (F_X6_refused s0 h) fun y104 h103 => (if y104 = 0 then (mb_cI (F_X6_bestOf v1 h103) fun y106 h105 => (some (.inl (some (.inl y106)), h105))) else (some (.inl (some (.inl 0)), h103))))
set_option maxRecDepth 100000 in
set_option maxHeartbeats 4000000 in
theorem T_X6_bestBerth_14 {l : Launch} {G : mb_G} {res : mb_RS} (hst : l.stackTraces = false) (hg : mb_gok G)   {v1 : Int32} {s0 : Int32} {h : mb_AH} (hr : B_X6_bestBerth_14  v1 s0 h = some res) : mb_Ev l G RX6 cX6_bestBerth 2 (some .int) 4 14 [(0, mb_F 6 0 0), (1, .inl v1)] [.inl s0, mb_F 6 0 0] h res := by
  unfold B_X6_bestBerth_14 at hr
  refine cl_X6_42 (pn := 17) hst hg (Nat.le_of_ble_eq_true rfl) (Nat.le_of_ble_eq_true rfl) dX6_bestBerth_14 rfl hr (fun y104 h103 hr => ?_)
  refine mb_if_eq (tgt := 24) (pn := 20) dX6_bestBerth_17 (by decide) rfl hr (fun hr => ?_) (fun hr => ?_)
  · refine mb_aload_n (pn := 25) 0 dX6_bestBerth_24 rfl rfl rfl ?_
    refine mb_iload_n (pn := 26) 1 dX6_bestBerth_25 rfl rfl rfl ?_
    refine cl_X6_191 (pn := 29) hst hg (Nat.le_of_ble_eq_true rfl) (Nat.le_of_ble_eq_true rfl) dX6_bestBerth_26 rfl hr (fun y106 h105 hr => ?_)
    cases hr
    exact mb_iret dX6_bestBerth_29
  · refine mb_iconst (v := 0) (pn := 21) dX6_bestBerth_20 (by decide) rfl ?_
    refine mb_goto (tgt := 29) dX6_bestBerth_21 (by decide) ?_
    cases hr
    exact mb_iret dX6_bestBerth_29
def F_X6_bestBerth (x1 : Int32) (h : mb_AH) : Option mb_RS := (mb_cI (F_X6_isBoat x1 h) fun y102 h101 => (if y102 = 0 then (B_X6_bestBerth_14  x1 1 h101) else (B_X6_bestBerth_14  x1 0 h101)))
set_option maxRecDepth 100000 in
set_option maxHeartbeats 4000000 in
theorem C_X6_bestBerth {l : Launch} {G : mb_G} (hst : l.stackTraces = false) (hg : mb_gok G) {x1 : Int32} {h : mb_AH} {res : mb_RS} (hr : F_X6_bestBerth x1 h = some res) : mb_Mt l G yX6_bestBerth cX6_bestBerth 2 (some .int) 4 [mb_F 6 0 0, .inl x1] h res := by
  refine mb_entry (own := RX6) (lv := [(0, mb_F 6 0 0), (1, .inl x1)]) (by decide +kernel) rfl (Nat.le_of_ble_eq_true rfl) rfl rfl (fun _ => ?_) hst hg
  unfold F_X6_bestBerth at hr
  refine mb_aload_n (pn := 1) 0 dX6_bestBerth_0 rfl rfl rfl ?_
  refine mb_aload_n (pn := 2) 0 dX6_bestBerth_1 rfl rfl rfl ?_
  refine mb_iload_n (pn := 3) 1 dX6_bestBerth_2 rfl rfl rfl ?_
  refine cl_X6_161 (pn := 6) hst hg (Nat.le_of_ble_eq_true rfl) (Nat.le_of_ble_eq_true rfl) dX6_bestBerth_3 rfl hr (fun y102 h101 hr => ?_)
  refine mb_if_eq (tgt := 13) (pn := 9) dX6_bestBerth_6 (by decide) rfl hr (fun hr => ?_) (fun hr => ?_)
  · refine mb_iconst (v := 1) (pn := 14) dX6_bestBerth_13 (by decide) rfl ?_
    exact mb_lvs [0, 1] rfl (T_X6_bestBerth_14 hst hg  hr)
  · refine mb_iconst (v := 0) (pn := 10) dX6_bestBerth_9 (by decide) rfl ?_
    refine mb_goto (tgt := 14) dX6_bestBerth_10 (by decide) ?_
    exact mb_lvs [0, 1] rfl (T_X6_bestBerth_14 hst hg  hr)
set_option maxRecDepth 100000 in
set_option maxHeartbeats 4000000 in
theorem cl_X6_194 {l : Launch} {G : mb_G} {cc : ByteArray} {nL : Nat} {ret : Option FieldType} {d pc pn : Nat} {lv : List (Nat × mb_AV)} {st : List mb_AV} {h : mb_AH} {res : mb_RS} (hst : l.stackTraces = false) (hg : mb_gok G)  {K : mb_AH → Option mb_RS} (hd2 : 0 + 1 ≤ d) (hs4 : st.length ≤ 4) (dg : decode cc pc = .ok (.invokevirtual 194, 3)) (hn : pc + 3 = pn) (hr : mb_cV (F_X6_keeps  h) K = some res) (kk : ∀ (h2 : mb_AH), K h2 = some res → mb_Ev l G RX6 cc nL ret d pn lv st h2 res) : mb_Ev l G RX6 cc nL ret d pc lv (mb_F 6 0 0 :: st) h res := mb_kVV (as := []) (n := 0) (d2 := 0) (ci := 6) (fun _ hf => C_X6_keeps hst hg hf) (mb_gV wl_X6_194 mi_X6_keeps ms_X6_keeps mn_X6 mc_X6_keeps) (by decide +kernel) rfl rfl rfl hd2 (by decide) hs4 rfl dg hn hr kk
set_option maxRecDepth 100000 in
set_option maxHeartbeats 4000000 in
theorem cl_X6_200 {l : Launch} {G : mb_G} {cc : ByteArray} {nL : Nat} {ret : Option FieldType} {d pc pn : Nat} {lv : List (Nat × mb_AV)} {st : List mb_AV} {h : mb_AH} {res : mb_RS} (hst : l.stackTraces = false) (hg : mb_gok G)  {K : mb_AH → Option mb_RS} (hd2 : 0 + 1 ≤ d) (hs4 : st.length ≤ 4) (dg : decode cc pc = .ok (.invokevirtual 200, 3)) (hn : pc + 3 = pn) (hr : mb_cV (F_X6_returns  h) K = some res) (kk : ∀ (h2 : mb_AH), K h2 = some res → mb_Ev l G RX6 cc nL ret d pn lv st h2 res) : mb_Ev l G RX6 cc nL ret d pc lv (mb_F 6 0 0 :: st) h res := mb_kVV (as := []) (n := 0) (d2 := 0) (ci := 6) (fun _ hf => C_X6_returns hst hg hf) (mb_gV wl_X6_200 mi_X6_returns ms_X6_returns mn_X6 mc_X6_returns) (by decide +kernel) rfl rfl rfl hd2 (by decide) hs4 rfl dg hn hr kk
def B_X6_pass_74  : Nat → Int32 → Int32 → mb_AH → Option mb_RS
  | 0, _, _, _ => none
  | n + 1, v2, v3, h => (if 270 ≤ v3 then (mb_cV (F_X6_saves h) fun h106 => (mb_cV (F_X6_returns h106) fun h107 => (some (.inl (some (.inl v2)), h107)))) else (mb_gB v3 270 (mb_lI (h.1 20 0 0 v3.toNatClampNeg) fun y108 => (mb_gB v3 270 (mb_gB v3 270 (mb_up (mb_sI h 20 0 0 v3.toNatClampNeg (h.1 22 0 0 v3.toNatClampNeg)) fun h109 => (mb_gB v3 270 (mb_up (mb_sI h109 22 0 0 v3.toNatClampNeg y108) fun h110 => (mb_lI (v3 + 1) fun y111 => ((B_X6_pass_74  n) v2 y111 h110))))))))))
set_option maxRecDepth 100000 in
set_option maxHeartbeats 4000000 in
theorem T_X6_pass_74 {l : Launch} {G : mb_G} {res : mb_RS} (hst : l.stackTraces = false) (hg : mb_gok G)   : ∀ (n : Nat) (v2 : Int32) (v3 : Int32) (h : mb_AH), B_X6_pass_74  n v2 v3 h = some res → mb_Ev l G RX6 cX6_pass 5 (some .int) 7 74 [(0, mb_F 6 0 0), (2, .inl v2), (3, .inl v3)] [] h res := by
  intro n
  induction n with
  | zero => intro v2 v3 h hr; cases hr
  | succ n ih =>
    intro v2 v3 h hr
    rw [B_X6_pass_74] at hr
    refine mb_iload_n (pn := 75) 2 dX6_pass_74 rfl rfl rfl ?_
    refine mb_sipush (v := 270) (pn := 78) dX6_pass_75 (by decide) rfl ?_
    refine mb_ic_ge (tgt := 115) (pn := 81) dX6_pass_78 (by decide) rfl hr (fun hr => ?_) (fun hr => ?_)
    · refine mb_aload_n (pn := 116) 0 dX6_pass_115 rfl rfl rfl ?_
      refine cl_X6_142 (pn := 119) hst hg (Nat.le_of_ble_eq_true rfl) (Nat.le_of_ble_eq_true rfl) dX6_pass_116 rfl hr (fun h106 hr => ?_)
      refine mb_aload_n (pn := 120) 0 dX6_pass_119 rfl rfl rfl ?_
      refine cl_X6_200 (pn := 123) hst hg (Nat.le_of_ble_eq_true rfl) (Nat.le_of_ble_eq_true rfl) dX6_pass_120 rfl hr (fun h107 hr => ?_)
      refine mb_iload_n (pn := 124) 1 dX6_pass_123 rfl rfl rfl ?_
      cases hr
      exact mb_iret dX6_pass_124
    · refine mb_aload_n (pn := 82) 0 dX6_pass_81 rfl rfl rfl ?_
      refine gf_X6_7 (pn := 85) dX6_pass_82 rfl ?_
      refine mb_iload_n (pn := 86) 2 dX6_pass_85 rfl rfl rfl ?_
      refine mb_iald (pn := 87) (n := 270) rfl dX6_pass_86 rfl hr (fun hr => ?_)
      refine mb_nmI hr (fun y108 hr => ?_)
      refine mb_istore (pn := 89) (lv2 := [(4, .inl y108), (0, mb_F 6 0 0), (2, .inl v2), (3, .inl v3)]) dX6_pass_87 (by decide) rfl rfl ?_
      refine mb_aload_n (pn := 90) 1 dX6_pass_89 rfl rfl rfl ?_
      refine gf_X6_7 (pn := 93) dX6_pass_90 rfl ?_
      refine mb_iload_n (pn := 94) 3 dX6_pass_93 rfl rfl rfl ?_
      refine mb_aload_n (pn := 95) 1 dX6_pass_94 rfl rfl rfl ?_
      refine gf_X6_16 (pn := 98) dX6_pass_95 rfl ?_
      refine mb_iload_n (pn := 99) 3 dX6_pass_98 rfl rfl rfl ?_
      refine mb_iald (pn := 100) (n := 270) rfl dX6_pass_99 rfl hr (fun hr => ?_)
      refine mb_iast (pn := 101) (n := 270) rfl rfl dX6_pass_100 rfl hr (fun hr => ?_)
      refine mb_nmh hr (fun h109 hr => ?_)
      refine mb_aload_n (pn := 102) 1 dX6_pass_101 rfl rfl rfl ?_
      refine gf_X6_16 (pn := 105) dX6_pass_102 rfl ?_
      refine mb_iload_n (pn := 106) 3 dX6_pass_105 rfl rfl rfl ?_
      refine mb_iload (pn := 108) 0 dX6_pass_106 rfl rfl ?_
      refine mb_iast (pn := 109) (n := 270) rfl rfl dX6_pass_108 rfl hr (fun hr => ?_)
      refine mb_nmh hr (fun h110 hr => ?_)
      refine mb_nmx hr (fun y111 qy111 hr => ?_)
      refine mb_iinc (v := y111) (pn := 112) (lv2 := [(3, .inl y111), (4, .inl y108), (0, mb_F 6 0 0), (2, .inl v2)]) 3 dX6_pass_109 rfl (by rw [qy111]; rfl) (by decide) rfl rfl ?_
      refine mb_goto (tgt := 74) dX6_pass_112 (by decide) ?_
      exact mb_lvs [2, 3, 0] rfl (ih _ _ _ hr)
set_option maxRecDepth 100000 in
set_option maxHeartbeats 4000000 in
theorem cl_X6_197 {l : Launch} {G : mb_G} {cc : ByteArray} {nL : Nat} {ret : Option FieldType} {d pc pn : Nat} {lv : List (Nat × mb_AV)} {st : List mb_AV} {h : mb_AH} {res : mb_RS} (hst : l.stackTraces = false) (hg : mb_gok G)  {K : Int32 → mb_AH → Option mb_RS} (hd2 : 6 + 1 ≤ d) (hs4 : st.length ≤ 4) (dg : decode cc pc = .ok (.invokevirtual 197, 3)) (hn : pc + 3 = pn) (hr : mb_cI (F_X6_passes  h) K = some res) (kk : ∀ (x : Int32) (h2 : mb_AH), K x h2 = some res → mb_Ev l G RX6 cc nL ret d pn lv (.inl x :: st) h2 res) : mb_Ev l G RX6 cc nL ret d pc lv (mb_F 6 0 0 :: st) h res := mb_kVI (as := []) (n := 0) (d2 := 6) (ci := 6) (fun _ hf => C_X6_passes hst hg hf) (mb_gV wl_X6_197 mi_X6_passes ms_X6_passes mn_X6 mc_X6_passes) (by decide +kernel) rfl rfl rfl hd2 (by decide) hs4 rfl dg hn hr kk
def B_X6_pass_33  : Nat → Int32 → Int32 → Int32 → mb_AH → Option mb_RS
  | 0, _, _, _, _ => none
  | n + 1, v1, v2, v3, h => (if v1 ≤ v3 then (B_X6_pass_74  mb_fu v2 0 h) else (mb_cI (F_X6_passes h) fun y113 h112 => (if y113 = (-1) then (mb_cV (F_X6_returns h112) fun h116 => (mb_up (mb_sI h116 6 0 0 4 2) fun h117 => (some (.inl (some (.inl 0)), h117)))) else (mb_lI (v2 + y113) fun y114 => (mb_lI (v3 + 1) fun y115 => ((B_X6_pass_33  n) v1 y114 y115 h112))))))
set_option maxRecDepth 100000 in
set_option maxHeartbeats 4000000 in
theorem T_X6_pass_33 {l : Launch} {G : mb_G} {res : mb_RS} (hst : l.stackTraces = false) (hg : mb_gok G)   : ∀ (n : Nat) (v1 : Int32) (v2 : Int32) (v3 : Int32) (h : mb_AH), B_X6_pass_33  n v1 v2 v3 h = some res → mb_Ev l G RX6 cX6_pass 5 (some .int) 7 33 [(0, mb_F 6 0 0), (1, .inl v1), (2, .inl v2), (3, .inl v3)] [] h res := by
  intro n
  induction n with
  | zero => intro v1 v2 v3 h hr; cases hr
  | succ n ih =>
    intro v1 v2 v3 h hr
    rw [B_X6_pass_33] at hr
    refine mb_iload_n (pn := 34) 3 dX6_pass_33 rfl rfl rfl ?_
    refine mb_iload_n (pn := 35) 1 dX6_pass_34 rfl rfl rfl ?_
    refine mb_ic_ge (tgt := 72) (pn := 38) dX6_pass_35 (by decide) rfl hr (fun hr => ?_) (fun hr => ?_)
    · refine mb_iconst (v := 0) (pn := 73) dX6_pass_72 (by decide) rfl ?_
      refine mb_istore_n (pn := 74) (lv2 := [(3, .inl 0), (0, mb_F 6 0 0), (1, .inl v1), (2, .inl v2)]) dX6_pass_73 rfl (by decide) rfl rfl ?_
      exact mb_lvs [1, 3, 0] rfl (T_X6_pass_74 hst hg  mb_fu _ _ _ hr)
    · refine mb_aload_n (pn := 39) 0 dX6_pass_38 rfl rfl rfl ?_
      refine cl_X6_197 (pn := 42) hst hg (Nat.le_of_ble_eq_true rfl) (Nat.le_of_ble_eq_true rfl) dX6_pass_39 rfl hr (fun y113 h112 hr => ?_)
      refine mb_istore (pn := 44) (lv2 := [(4, .inl y113), (0, mb_F 6 0 0), (1, .inl v1), (2, .inl v2), (3, .inl v3)]) dX6_pass_42 (by decide) rfl rfl ?_
      refine mb_iload (pn := 46) 0 dX6_pass_44 rfl rfl ?_
      refine mb_iconst (v := (-1)) (pn := 47) dX6_pass_46 (by decide) rfl ?_
      refine mb_ic_ne (tgt := 61) (pn := 50) dX6_pass_47 (by decide) rfl hr (fun hr => ?_) (fun hr => ?_)
      · refine mb_iload_n (pn := 62) 3 dX6_pass_61 rfl rfl rfl ?_
        refine mb_iload (pn := 64) 0 dX6_pass_62 rfl rfl ?_
        refine mb_iadd (pn := 65) dX6_pass_64 rfl ?_
        refine mb_nmI hr (fun y114 hr => ?_)
        refine mb_istore_n (pn := 66) (lv2 := [(2, .inl y114), (4, .inl y113), (0, mb_F 6 0 0), (1, .inl v1), (3, .inl v3)]) dX6_pass_65 rfl (by decide) rfl rfl ?_
        refine mb_nmx hr (fun y115 qy115 hr => ?_)
        refine mb_iinc (v := y115) (pn := 69) (lv2 := [(3, .inl y115), (2, .inl y114), (4, .inl y113), (0, mb_F 6 0 0), (1, .inl v1)]) 4 dX6_pass_66 rfl (by rw [qy115]; rfl) (by decide) rfl rfl ?_
        refine mb_goto (tgt := 33) dX6_pass_69 (by decide) ?_
        exact mb_lvs [3, 4, 1, 0] rfl (ih _ _ _ _ hr)
      · refine mb_aload_n (pn := 51) 1 dX6_pass_50 rfl rfl rfl ?_
        refine cl_X6_200 (pn := 54) hst hg (Nat.le_of_ble_eq_true rfl) (Nat.le_of_ble_eq_true rfl) dX6_pass_51 rfl hr (fun h116 hr => ?_)
        refine mb_aload_n (pn := 55) 1 dX6_pass_54 rfl rfl rfl ?_
        refine mb_iconst (v := 2) (pn := 56) dX6_pass_55 (by decide) rfl ?_
        refine pf_X6_35 (pn := 59) dX6_pass_56 rfl hr (fun h117 hr => ?_)
        refine mb_iconst (v := 0) (pn := 60) dX6_pass_59 (by decide) rfl ?_
        cases hr
        exact mb_iret dX6_pass_60
def B_X6_pass_17  (v1 : Int32) (s0 : Int32) (h : mb_AH) : Option mb_RS := (mb_cI (F_X6_refused s0 h) fun y104 h103 => (if y104 = 0 then (mb_cV (F_X6_keeps h103) fun h105 => (B_X6_pass_33  mb_fu v1 0 0 h105)) else (some (.inl (some (.inl 0)), h103))))
set_option maxRecDepth 100000 in
set_option maxHeartbeats 4000000 in
theorem T_X6_pass_17 {l : Launch} {G : mb_G} {res : mb_RS} (hst : l.stackTraces = false) (hg : mb_gok G)   {v1 : Int32} {s0 : Int32} {h : mb_AH} (hr : B_X6_pass_17  v1 s0 h = some res) : mb_Ev l G RX6 cX6_pass 5 (some .int) 7 17 [(0, mb_F 6 0 0), (1, .inl v1)] [.inl s0, mb_F 6 0 0] h res := by
  unfold B_X6_pass_17 at hr
  refine cl_X6_42 (pn := 20) hst hg (Nat.le_of_ble_eq_true rfl) (Nat.le_of_ble_eq_true rfl) dX6_pass_17 rfl hr (fun y104 h103 hr => ?_)
  refine mb_if_eq (tgt := 25) (pn := 23) dX6_pass_20 (by decide) rfl hr (fun hr => ?_) (fun hr => ?_)
  · refine mb_aload_n (pn := 26) 0 dX6_pass_25 rfl rfl rfl ?_
    refine cl_X6_194 (pn := 29) hst hg (Nat.le_of_ble_eq_true rfl) (Nat.le_of_ble_eq_true rfl) dX6_pass_26 rfl hr (fun h105 hr => ?_)
    refine mb_iconst (v := 0) (pn := 30) dX6_pass_29 (by decide) rfl ?_
    refine mb_istore_n (pn := 31) (lv2 := [(2, .inl 0), (0, mb_F 6 0 0), (1, .inl v1)]) dX6_pass_30 rfl (by decide) rfl rfl ?_
    refine mb_iconst (v := 0) (pn := 32) dX6_pass_31 (by decide) rfl ?_
    refine mb_istore_n (pn := 33) (lv2 := [(3, .inl 0), (2, .inl 0), (0, mb_F 6 0 0), (1, .inl v1)]) dX6_pass_32 rfl (by decide) rfl rfl ?_
    exact mb_lvs [2, 3, 1, 0] rfl (T_X6_pass_33 hst hg  mb_fu _ _ _ _ hr)
  · refine mb_iconst (v := 0) (pn := 24) dX6_pass_23 (by decide) rfl ?_
    cases hr
    exact mb_iret dX6_pass_24
def F_X6_pass (x1 : Int32) (h : mb_AH) : Option mb_RS := (mb_cI (F_X6_within x1 (1 : Int32) (400 : Int32) h) fun y102 h101 => (if y102 = 0 then (B_X6_pass_17  x1 1 h101) else (B_X6_pass_17  x1 0 h101)))
set_option maxRecDepth 100000 in
set_option maxHeartbeats 4000000 in
theorem C_X6_pass {l : Launch} {G : mb_G} (hst : l.stackTraces = false) (hg : mb_gok G) {x1 : Int32} {h : mb_AH} {res : mb_RS} (hr : F_X6_pass x1 h = some res) : mb_Mt l G yX6_pass cX6_pass 5 (some .int) 7 [mb_F 6 0 0, .inl x1] h res := by
  refine mb_entry (own := RX6) (lv := [(0, mb_F 6 0 0), (1, .inl x1)]) (by decide +kernel) rfl (Nat.le_of_ble_eq_true rfl) rfl rfl (fun _ => ?_) hst hg
  unfold F_X6_pass at hr
  refine mb_aload_n (pn := 1) 0 dX6_pass_0 rfl rfl rfl ?_
  refine mb_iload_n (pn := 2) 1 dX6_pass_1 rfl rfl rfl ?_
  refine mb_iconst (v := 1) (pn := 3) dX6_pass_2 (by decide) rfl ?_
  refine mb_sipush (v := 400) (pn := 6) dX6_pass_3 (by decide) rfl ?_
  refine cl_X6_46 (pn := 9) hst hg (Nat.le_of_ble_eq_true rfl) (Nat.le_of_ble_eq_true rfl) dX6_pass_6 rfl hr (fun y102 h101 hr => ?_)
  refine mb_if_eq (tgt := 16) (pn := 12) dX6_pass_9 (by decide) rfl hr (fun hr => ?_) (fun hr => ?_)
  · refine mb_iconst (v := 1) (pn := 17) dX6_pass_16 (by decide) rfl ?_
    exact mb_lvs [0, 1] rfl (T_X6_pass_17 hst hg  hr)
  · refine mb_iconst (v := 0) (pn := 13) dX6_pass_12 (by decide) rfl ?_
    refine mb_goto (tgt := 17) dX6_pass_13 (by decide) ?_
    exact mb_lvs [0, 1] rfl (T_X6_pass_17 hst hg  hr)
def F_X6_paidNow  (h : mb_AH) : Option mb_RS := (mb_gB 10 270 (mb_gB 11 270 (some (.inl (some (.inr (.inl ((((h.1 20 0 0 (10 : Int32).toNatClampNeg).toInt64) * 1000000000) + ((h.1 20 0 0 (11 : Int32).toNatClampNeg).toInt64))))), h))))
set_option maxRecDepth 100000 in
set_option maxHeartbeats 4000000 in
theorem C_X6_paidNow {l : Launch} {G : mb_G} (hst : l.stackTraces = false) (hg : mb_gok G)  {h : mb_AH} {res : mb_RS} (hr : F_X6_paidNow  h = some res) : mb_Mt l G yX6_paidNow cX6_paidNow 1 (some .long) 0 [mb_F 6 0 0] h res := by
  refine mb_entry (own := RX6) (lv := [(0, mb_F 6 0 0)]) (by decide +kernel) rfl (Nat.le_of_ble_eq_true rfl) rfl rfl (fun _ => ?_) hst hg
  unfold F_X6_paidNow at hr
  refine mb_aload_n (pn := 1) 0 dX6_paidNow_0 rfl rfl rfl ?_
  refine gf_X6_7 (pn := 4) dX6_paidNow_1 rfl ?_
  refine mb_bipush (v := 10) (pn := 6) dX6_paidNow_4 (by decide) rfl ?_
  refine mb_iald (pn := 7) (n := 270) rfl dX6_paidNow_6 rfl hr (fun hr => ?_)
  refine mb_i2l (pn := 8) dX6_paidNow_7 rfl ?_
  refine mb_ldc2 (v := 1000000000) (pn := 11) wk_X6_207 dX6_paidNow_8 rfl ?_
  refine mb_lmul (pn := 12) dX6_paidNow_11 rfl ?_
  refine mb_aload_n (pn := 13) 0 dX6_paidNow_12 rfl rfl rfl ?_
  refine gf_X6_7 (pn := 16) dX6_paidNow_13 rfl ?_
  refine mb_bipush (v := 11) (pn := 18) dX6_paidNow_16 (by decide) rfl ?_
  refine mb_iald (pn := 19) (n := 270) rfl dX6_paidNow_18 rfl hr (fun hr => ?_)
  refine mb_i2l (pn := 20) dX6_paidNow_19 rfl ?_
  refine mb_ladd (pn := 21) dX6_paidNow_20 rfl ?_
  cases hr
  exact mb_lret dX6_paidNow_21
set_option maxRecDepth 100000 in
set_option maxHeartbeats 4000000 in
theorem cl_X6_203 {l : Launch} {G : mb_G} {cc : ByteArray} {nL : Nat} {ret : Option FieldType} {d pc pn : Nat} {lv : List (Nat × mb_AV)} {st : List mb_AV} {h : mb_AH} {res : mb_RS} (hst : l.stackTraces = false) (hg : mb_gok G)  {K : Int64 → mb_AH → Option mb_RS} (hd2 : 0 + 1 ≤ d) (hs4 : st.length ≤ 4) (dg : decode cc pc = .ok (.invokevirtual 203, 3)) (hn : pc + 3 = pn) (hr : mb_cL (F_X6_paidNow  h) K = some res) (kk : ∀ (x : Int64) (h2 : mb_AH), K x h2 = some res → mb_Ev l G RX6 cc nL ret d pn lv (.inr (.inl x) :: st) h2 res) : mb_Ev l G RX6 cc nL ret d pc lv (mb_F 6 0 0 :: st) h res := mb_kVL (as := []) (n := 0) (d2 := 0) (ci := 6) (fun _ hf => C_X6_paidNow hst hg hf) (mb_gV wl_X6_203 mi_X6_paidNow ms_X6_paidNow mn_X6 mc_X6_paidNow) (by decide +kernel) rfl rfl rfl hd2 (by decide) hs4 rfl dg hn hr kk
def B_X6_pay_33  (v1 : Int32) (v2 : Int32) (s0 : Int32) (h : mb_AH) : Option mb_RS := (mb_cI (F_X6_refused s0 h) fun y108 h107 => (if y108 = 0 then (mb_cV (F_X6_saves h107) fun h109 => (mb_cI (F_X6_ofBoat v1 (8 : Int32) h109) fun y111 h110 => (mb_cV (F_X6_sets v1 (8 : Int32) (y111 - v2) h110) fun h112 => (mb_cL (F_X6_paidNow h112) fun y114 h113 => (mb_lL (y114 + v2.toInt64) fun y115 => (mb_gL 1000000000 (mb_gB 10 270 (mb_up (mb_sI h113 20 0 0 (10 : Int32).toNatClampNeg ((y115 / 1000000000).toInt32)) fun h116 => (mb_gL 1000000000 (mb_gB 11 270 (mb_up (mb_sI h116 20 0 0 (11 : Int32).toNatClampNeg ((y115 - y115 / 1000000000 * 1000000000).toInt32)) fun h117 => (mb_cI (F_X6_ofBoat v1 (8 : Int32) h117) fun y119 h118 => (some (.inl (some (.inl y119)), h118)))))))))))))) else (some (.inl (some (.inl 0)), h107))))
set_option maxRecDepth 100000 in
set_option maxHeartbeats 4000000 in
theorem T_X6_pay_33 {l : Launch} {G : mb_G} {res : mb_RS} (hst : l.stackTraces = false) (hg : mb_gok G)   {v1 : Int32} {v2 : Int32} {s0 : Int32} {h : mb_AH} (hr : B_X6_pay_33  v1 v2 s0 h = some res) : mb_Ev l G RX6 cX6_pay 5 (some .int) 2 33 [(0, mb_F 6 0 0), (1, .inl v1), (2, .inl v2)] [.inl s0, mb_F 6 0 0] h res := by
  unfold B_X6_pay_33 at hr
  refine cl_X6_42 (pn := 36) hst hg (Nat.le_of_ble_eq_true rfl) (Nat.le_of_ble_eq_true rfl) dX6_pay_33 rfl hr (fun y108 h107 hr => ?_)
  refine mb_if_eq (tgt := 41) (pn := 39) dX6_pay_36 (by decide) rfl hr (fun hr => ?_) (fun hr => ?_)
  · refine mb_aload_n (pn := 42) 0 dX6_pay_41 rfl rfl rfl ?_
    refine cl_X6_142 (pn := 45) hst hg (Nat.le_of_ble_eq_true rfl) (Nat.le_of_ble_eq_true rfl) dX6_pay_42 rfl hr (fun h109 hr => ?_)
    refine mb_aload_n (pn := 46) 0 dX6_pay_45 rfl rfl rfl ?_
    refine mb_iload_n (pn := 47) 1 dX6_pay_46 rfl rfl rfl ?_
    refine mb_bipush (v := 8) (pn := 49) dX6_pay_47 (by decide) rfl ?_
    refine mb_aload_n (pn := 50) 0 dX6_pay_49 rfl rfl rfl ?_
    refine mb_iload_n (pn := 51) 1 dX6_pay_50 rfl rfl rfl ?_
    refine mb_bipush (v := 8) (pn := 53) dX6_pay_51 (by decide) rfl ?_
    refine cl_X6_50 (pn := 56) hst hg (Nat.le_of_ble_eq_true rfl) (Nat.le_of_ble_eq_true rfl) dX6_pay_53 rfl hr (fun y111 h110 hr => ?_)
    refine mb_iload_n (pn := 57) 2 dX6_pay_56 rfl rfl rfl ?_
    refine mb_isub (pn := 58) dX6_pay_57 rfl ?_
    refine cl_X6_75 (pn := 61) hst hg (Nat.le_of_ble_eq_true rfl) (Nat.le_of_ble_eq_true rfl) dX6_pay_58 rfl hr (fun h112 hr => ?_)
    refine mb_aload_n (pn := 62) 0 dX6_pay_61 rfl rfl rfl ?_
    refine cl_X6_203 (pn := 65) hst hg (Nat.le_of_ble_eq_true rfl) (Nat.le_of_ble_eq_true rfl) dX6_pay_62 rfl hr (fun y114 h113 hr => ?_)
    refine mb_iload_n (pn := 66) 2 dX6_pay_65 rfl rfl rfl ?_
    refine mb_i2l (pn := 67) dX6_pay_66 rfl ?_
    refine mb_ladd (pn := 68) dX6_pay_67 rfl ?_
    refine mb_nmL hr (fun y115 hr => ?_)
    refine mb_lstore_n (pn := 69) (lv2 := [(3, .inr (.inl y115)), (0, mb_F 6 0 0), (1, .inl v1), (2, .inl v2)]) dX6_pay_68 rfl (by decide) rfl rfl ?_
    refine mb_aload_n (pn := 70) 1 dX6_pay_69 rfl rfl rfl ?_
    refine gf_X6_7 (pn := 73) dX6_pay_70 rfl ?_
    refine mb_bipush (v := 10) (pn := 75) dX6_pay_73 (by decide) rfl ?_
    refine mb_lload_n (pn := 76) 0 dX6_pay_75 rfl rfl rfl ?_
    refine mb_ldc2 (v := 1000000000) (pn := 79) wk_X6_207 dX6_pay_76 rfl ?_
    refine mb_ldiv (pn := 80) dX6_pay_79 rfl hr (fun hr => ?_)
    refine mb_l2i (pn := 81) dX6_pay_80 rfl ?_
    refine mb_iast (pn := 82) (n := 270) rfl rfl dX6_pay_81 rfl hr (fun hr => ?_)
    refine mb_nmh hr (fun h116 hr => ?_)
    refine mb_aload_n (pn := 83) 1 dX6_pay_82 rfl rfl rfl ?_
    refine gf_X6_7 (pn := 86) dX6_pay_83 rfl ?_
    refine mb_bipush (v := 11) (pn := 88) dX6_pay_86 (by decide) rfl ?_
    refine mb_lload_n (pn := 89) 0 dX6_pay_88 rfl rfl rfl ?_
    refine mb_ldc2 (v := 1000000000) (pn := 92) wk_X6_207 dX6_pay_89 rfl ?_
    refine mb_lrem (pn := 93) dX6_pay_92 rfl hr (fun hr => ?_)
    refine mb_l2i (pn := 94) dX6_pay_93 rfl ?_
    refine mb_iast (pn := 95) (n := 270) rfl rfl dX6_pay_94 rfl hr (fun hr => ?_)
    refine mb_nmh hr (fun h117 hr => ?_)
    refine mb_aload_n (pn := 96) 1 dX6_pay_95 rfl rfl rfl ?_
    refine mb_iload_n (pn := 97) 2 dX6_pay_96 rfl rfl rfl ?_
    refine mb_bipush (v := 8) (pn := 99) dX6_pay_97 (by decide) rfl ?_
    refine cl_X6_50 (pn := 102) hst hg (Nat.le_of_ble_eq_true rfl) (Nat.le_of_ble_eq_true rfl) dX6_pay_99 rfl hr (fun y119 h118 hr => ?_)
    cases hr
    exact mb_iret dX6_pay_102
  · refine mb_iconst (v := 0) (pn := 40) dX6_pay_39 (by decide) rfl ?_
    cases hr
    exact mb_iret dX6_pay_40
def F_X6_pay (x1 : Int32) (x2 : Int32) (h : mb_AH) : Option mb_RS := (mb_cI (F_X6_isBoat x1 h) fun y102 h101 => (if y102 = 0 then (B_X6_pay_33  x1 x2 1 h101) else (mb_cI (F_X6_ofBoat x1 (8 : Int32) h101) fun y104 h103 => (mb_cI (F_X6_within x2 (1 : Int32) y104 h103) fun y106 h105 => (if y106 = 0 then (B_X6_pay_33  x1 x2 2 h105) else (B_X6_pay_33  x1 x2 0 h105))))))
set_option maxRecDepth 100000 in
set_option maxHeartbeats 4000000 in
theorem C_X6_pay {l : Launch} {G : mb_G} (hst : l.stackTraces = false) (hg : mb_gok G) {x1 : Int32} {x2 : Int32} {h : mb_AH} {res : mb_RS} (hr : F_X6_pay x1 x2 h = some res) : mb_Mt l G yX6_pay cX6_pay 5 (some .int) 2 [mb_F 6 0 0, .inl x1, .inl x2] h res := by
  refine mb_entry (own := RX6) (lv := [(0, mb_F 6 0 0), (1, .inl x1), (2, .inl x2)]) (by decide +kernel) rfl (Nat.le_of_ble_eq_true rfl) rfl rfl (fun _ => ?_) hst hg
  unfold F_X6_pay at hr
  refine mb_aload_n (pn := 1) 0 dX6_pay_0 rfl rfl rfl ?_
  refine mb_aload_n (pn := 2) 0 dX6_pay_1 rfl rfl rfl ?_
  refine mb_iload_n (pn := 3) 1 dX6_pay_2 rfl rfl rfl ?_
  refine cl_X6_161 (pn := 6) hst hg (Nat.le_of_ble_eq_true rfl) (Nat.le_of_ble_eq_true rfl) dX6_pay_3 rfl hr (fun y102 h101 hr => ?_)
  refine mb_if_ne (tgt := 13) (pn := 9) dX6_pay_6 (by decide) rfl hr (fun hr => ?_) (fun hr => ?_)
  · refine mb_iload_n (pn := 14) 2 dX6_pay_13 rfl rfl rfl ?_
    refine mb_iconst (v := 1) (pn := 15) dX6_pay_14 (by decide) rfl ?_
    refine mb_aload_n (pn := 16) 0 dX6_pay_15 rfl rfl rfl ?_
    refine mb_iload_n (pn := 17) 1 dX6_pay_16 rfl rfl rfl ?_
    refine mb_bipush (v := 8) (pn := 19) dX6_pay_17 (by decide) rfl ?_
    refine cl_X6_50 (pn := 22) hst hg (Nat.le_of_ble_eq_true rfl) (Nat.le_of_ble_eq_true rfl) dX6_pay_19 rfl hr (fun y104 h103 hr => ?_)
    refine cl_X6_46 (pn := 25) hst hg (Nat.le_of_ble_eq_true rfl) (Nat.le_of_ble_eq_true rfl) dX6_pay_22 rfl hr (fun y106 h105 hr => ?_)
    refine mb_if_ne (tgt := 32) (pn := 28) dX6_pay_25 (by decide) rfl hr (fun hr => ?_) (fun hr => ?_)
    · refine mb_iconst (v := 0) (pn := 33) dX6_pay_32 (by decide) rfl ?_
      exact mb_lvs [0, 1, 2] rfl (T_X6_pay_33 hst hg  hr)
    · refine mb_iconst (v := 2) (pn := 29) dX6_pay_28 (by decide) rfl ?_
      refine mb_goto (tgt := 33) dX6_pay_29 (by decide) ?_
      exact mb_lvs [0, 1, 2] rfl (T_X6_pay_33 hst hg  hr)
  · refine mb_iconst (v := 1) (pn := 10) dX6_pay_9 (by decide) rfl ?_
    refine mb_goto (tgt := 33) dX6_pay_10 (by decide) ?_
    exact mb_lvs [0, 1, 2] rfl (T_X6_pay_33 hst hg  hr)
def B_X6_charge_40  (v1 : Int32) (v2 : Int32) (s0 : Int32) (h : mb_AH) : Option mb_RS := (mb_cI (F_X6_refused s0 h) fun y106 h105 => (if y106 = 0 then (mb_cV (F_X6_saves h105) fun h107 => (mb_cI (F_X6_ofBoat v1 (8 : Int32) h107) fun y109 h108 => (mb_cV (F_X6_sets v1 (8 : Int32) (y109 + v2) h108) fun h110 => (mb_cI (F_X6_ofBoat v1 (8 : Int32) h110) fun y112 h111 => (some (.inl (some (.inl y112)), h111)))))) else (some (.inl (some (.inl 0)), h105))))
set_option maxRecDepth 100000 in
set_option maxHeartbeats 4000000 in
theorem T_X6_charge_40 {l : Launch} {G : mb_G} {res : mb_RS} (hst : l.stackTraces = false) (hg : mb_gok G)   {v1 : Int32} {v2 : Int32} {s0 : Int32} {h : mb_AH} (hr : B_X6_charge_40  v1 v2 s0 h = some res) : mb_Ev l G RX6 cX6_charge 3 (some .int) 2 40 [(0, mb_F 6 0 0), (1, .inl v1), (2, .inl v2)] [.inl s0, mb_F 6 0 0] h res := by
  unfold B_X6_charge_40 at hr
  refine cl_X6_42 (pn := 43) hst hg (Nat.le_of_ble_eq_true rfl) (Nat.le_of_ble_eq_true rfl) dX6_charge_40 rfl hr (fun y106 h105 hr => ?_)
  refine mb_if_eq (tgt := 48) (pn := 46) dX6_charge_43 (by decide) rfl hr (fun hr => ?_) (fun hr => ?_)
  · refine mb_aload_n (pn := 49) 0 dX6_charge_48 rfl rfl rfl ?_
    refine cl_X6_142 (pn := 52) hst hg (Nat.le_of_ble_eq_true rfl) (Nat.le_of_ble_eq_true rfl) dX6_charge_49 rfl hr (fun h107 hr => ?_)
    refine mb_aload_n (pn := 53) 0 dX6_charge_52 rfl rfl rfl ?_
    refine mb_iload_n (pn := 54) 1 dX6_charge_53 rfl rfl rfl ?_
    refine mb_bipush (v := 8) (pn := 56) dX6_charge_54 (by decide) rfl ?_
    refine mb_aload_n (pn := 57) 0 dX6_charge_56 rfl rfl rfl ?_
    refine mb_iload_n (pn := 58) 1 dX6_charge_57 rfl rfl rfl ?_
    refine mb_bipush (v := 8) (pn := 60) dX6_charge_58 (by decide) rfl ?_
    refine cl_X6_50 (pn := 63) hst hg (Nat.le_of_ble_eq_true rfl) (Nat.le_of_ble_eq_true rfl) dX6_charge_60 rfl hr (fun y109 h108 hr => ?_)
    refine mb_iload_n (pn := 64) 2 dX6_charge_63 rfl rfl rfl ?_
    refine mb_iadd (pn := 65) dX6_charge_64 rfl ?_
    refine cl_X6_75 (pn := 68) hst hg (Nat.le_of_ble_eq_true rfl) (Nat.le_of_ble_eq_true rfl) dX6_charge_65 rfl hr (fun h110 hr => ?_)
    refine mb_aload_n (pn := 69) 0 dX6_charge_68 rfl rfl rfl ?_
    refine mb_iload_n (pn := 70) 1 dX6_charge_69 rfl rfl rfl ?_
    refine mb_bipush (v := 8) (pn := 72) dX6_charge_70 (by decide) rfl ?_
    refine cl_X6_50 (pn := 75) hst hg (Nat.le_of_ble_eq_true rfl) (Nat.le_of_ble_eq_true rfl) dX6_charge_72 rfl hr (fun y112 h111 hr => ?_)
    cases hr
    exact mb_iret dX6_charge_75
  · refine mb_iconst (v := 0) (pn := 47) dX6_charge_46 (by decide) rfl ?_
    cases hr
    exact mb_iret dX6_charge_47
def F_X6_charge (x1 : Int32) (x2 : Int32) (h : mb_AH) : Option mb_RS := (mb_cI (F_X6_isBoat x1 h) fun y102 h101 => (if y102 = 0 then (B_X6_charge_40  x1 x2 1 h101) else (if 0 ≤ x2 then (mb_cI (F_X6_ofBoat x1 (8 : Int32) h101) fun y104 h103 => (if x2 ≤ ((2147483647 : Int32) - y104) then (B_X6_charge_40  x1 x2 0 h103) else (B_X6_charge_40  x1 x2 3 h103))) else (B_X6_charge_40  x1 x2 2 h101))))
set_option maxRecDepth 100000 in
set_option maxHeartbeats 4000000 in
theorem C_X6_charge {l : Launch} {G : mb_G} (hst : l.stackTraces = false) (hg : mb_gok G) {x1 : Int32} {x2 : Int32} {h : mb_AH} {res : mb_RS} (hr : F_X6_charge x1 x2 h = some res) : mb_Mt l G yX6_charge cX6_charge 3 (some .int) 2 [mb_F 6 0 0, .inl x1, .inl x2] h res := by
  refine mb_entry (own := RX6) (lv := [(0, mb_F 6 0 0), (1, .inl x1), (2, .inl x2)]) (by decide +kernel) rfl (Nat.le_of_ble_eq_true rfl) rfl rfl (fun _ => ?_) hst hg
  unfold F_X6_charge at hr
  refine mb_aload_n (pn := 1) 0 dX6_charge_0 rfl rfl rfl ?_
  refine mb_aload_n (pn := 2) 0 dX6_charge_1 rfl rfl rfl ?_
  refine mb_iload_n (pn := 3) 1 dX6_charge_2 rfl rfl rfl ?_
  refine cl_X6_161 (pn := 6) hst hg (Nat.le_of_ble_eq_true rfl) (Nat.le_of_ble_eq_true rfl) dX6_charge_3 rfl hr (fun y102 h101 hr => ?_)
  refine mb_if_ne (tgt := 13) (pn := 9) dX6_charge_6 (by decide) rfl hr (fun hr => ?_) (fun hr => ?_)
  · refine mb_iload_n (pn := 14) 2 dX6_charge_13 rfl rfl rfl ?_
    refine mb_if_ge (tgt := 21) (pn := 17) dX6_charge_14 (by decide) rfl hr (fun hr => ?_) (fun hr => ?_)
    · refine mb_iload_n (pn := 22) 2 dX6_charge_21 rfl rfl rfl ?_
      refine mb_ldc (v := 2147483647) (pn := 24) wk_X6_108 dX6_charge_22 rfl ?_
      refine mb_aload_n (pn := 25) 0 dX6_charge_24 rfl rfl rfl ?_
      refine mb_iload_n (pn := 26) 1 dX6_charge_25 rfl rfl rfl ?_
      refine mb_bipush (v := 8) (pn := 28) dX6_charge_26 (by decide) rfl ?_
      refine cl_X6_50 (pn := 31) hst hg (Nat.le_of_ble_eq_true rfl) (Nat.le_of_ble_eq_true rfl) dX6_charge_28 rfl hr (fun y104 h103 hr => ?_)
      refine mb_isub (pn := 32) dX6_charge_31 rfl ?_
      refine mb_ic_le (tgt := 39) (pn := 35) dX6_charge_32 (by decide) rfl hr (fun hr => ?_) (fun hr => ?_)
      · refine mb_iconst (v := 0) (pn := 40) dX6_charge_39 (by decide) rfl ?_
        exact mb_lvs [0, 1, 2] rfl (T_X6_charge_40 hst hg  hr)
      · refine mb_iconst (v := 3) (pn := 36) dX6_charge_35 (by decide) rfl ?_
        refine mb_goto (tgt := 40) dX6_charge_36 (by decide) ?_
        exact mb_lvs [0, 1, 2] rfl (T_X6_charge_40 hst hg  hr)
    · refine mb_iconst (v := 2) (pn := 18) dX6_charge_17 (by decide) rfl ?_
      refine mb_goto (tgt := 40) dX6_charge_18 (by decide) ?_
      exact mb_lvs [0, 1, 2] rfl (T_X6_charge_40 hst hg  hr)
  · refine mb_iconst (v := 1) (pn := 10) dX6_charge_9 (by decide) rfl ?_
    refine mb_goto (tgt := 40) dX6_charge_10 (by decide) ?_
    exact mb_lvs [0, 1, 2] rfl (T_X6_charge_40 hst hg  hr)
def B_X6_owedNow_4  : Nat → Int64 → Int32 → mb_AH → Option mb_RS
  | 0, _, _, _ => none
  | n + 1, v1, v3, h => (mb_gB 7 270 (if (h.1 20 0 0 (7 : Int32).toNatClampNeg) ≤ v3 then (some (.inl (some (.inr (.inl v1))), h)) else (mb_cI (F_X6_ofBoat v3 (8 : Int32) h) fun y102 h101 => (mb_lL (v1 + y102.toInt64) fun y103 => (mb_lI (v3 + 1) fun y104 => ((B_X6_owedNow_4  n) y103 y104 h101))))))
set_option maxRecDepth 100000 in
set_option maxHeartbeats 4000000 in
theorem T_X6_owedNow_4 {l : Launch} {G : mb_G} {res : mb_RS} (hst : l.stackTraces = false) (hg : mb_gok G)   : ∀ (n : Nat) (v1 : Int64) (v3 : Int32) (h : mb_AH), B_X6_owedNow_4  n v1 v3 h = some res → mb_Ev l G RX6 cX6_owedNow 4 (some .long) 1 4 [(0, mb_F 6 0 0), (1, .inr (.inl v1)), (3, .inl v3)] [] h res := by
  intro n
  induction n with
  | zero => intro v1 v3 h hr; cases hr
  | succ n ih =>
    intro v1 v3 h hr
    rw [B_X6_owedNow_4] at hr
    refine mb_iload_n (pn := 5) 2 dX6_owedNow_4 rfl rfl rfl ?_
    refine mb_aload_n (pn := 6) 0 dX6_owedNow_5 rfl rfl rfl ?_
    refine gf_X6_7 (pn := 9) dX6_owedNow_6 rfl ?_
    refine mb_bipush (v := 7) (pn := 11) dX6_owedNow_9 (by decide) rfl ?_
    refine mb_iald (pn := 12) (n := 270) rfl dX6_owedNow_11 rfl hr (fun hr => ?_)
    refine mb_ic_ge (tgt := 32) (pn := 15) dX6_owedNow_12 (by decide) rfl hr (fun hr => ?_) (fun hr => ?_)
    · refine mb_lload_n (pn := 33) 1 dX6_owedNow_32 rfl rfl rfl ?_
      cases hr
      exact mb_lret dX6_owedNow_33
    · refine mb_lload_n (pn := 16) 1 dX6_owedNow_15 rfl rfl rfl ?_
      refine mb_aload_n (pn := 17) 0 dX6_owedNow_16 rfl rfl rfl ?_
      refine mb_iload_n (pn := 18) 2 dX6_owedNow_17 rfl rfl rfl ?_
      refine mb_bipush (v := 8) (pn := 20) dX6_owedNow_18 (by decide) rfl ?_
      refine cl_X6_50 (pn := 23) hst hg (Nat.le_of_ble_eq_true rfl) (Nat.le_of_ble_eq_true rfl) dX6_owedNow_20 rfl hr (fun y102 h101 hr => ?_)
      refine mb_i2l (pn := 24) dX6_owedNow_23 rfl ?_
      refine mb_ladd (pn := 25) dX6_owedNow_24 rfl ?_
      refine mb_nmL hr (fun y103 hr => ?_)
      refine mb_lstore_n (pn := 26) (lv2 := [(1, .inr (.inl y103)), (0, mb_F 6 0 0), (3, .inl v3)]) dX6_owedNow_25 rfl (by decide) rfl rfl ?_
      refine mb_nmx hr (fun y104 qy104 hr => ?_)
      refine mb_iinc (v := y104) (pn := 29) (lv2 := [(3, .inl y104), (1, .inr (.inl y103)), (0, mb_F 6 0 0)]) 2 dX6_owedNow_26 rfl (by rw [qy104]; rfl) (by decide) rfl rfl ?_
      refine mb_goto (tgt := 4) dX6_owedNow_29 (by decide) ?_
      exact mb_lvs [2, 1, 0] rfl (ih _ _ _ hr)
def F_X6_owedNow  (h : mb_AH) : Option mb_RS := (B_X6_owedNow_4  mb_fu 0 0 h)
set_option maxRecDepth 100000 in
set_option maxHeartbeats 4000000 in
theorem C_X6_owedNow {l : Launch} {G : mb_G} (hst : l.stackTraces = false) (hg : mb_gok G)  {h : mb_AH} {res : mb_RS} (hr : F_X6_owedNow  h = some res) : mb_Mt l G yX6_owedNow cX6_owedNow 4 (some .long) 1 [mb_F 6 0 0] h res := by
  refine mb_entry (own := RX6) (lv := [(0, mb_F 6 0 0)]) (by decide +kernel) rfl (Nat.le_of_ble_eq_true rfl) rfl rfl (fun _ => ?_) hst hg
  unfold F_X6_owedNow at hr
  refine mb_lconst (v := 0) (pn := 1) dX6_owedNow_0 (by decide) rfl ?_
  refine mb_lstore_n (pn := 2) (lv2 := [(1, .inr (.inl 0)), (0, mb_F 6 0 0)]) dX6_owedNow_1 rfl (by decide) rfl rfl ?_
  refine mb_iconst (v := 0) (pn := 3) dX6_owedNow_2 (by decide) rfl ?_
  refine mb_istore_n (pn := 4) (lv2 := [(3, .inl 0), (1, .inr (.inl 0)), (0, mb_F 6 0 0)]) dX6_owedNow_3 rfl (by decide) rfl rfl ?_
  exact mb_lvs [2, 1, 0] rfl (T_X6_owedNow_4 hst hg  mb_fu _ _ _ hr)
set_option maxRecDepth 100000 in
set_option maxHeartbeats 4000000 in
theorem cl_X6_209 {l : Launch} {G : mb_G} {cc : ByteArray} {nL : Nat} {ret : Option FieldType} {d pc pn : Nat} {lv : List (Nat × mb_AV)} {st : List mb_AV} {h : mb_AH} {res : mb_RS} (hst : l.stackTraces = false) (hg : mb_gok G)  {K : Int64 → mb_AH → Option mb_RS} (hd2 : 1 + 1 ≤ d) (hs4 : st.length ≤ 4) (dg : decode cc pc = .ok (.invokevirtual 209, 3)) (hn : pc + 3 = pn) (hr : mb_cL (F_X6_owedNow  h) K = some res) (kk : ∀ (x : Int64) (h2 : mb_AH), K x h2 = some res → mb_Ev l G RX6 cc nL ret d pn lv (.inr (.inl x) :: st) h2 res) : mb_Ev l G RX6 cc nL ret d pc lv (mb_F 6 0 0 :: st) h res := mb_kVL (as := []) (n := 0) (d2 := 1) (ci := 6) (fun _ hf => C_X6_owedNow hst hg hf) (mb_gV wl_X6_209 mi_X6_owedNow ms_X6_owedNow mn_X6 mc_X6_owedNow) (by decide +kernel) rfl rfl rfl hd2 (by decide) hs4 rfl dg hn hr kk
def F_X6_owed  (h : mb_AH) : Option mb_RS := (mb_up (mb_sI h 6 0 0 4 0) fun h101 => (mb_cL (F_X6_owedNow h101) fun y103 h102 => (some (.inl (some (.inr (.inl y103))), h102))))
set_option maxRecDepth 100000 in
set_option maxHeartbeats 4000000 in
theorem C_X6_owed {l : Launch} {G : mb_G} (hst : l.stackTraces = false) (hg : mb_gok G)  {h : mb_AH} {res : mb_RS} (hr : F_X6_owed  h = some res) : mb_Mt l G yX6_owed cX6_owed 1 (some .long) 2 [mb_F 6 0 0] h res := by
  refine mb_entry (own := RX6) (lv := [(0, mb_F 6 0 0)]) (by decide +kernel) rfl (Nat.le_of_ble_eq_true rfl) rfl rfl (fun _ => ?_) hst hg
  unfold F_X6_owed at hr
  refine mb_aload_n (pn := 1) 0 dX6_owed_0 rfl rfl rfl ?_
  refine mb_iconst (v := 0) (pn := 2) dX6_owed_1 (by decide) rfl ?_
  refine pf_X6_35 (pn := 5) dX6_owed_2 rfl hr (fun h101 hr => ?_)
  refine mb_aload_n (pn := 6) 0 dX6_owed_5 rfl rfl rfl ?_
  refine cl_X6_209 (pn := 9) hst hg (Nat.le_of_ble_eq_true rfl) (Nat.le_of_ble_eq_true rfl) dX6_owed_6 rfl hr (fun y103 h102 hr => ?_)
  cases hr
  exact mb_lret dX6_owed_9
def F_X6_paid  (h : mb_AH) : Option mb_RS := (mb_up (mb_sI h 6 0 0 4 0) fun h101 => (mb_cL (F_X6_paidNow h101) fun y103 h102 => (some (.inl (some (.inr (.inl y103))), h102))))
set_option maxRecDepth 100000 in
set_option maxHeartbeats 4000000 in
theorem C_X6_paid {l : Launch} {G : mb_G} (hst : l.stackTraces = false) (hg : mb_gok G)  {h : mb_AH} {res : mb_RS} (hr : F_X6_paid  h = some res) : mb_Mt l G yX6_paid cX6_paid 1 (some .long) 1 [mb_F 6 0 0] h res := by
  refine mb_entry (own := RX6) (lv := [(0, mb_F 6 0 0)]) (by decide +kernel) rfl (Nat.le_of_ble_eq_true rfl) rfl rfl (fun _ => ?_) hst hg
  unfold F_X6_paid at hr
  refine mb_aload_n (pn := 1) 0 dX6_paid_0 rfl rfl rfl ?_
  refine mb_iconst (v := 0) (pn := 2) dX6_paid_1 (by decide) rfl ?_
  refine pf_X6_35 (pn := 5) dX6_paid_2 rfl hr (fun h101 hr => ?_)
  refine mb_aload_n (pn := 6) 0 dX6_paid_5 rfl rfl rfl ?_
  refine cl_X6_203 (pn := 9) hst hg (Nat.le_of_ble_eq_true rfl) (Nat.le_of_ble_eq_true rfl) dX6_paid_6 rfl hr (fun y103 h102 hr => ?_)
  cases hr
  exact mb_lret dX6_paid_9
def B_X6_owesAfter_84  (s0 : Int32) (h : mb_AH) : Option mb_RS := (mb_cV (F_X6_returns h) fun h110 => (some (.inl (some (.inl s0)), h110)))
set_option maxRecDepth 100000 in
set_option maxHeartbeats 4000000 in
theorem T_X6_owesAfter_84 {l : Launch} {G : mb_G} {res : mb_RS} (hst : l.stackTraces = false) (hg : mb_gok G)   {s0 : Int32} {h : mb_AH} (hr : B_X6_owesAfter_84  s0 h = some res) : mb_Ev l G RX6 cX6_owesAfter 5 (some .int) 7 84 [(0, mb_F 6 0 0)] [.inl s0] h res := by
  unfold B_X6_owesAfter_84 at hr
  refine mb_istore (pn := 86) (lv2 := [(4, .inl s0), (0, mb_F 6 0 0)]) dX6_owesAfter_84 (by decide) rfl rfl ?_
  refine mb_aload_n (pn := 87) 1 dX6_owesAfter_86 rfl rfl rfl ?_
  refine cl_X6_200 (pn := 90) hst hg (Nat.le_of_ble_eq_true rfl) (Nat.le_of_ble_eq_true rfl) dX6_owesAfter_87 rfl hr (fun h110 hr => ?_)
  refine mb_iload (pn := 92) 0 dX6_owesAfter_90 rfl rfl ?_
  cases hr
  exact mb_iret dX6_owesAfter_92
def B_X6_owesAfter_68  (v1 : Int32) (v3 : Int32) (h : mb_AH) : Option mb_RS := (if v3 = (-1) then (B_X6_owesAfter_84  (-1) h) else (mb_cI (F_X6_ofBoat v1 (8 : Int32) h) fun y109 h108 => (B_X6_owesAfter_84  y109 h108)))
set_option maxRecDepth 100000 in
set_option maxHeartbeats 4000000 in
theorem T_X6_owesAfter_68 {l : Launch} {G : mb_G} {res : mb_RS} (hst : l.stackTraces = false) (hg : mb_gok G)   {v1 : Int32} {v3 : Int32} {h : mb_AH} (hr : B_X6_owesAfter_68  v1 v3 h = some res) : mb_Ev l G RX6 cX6_owesAfter 5 (some .int) 7 68 [(0, mb_F 6 0 0), (1, .inl v1), (3, .inl v3)] [] h res := by
  unfold B_X6_owesAfter_68 at hr
  refine mb_iload_n (pn := 69) 2 dX6_owesAfter_68 rfl rfl rfl ?_
  refine mb_iconst (v := (-1)) (pn := 70) dX6_owesAfter_69 (by decide) rfl ?_
  refine mb_ic_ne (tgt := 77) (pn := 73) dX6_owesAfter_70 (by decide) rfl hr (fun hr => ?_) (fun hr => ?_)
  · refine mb_aload_n (pn := 78) 0 dX6_owesAfter_77 rfl rfl rfl ?_
    refine mb_iload_n (pn := 79) 1 dX6_owesAfter_78 rfl rfl rfl ?_
    refine mb_bipush (v := 8) (pn := 81) dX6_owesAfter_79 (by decide) rfl ?_
    refine cl_X6_50 (pn := 84) hst hg (Nat.le_of_ble_eq_true rfl) (Nat.le_of_ble_eq_true rfl) dX6_owesAfter_81 rfl hr (fun y109 h108 hr => ?_)
    exact mb_lvs [0] rfl (T_X6_owesAfter_84 hst hg  hr)
  · refine mb_iconst (v := (-1)) (pn := 74) dX6_owesAfter_73 (by decide) rfl ?_
    refine mb_goto (tgt := 84) dX6_owesAfter_74 (by decide) ?_
    exact mb_lvs [0] rfl (T_X6_owesAfter_84 hst hg  hr)
def B_X6_owesAfter_46  : Nat → Int32 → Int32 → Int32 → Int32 → mb_AH → Option mb_RS
  | 0, _, _, _, _, _ => none
  | n + 1, v1, v2, v3, v4, h => (if v2 ≤ v4 then (B_X6_owesAfter_68  v1 v3 h) else (if v3 = (-1) then (B_X6_owesAfter_68  v1 v3 h) else (mb_cI (F_X6_passes h) fun y112 h111 => (mb_lI (v4 + 1) fun y113 => ((B_X6_owesAfter_46  n) v1 v2 y112 y113 h111)))))
set_option maxRecDepth 100000 in
set_option maxHeartbeats 4000000 in
theorem T_X6_owesAfter_46 {l : Launch} {G : mb_G} {res : mb_RS} (hst : l.stackTraces = false) (hg : mb_gok G)   : ∀ (n : Nat) (v1 : Int32) (v2 : Int32) (v3 : Int32) (v4 : Int32) (h : mb_AH), B_X6_owesAfter_46  n v1 v2 v3 v4 h = some res → mb_Ev l G RX6 cX6_owesAfter 5 (some .int) 7 46 [(0, mb_F 6 0 0), (1, .inl v1), (2, .inl v2), (3, .inl v3), (4, .inl v4)] [] h res := by
  intro n
  induction n with
  | zero => intro v1 v2 v3 v4 h hr; cases hr
  | succ n ih =>
    intro v1 v2 v3 v4 h hr
    rw [B_X6_owesAfter_46] at hr
    refine mb_iload (pn := 48) 4 dX6_owesAfter_46 rfl rfl ?_
    refine mb_iload_n (pn := 49) 2 dX6_owesAfter_48 rfl rfl rfl ?_
    refine mb_ic_ge (tgt := 68) (pn := 52) dX6_owesAfter_49 (by decide) rfl hr (fun hr => ?_) (fun hr => ?_)
    · exact mb_lvs [0, 1, 3] rfl (T_X6_owesAfter_68 hst hg  hr)
    · refine mb_iload_n (pn := 53) 3 dX6_owesAfter_52 rfl rfl rfl ?_
      refine mb_iconst (v := (-1)) (pn := 54) dX6_owesAfter_53 (by decide) rfl ?_
      refine mb_ic_eq (tgt := 68) (pn := 57) dX6_owesAfter_54 (by decide) rfl hr (fun hr => ?_) (fun hr => ?_)
      · exact mb_lvs [0, 1, 3] rfl (T_X6_owesAfter_68 hst hg  hr)
      · refine mb_aload_n (pn := 58) 0 dX6_owesAfter_57 rfl rfl rfl ?_
        refine cl_X6_197 (pn := 61) hst hg (Nat.le_of_ble_eq_true rfl) (Nat.le_of_ble_eq_true rfl) dX6_owesAfter_58 rfl hr (fun y112 h111 hr => ?_)
        refine mb_istore_n (pn := 62) (lv2 := [(3, .inl y112), (0, mb_F 6 0 0), (1, .inl v1), (2, .inl v2), (4, .inl v4)]) dX6_owesAfter_61 rfl (by decide) rfl rfl ?_
        refine mb_nmx hr (fun y113 qy113 hr => ?_)
        refine mb_iinc (v := y113) (pn := 65) (lv2 := [(4, .inl y113), (3, .inl y112), (0, mb_F 6 0 0), (1, .inl v1), (2, .inl v2)]) 4 dX6_owesAfter_62 rfl (by rw [qy113]; rfl) (by decide) rfl rfl ?_
        refine mb_goto (tgt := 46) dX6_owesAfter_65 (by decide) ?_
        exact mb_lvs [2, 3, 4, 1, 0] rfl (ih _ _ _ _ _ hr)
def B_X6_owesAfter_29  (v1 : Int32) (v2 : Int32) (s0 : Int32) (h : mb_AH) : Option mb_RS := (mb_cI (F_X6_refused s0 h) fun y106 h105 => (if y106 = 0 then (mb_cV (F_X6_keeps h105) fun h107 => (B_X6_owesAfter_46  mb_fu v1 v2 0 0 h107)) else (some (.inl (some (.inl 0)), h105))))
set_option maxRecDepth 100000 in
set_option maxHeartbeats 4000000 in
theorem T_X6_owesAfter_29 {l : Launch} {G : mb_G} {res : mb_RS} (hst : l.stackTraces = false) (hg : mb_gok G)   {v1 : Int32} {v2 : Int32} {s0 : Int32} {h : mb_AH} (hr : B_X6_owesAfter_29  v1 v2 s0 h = some res) : mb_Ev l G RX6 cX6_owesAfter 5 (some .int) 7 29 [(0, mb_F 6 0 0), (1, .inl v1), (2, .inl v2)] [.inl s0, mb_F 6 0 0] h res := by
  unfold B_X6_owesAfter_29 at hr
  refine cl_X6_42 (pn := 32) hst hg (Nat.le_of_ble_eq_true rfl) (Nat.le_of_ble_eq_true rfl) dX6_owesAfter_29 rfl hr (fun y106 h105 hr => ?_)
  refine mb_if_eq (tgt := 37) (pn := 35) dX6_owesAfter_32 (by decide) rfl hr (fun hr => ?_) (fun hr => ?_)
  · refine mb_aload_n (pn := 38) 0 dX6_owesAfter_37 rfl rfl rfl ?_
    refine cl_X6_194 (pn := 41) hst hg (Nat.le_of_ble_eq_true rfl) (Nat.le_of_ble_eq_true rfl) dX6_owesAfter_38 rfl hr (fun h107 hr => ?_)
    refine mb_iconst (v := 0) (pn := 42) dX6_owesAfter_41 (by decide) rfl ?_
    refine mb_istore_n (pn := 43) (lv2 := [(3, .inl 0), (0, mb_F 6 0 0), (1, .inl v1), (2, .inl v2)]) dX6_owesAfter_42 rfl (by decide) rfl rfl ?_
    refine mb_iconst (v := 0) (pn := 44) dX6_owesAfter_43 (by decide) rfl ?_
    refine mb_istore (pn := 46) (lv2 := [(4, .inl 0), (3, .inl 0), (0, mb_F 6 0 0), (1, .inl v1), (2, .inl v2)]) dX6_owesAfter_44 (by decide) rfl rfl ?_
    exact mb_lvs [2, 3, 4, 1, 0] rfl (T_X6_owesAfter_46 hst hg  mb_fu _ _ _ _ _ hr)
  · refine mb_iconst (v := 0) (pn := 36) dX6_owesAfter_35 (by decide) rfl ?_
    cases hr
    exact mb_iret dX6_owesAfter_36
def F_X6_owesAfter (x1 : Int32) (x2 : Int32) (h : mb_AH) : Option mb_RS := (mb_cI (F_X6_isBoat x1 h) fun y102 h101 => (if y102 = 0 then (B_X6_owesAfter_29  x1 x2 1 h101) else (mb_cI (F_X6_within x2 (1 : Int32) (400 : Int32) h101) fun y104 h103 => (if y104 = 0 then (B_X6_owesAfter_29  x1 x2 2 h103) else (B_X6_owesAfter_29  x1 x2 0 h103)))))
set_option maxRecDepth 100000 in
set_option maxHeartbeats 4000000 in
theorem C_X6_owesAfter {l : Launch} {G : mb_G} (hst : l.stackTraces = false) (hg : mb_gok G) {x1 : Int32} {x2 : Int32} {h : mb_AH} {res : mb_RS} (hr : F_X6_owesAfter x1 x2 h = some res) : mb_Mt l G yX6_owesAfter cX6_owesAfter 5 (some .int) 7 [mb_F 6 0 0, .inl x1, .inl x2] h res := by
  refine mb_entry (own := RX6) (lv := [(0, mb_F 6 0 0), (1, .inl x1), (2, .inl x2)]) (by decide +kernel) rfl (Nat.le_of_ble_eq_true rfl) rfl rfl (fun _ => ?_) hst hg
  unfold F_X6_owesAfter at hr
  refine mb_aload_n (pn := 1) 0 dX6_owesAfter_0 rfl rfl rfl ?_
  refine mb_aload_n (pn := 2) 0 dX6_owesAfter_1 rfl rfl rfl ?_
  refine mb_iload_n (pn := 3) 1 dX6_owesAfter_2 rfl rfl rfl ?_
  refine cl_X6_161 (pn := 6) hst hg (Nat.le_of_ble_eq_true rfl) (Nat.le_of_ble_eq_true rfl) dX6_owesAfter_3 rfl hr (fun y102 h101 hr => ?_)
  refine mb_if_ne (tgt := 13) (pn := 9) dX6_owesAfter_6 (by decide) rfl hr (fun hr => ?_) (fun hr => ?_)
  · refine mb_iload_n (pn := 14) 2 dX6_owesAfter_13 rfl rfl rfl ?_
    refine mb_iconst (v := 1) (pn := 15) dX6_owesAfter_14 (by decide) rfl ?_
    refine mb_sipush (v := 400) (pn := 18) dX6_owesAfter_15 (by decide) rfl ?_
    refine cl_X6_46 (pn := 21) hst hg (Nat.le_of_ble_eq_true rfl) (Nat.le_of_ble_eq_true rfl) dX6_owesAfter_18 rfl hr (fun y104 h103 hr => ?_)
    refine mb_if_ne (tgt := 28) (pn := 24) dX6_owesAfter_21 (by decide) rfl hr (fun hr => ?_) (fun hr => ?_)
    · refine mb_iconst (v := 0) (pn := 29) dX6_owesAfter_28 (by decide) rfl ?_
      exact mb_lvs [0, 1, 2] rfl (T_X6_owesAfter_29 hst hg  hr)
    · refine mb_iconst (v := 2) (pn := 25) dX6_owesAfter_24 (by decide) rfl ?_
      refine mb_goto (tgt := 29) dX6_owesAfter_25 (by decide) ?_
      exact mb_lvs [0, 1, 2] rfl (T_X6_owesAfter_29 hst hg  hr)
  · refine mb_iconst (v := 1) (pn := 10) dX6_owesAfter_9 (by decide) rfl ?_
    refine mb_goto (tgt := 29) dX6_owesAfter_10 (by decide) ?_
    exact mb_lvs [0, 1, 2] rfl (T_X6_owesAfter_29 hst hg  hr)
def B_X6_grounds_2  : Nat → Int32 → Int32 → mb_AH → Option mb_RS
  | 0, _, _, _ => none
  | n + 1, v1, v2, h => (mb_gB 8 270 (if (h.1 20 0 0 (8 : Int32).toNatClampNeg) ≤ v2 then (some (.inl (some (.inl (-1))), h)) else (mb_gB 4 270 (mb_cI (F_X6_isAground v1 ((h.1 20 0 0 (4 : Int32).toNatClampNeg) + v2) h) fun y102 h101 => (if y102 = 0 then (mb_lI (v2 + 1) fun y103 => ((B_X6_grounds_2  n) v1 y103 h101)) else (some (.inl (some (.inl v2)), h101)))))))
set_option maxRecDepth 100000 in
set_option maxHeartbeats 4000000 in
theorem T_X6_grounds_2 {l : Launch} {G : mb_G} {res : mb_RS} (hst : l.stackTraces = false) (hg : mb_gok G)   : ∀ (n : Nat) (v1 : Int32) (v2 : Int32) (h : mb_AH), B_X6_grounds_2  n v1 v2 h = some res → mb_Ev l G RX6 cX6_grounds 3 (some .int) 2 2 [(0, mb_F 6 0 0), (1, .inl v1), (2, .inl v2)] [] h res := by
  intro n
  induction n with
  | zero => intro v1 v2 h hr; cases hr
  | succ n ih =>
    intro v1 v2 h hr
    rw [B_X6_grounds_2] at hr
    refine mb_iload_n (pn := 3) 2 dX6_grounds_2 rfl rfl rfl ?_
    refine mb_aload_n (pn := 4) 0 dX6_grounds_3 rfl rfl rfl ?_
    refine gf_X6_7 (pn := 7) dX6_grounds_4 rfl ?_
    refine mb_bipush (v := 8) (pn := 9) dX6_grounds_7 (by decide) rfl ?_
    refine mb_iald (pn := 10) (n := 270) rfl dX6_grounds_9 rfl hr (fun hr => ?_)
    refine mb_ic_ge (tgt := 37) (pn := 13) dX6_grounds_10 (by decide) rfl hr (fun hr => ?_) (fun hr => ?_)
    · refine mb_iconst (v := (-1)) (pn := 38) dX6_grounds_37 (by decide) rfl ?_
      cases hr
      exact mb_iret dX6_grounds_38
    · refine mb_aload_n (pn := 14) 0 dX6_grounds_13 rfl rfl rfl ?_
      refine mb_iload_n (pn := 15) 1 dX6_grounds_14 rfl rfl rfl ?_
      refine mb_aload_n (pn := 16) 0 dX6_grounds_15 rfl rfl rfl ?_
      refine gf_X6_7 (pn := 19) dX6_grounds_16 rfl ?_
      refine mb_iconst (v := 4) (pn := 20) dX6_grounds_19 (by decide) rfl ?_
      refine mb_iald (pn := 21) (n := 270) rfl dX6_grounds_20 rfl hr (fun hr => ?_)
      refine mb_iload_n (pn := 22) 2 dX6_grounds_21 rfl rfl rfl ?_
      refine mb_iadd (pn := 23) dX6_grounds_22 rfl ?_
      refine cl_X6_158 (pn := 26) hst hg (Nat.le_of_ble_eq_true rfl) (Nat.le_of_ble_eq_true rfl) dX6_grounds_23 rfl hr (fun y102 h101 hr => ?_)
      refine mb_if_eq (tgt := 31) (pn := 29) dX6_grounds_26 (by decide) rfl hr (fun hr => ?_) (fun hr => ?_)
      · refine mb_nmx hr (fun y103 qy103 hr => ?_)
        refine mb_iinc (v := y103) (pn := 34) (lv2 := [(2, .inl y103), (0, mb_F 6 0 0), (1, .inl v1)]) 2 dX6_grounds_31 rfl (by rw [qy103]; rfl) (by decide) rfl rfl ?_
        refine mb_goto (tgt := 2) dX6_grounds_34 (by decide) ?_
        exact mb_lvs [1, 2, 0] rfl (ih _ _ _ hr)
      · refine mb_iload_n (pn := 30) 2 dX6_grounds_29 rfl rfl rfl ?_
        cases hr
        exact mb_iret dX6_grounds_30
def F_X6_grounds (x1 : Int32) (h : mb_AH) : Option mb_RS := (B_X6_grounds_2  mb_fu x1 0 h)
set_option maxRecDepth 100000 in
set_option maxHeartbeats 4000000 in
theorem C_X6_grounds {l : Launch} {G : mb_G} (hst : l.stackTraces = false) (hg : mb_gok G) {x1 : Int32} {h : mb_AH} {res : mb_RS} (hr : F_X6_grounds x1 h = some res) : mb_Mt l G yX6_grounds cX6_grounds 3 (some .int) 2 [mb_F 6 0 0, .inl x1] h res := by
  refine mb_entry (own := RX6) (lv := [(0, mb_F 6 0 0), (1, .inl x1)]) (by decide +kernel) rfl (Nat.le_of_ble_eq_true rfl) rfl rfl (fun _ => ?_) hst hg
  unfold F_X6_grounds at hr
  refine mb_iconst (v := 0) (pn := 1) dX6_grounds_0 (by decide) rfl ?_
  refine mb_istore_n (pn := 2) (lv2 := [(2, .inl 0), (0, mb_F 6 0 0), (1, .inl x1)]) dX6_grounds_1 rfl (by decide) rfl rfl ?_
  exact mb_lvs [1, 2, 0] rfl (T_X6_grounds_2 hst hg  mb_fu _ _ _ hr)
set_option maxRecDepth 100000 in
set_option maxHeartbeats 4000000 in
theorem cl_X6_212 {l : Launch} {G : mb_G} {cc : ByteArray} {nL : Nat} {ret : Option FieldType} {d pc pn : Nat} {lv : List (Nat × mb_AV)} {st : List mb_AV} {h : mb_AH} {res : mb_RS} (hst : l.stackTraces = false) (hg : mb_gok G) {x1 : Int32} {K : Int32 → mb_AH → Option mb_RS} (hd2 : 2 + 1 ≤ d) (hs4 : st.length ≤ 4) (dg : decode cc pc = .ok (.invokevirtual 212, 3)) (hn : pc + 3 = pn) (hr : mb_cI (F_X6_grounds x1 h) K = some res) (kk : ∀ (x : Int32) (h2 : mb_AH), K x h2 = some res → mb_Ev l G RX6 cc nL ret d pn lv (.inl x :: st) h2 res) : mb_Ev l G RX6 cc nL ret d pc lv (.inl x1 :: mb_F 6 0 0 :: st) h res := mb_kVI (as := [.inl x1]) (n := 1) (d2 := 2) (ci := 6) (fun _ hf => C_X6_grounds hst hg hf) (mb_gV wl_X6_212 mi_X6_grounds ms_X6_grounds mn_X6 mc_X6_grounds) (by decide +kernel) rfl rfl rfl hd2 (by decide) hs4 rfl dg hn hr kk
def B_X6_groundsIn_14  (v1 : Int32) (s0 : Int32) (h : mb_AH) : Option mb_RS := (mb_cI (F_X6_refused s0 h) fun y104 h103 => (if y104 = 0 then (mb_cI (F_X6_grounds v1 h103) fun y106 h105 => (some (.inl (some (.inl y106)), h105))) else (some (.inl (some (.inl 0)), h103))))
set_option maxRecDepth 100000 in
set_option maxHeartbeats 4000000 in
theorem T_X6_groundsIn_14 {l : Launch} {G : mb_G} {res : mb_RS} (hst : l.stackTraces = false) (hg : mb_gok G)   {v1 : Int32} {s0 : Int32} {h : mb_AH} (hr : B_X6_groundsIn_14  v1 s0 h = some res) : mb_Ev l G RX6 cX6_groundsIn 2 (some .int) 3 14 [(0, mb_F 6 0 0), (1, .inl v1)] [.inl s0, mb_F 6 0 0] h res := by
  unfold B_X6_groundsIn_14 at hr
  refine cl_X6_42 (pn := 17) hst hg (Nat.le_of_ble_eq_true rfl) (Nat.le_of_ble_eq_true rfl) dX6_groundsIn_14 rfl hr (fun y104 h103 hr => ?_)
  refine mb_if_eq (tgt := 24) (pn := 20) dX6_groundsIn_17 (by decide) rfl hr (fun hr => ?_) (fun hr => ?_)
  · refine mb_aload_n (pn := 25) 0 dX6_groundsIn_24 rfl rfl rfl ?_
    refine mb_iload_n (pn := 26) 1 dX6_groundsIn_25 rfl rfl rfl ?_
    refine cl_X6_212 (pn := 29) hst hg (Nat.le_of_ble_eq_true rfl) (Nat.le_of_ble_eq_true rfl) dX6_groundsIn_26 rfl hr (fun y106 h105 hr => ?_)
    cases hr
    exact mb_iret dX6_groundsIn_29
  · refine mb_iconst (v := 0) (pn := 21) dX6_groundsIn_20 (by decide) rfl ?_
    refine mb_goto (tgt := 29) dX6_groundsIn_21 (by decide) ?_
    cases hr
    exact mb_iret dX6_groundsIn_29
def F_X6_groundsIn (x1 : Int32) (h : mb_AH) : Option mb_RS := (mb_cI (F_X6_isBoat x1 h) fun y102 h101 => (if y102 = 0 then (B_X6_groundsIn_14  x1 1 h101) else (B_X6_groundsIn_14  x1 0 h101)))
set_option maxRecDepth 100000 in
set_option maxHeartbeats 4000000 in
theorem C_X6_groundsIn {l : Launch} {G : mb_G} (hst : l.stackTraces = false) (hg : mb_gok G) {x1 : Int32} {h : mb_AH} {res : mb_RS} (hr : F_X6_groundsIn x1 h = some res) : mb_Mt l G yX6_groundsIn cX6_groundsIn 2 (some .int) 3 [mb_F 6 0 0, .inl x1] h res := by
  refine mb_entry (own := RX6) (lv := [(0, mb_F 6 0 0), (1, .inl x1)]) (by decide +kernel) rfl (Nat.le_of_ble_eq_true rfl) rfl rfl (fun _ => ?_) hst hg
  unfold F_X6_groundsIn at hr
  refine mb_aload_n (pn := 1) 0 dX6_groundsIn_0 rfl rfl rfl ?_
  refine mb_aload_n (pn := 2) 0 dX6_groundsIn_1 rfl rfl rfl ?_
  refine mb_iload_n (pn := 3) 1 dX6_groundsIn_2 rfl rfl rfl ?_
  refine cl_X6_161 (pn := 6) hst hg (Nat.le_of_ble_eq_true rfl) (Nat.le_of_ble_eq_true rfl) dX6_groundsIn_3 rfl hr (fun y102 h101 hr => ?_)
  refine mb_if_eq (tgt := 13) (pn := 9) dX6_groundsIn_6 (by decide) rfl hr (fun hr => ?_) (fun hr => ?_)
  · refine mb_iconst (v := 1) (pn := 14) dX6_groundsIn_13 (by decide) rfl ?_
    exact mb_lvs [0, 1] rfl (T_X6_groundsIn_14 hst hg  hr)
  · refine mb_iconst (v := 0) (pn := 10) dX6_groundsIn_9 (by decide) rfl ?_
    refine mb_goto (tgt := 14) dX6_groundsIn_10 (by decide) ?_
    exact mb_lvs [0, 1] rfl (T_X6_groundsIn_14 hst hg  hr)
def B_X6_winterBerth_28  (v1 : Int32) (s0 : Int32) (h : mb_AH) : Option mb_RS := (mb_cI (F_X6_refused s0 h) fun y104 h103 => (if y104 = 0 then (mb_cV (F_X6_keeps h103) fun h105 => (mb_cV (F_X6_begins h105) fun h106 => (mb_cI (F_X6_ofBoat v1 (4 : Int32) h106) fun y108 h107 => (mb_cV (F_X6_returns h107) fun h109 => (some (.inl (some (.inl y108)), h109)))))) else (some (.inl (some (.inl 0)), h103))))
set_option maxRecDepth 100000 in
set_option maxHeartbeats 4000000 in
theorem T_X6_winterBerth_28 {l : Launch} {G : mb_G} {res : mb_RS} (hst : l.stackTraces = false) (hg : mb_gok G)   {v1 : Int32} {s0 : Int32} {h : mb_AH} (hr : B_X6_winterBerth_28  v1 s0 h = some res) : mb_Ev l G RX6 cX6_winterBerth 3 (some .int) 6 28 [(0, mb_F 6 0 0), (1, .inl v1)] [.inl s0, mb_F 6 0 0] h res := by
  unfold B_X6_winterBerth_28 at hr
  refine cl_X6_42 (pn := 31) hst hg (Nat.le_of_ble_eq_true rfl) (Nat.le_of_ble_eq_true rfl) dX6_winterBerth_28 rfl hr (fun y104 h103 hr => ?_)
  refine mb_if_eq (tgt := 36) (pn := 34) dX6_winterBerth_31 (by decide) rfl hr (fun hr => ?_) (fun hr => ?_)
  · refine mb_aload_n (pn := 37) 0 dX6_winterBerth_36 rfl rfl rfl ?_
    refine cl_X6_194 (pn := 40) hst hg (Nat.le_of_ble_eq_true rfl) (Nat.le_of_ble_eq_true rfl) dX6_winterBerth_37 rfl hr (fun h105 hr => ?_)
    refine mb_aload_n (pn := 41) 0 dX6_winterBerth_40 rfl rfl rfl ?_
    refine cl_X6_109 (pn := 44) hst hg (Nat.le_of_ble_eq_true rfl) (Nat.le_of_ble_eq_true rfl) dX6_winterBerth_41 rfl hr (fun h106 hr => ?_)
    refine mb_aload_n (pn := 45) 0 dX6_winterBerth_44 rfl rfl rfl ?_
    refine mb_iload_n (pn := 46) 1 dX6_winterBerth_45 rfl rfl rfl ?_
    refine mb_iconst (v := 4) (pn := 47) dX6_winterBerth_46 (by decide) rfl ?_
    refine cl_X6_50 (pn := 50) hst hg (Nat.le_of_ble_eq_true rfl) (Nat.le_of_ble_eq_true rfl) dX6_winterBerth_47 rfl hr (fun y108 h107 hr => ?_)
    refine mb_istore_n (pn := 51) (lv2 := [(2, .inl y108), (0, mb_F 6 0 0), (1, .inl v1)]) dX6_winterBerth_50 rfl (by decide) rfl rfl ?_
    refine mb_aload_n (pn := 52) 1 dX6_winterBerth_51 rfl rfl rfl ?_
    refine cl_X6_200 (pn := 55) hst hg (Nat.le_of_ble_eq_true rfl) (Nat.le_of_ble_eq_true rfl) dX6_winterBerth_52 rfl hr (fun h109 hr => ?_)
    refine mb_iload_n (pn := 56) 0 dX6_winterBerth_55 rfl rfl rfl ?_
    cases hr
    exact mb_iret dX6_winterBerth_56
  · refine mb_iconst (v := 0) (pn := 35) dX6_winterBerth_34 (by decide) rfl ?_
    cases hr
    exact mb_iret dX6_winterBerth_35
def F_X6_winterBerth (x1 : Int32) (h : mb_AH) : Option mb_RS := (mb_cI (F_X6_isBoat x1 h) fun y102 h101 => (if y102 = 0 then (B_X6_winterBerth_28  x1 1 h101) else (mb_gB 5 270 (if (h101.1 20 0 0 (5 : Int32).toNatClampNeg) = 1 then (B_X6_winterBerth_28  x1 2 h101) else (B_X6_winterBerth_28  x1 0 h101)))))
set_option maxRecDepth 100000 in
set_option maxHeartbeats 4000000 in
theorem C_X6_winterBerth {l : Launch} {G : mb_G} (hst : l.stackTraces = false) (hg : mb_gok G) {x1 : Int32} {h : mb_AH} {res : mb_RS} (hr : F_X6_winterBerth x1 h = some res) : mb_Mt l G yX6_winterBerth cX6_winterBerth 3 (some .int) 6 [mb_F 6 0 0, .inl x1] h res := by
  refine mb_entry (own := RX6) (lv := [(0, mb_F 6 0 0), (1, .inl x1)]) (by decide +kernel) rfl (Nat.le_of_ble_eq_true rfl) rfl rfl (fun _ => ?_) hst hg
  unfold F_X6_winterBerth at hr
  refine mb_aload_n (pn := 1) 0 dX6_winterBerth_0 rfl rfl rfl ?_
  refine mb_aload_n (pn := 2) 0 dX6_winterBerth_1 rfl rfl rfl ?_
  refine mb_iload_n (pn := 3) 1 dX6_winterBerth_2 rfl rfl rfl ?_
  refine cl_X6_161 (pn := 6) hst hg (Nat.le_of_ble_eq_true rfl) (Nat.le_of_ble_eq_true rfl) dX6_winterBerth_3 rfl hr (fun y102 h101 hr => ?_)
  refine mb_if_ne (tgt := 13) (pn := 9) dX6_winterBerth_6 (by decide) rfl hr (fun hr => ?_) (fun hr => ?_)
  · refine mb_aload_n (pn := 14) 0 dX6_winterBerth_13 rfl rfl rfl ?_
    refine gf_X6_7 (pn := 17) dX6_winterBerth_14 rfl ?_
    refine mb_iconst (v := 5) (pn := 18) dX6_winterBerth_17 (by decide) rfl ?_
    refine mb_iald (pn := 19) (n := 270) rfl dX6_winterBerth_18 rfl hr (fun hr => ?_)
    refine mb_iconst (v := 1) (pn := 20) dX6_winterBerth_19 (by decide) rfl ?_
    refine mb_ic_ne (tgt := 27) (pn := 23) dX6_winterBerth_20 (by decide) rfl hr (fun hr => ?_) (fun hr => ?_)
    · refine mb_iconst (v := 0) (pn := 28) dX6_winterBerth_27 (by decide) rfl ?_
      exact mb_lvs [0, 1] rfl (T_X6_winterBerth_28 hst hg  hr)
    · refine mb_iconst (v := 2) (pn := 24) dX6_winterBerth_23 (by decide) rfl ?_
      refine mb_goto (tgt := 28) dX6_winterBerth_24 (by decide) ?_
      exact mb_lvs [0, 1] rfl (T_X6_winterBerth_28 hst hg  hr)
  · refine mb_iconst (v := 1) (pn := 10) dX6_winterBerth_9 (by decide) rfl ?_
    refine mb_goto (tgt := 28) dX6_winterBerth_10 (by decide) ?_
    exact mb_lvs [0, 1] rfl (T_X6_winterBerth_28 hst hg  hr)
def B_X6_wouldGoAshore_16  (s0 : Int32) (h : mb_AH) : Option mb_RS := (mb_cI (F_X6_refused s0 h) fun y102 h101 => (if y102 = 0 then (mb_cV (F_X6_keeps h101) fun h103 => (mb_cI (F_X6_countIn (3 : Int32) h103) fun y105 h104 => (mb_cV (F_X6_begins h104) fun h106 => (mb_cI (F_X6_countIn (3 : Int32) h106) fun y108 h107 => (mb_lI (y108 - y105) fun y109 => (mb_cV (F_X6_returns h107) fun h110 => (some (.inl (some (.inl y109)), h110)))))))) else (some (.inl (some (.inl 0)), h101))))
set_option maxRecDepth 100000 in
set_option maxHeartbeats 4000000 in
theorem T_X6_wouldGoAshore_16 {l : Launch} {G : mb_G} {res : mb_RS} (hst : l.stackTraces = false) (hg : mb_gok G)   {s0 : Int32} {h : mb_AH} (hr : B_X6_wouldGoAshore_16  s0 h = some res) : mb_Ev l G RX6 cX6_wouldGoAshore 3 (some .int) 6 16 [(0, mb_F 6 0 0)] [.inl s0, mb_F 6 0 0] h res := by
  unfold B_X6_wouldGoAshore_16 at hr
  refine cl_X6_42 (pn := 19) hst hg (Nat.le_of_ble_eq_true rfl) (Nat.le_of_ble_eq_true rfl) dX6_wouldGoAshore_16 rfl hr (fun y102 h101 hr => ?_)
  refine mb_if_eq (tgt := 24) (pn := 22) dX6_wouldGoAshore_19 (by decide) rfl hr (fun hr => ?_) (fun hr => ?_)
  · refine mb_aload_n (pn := 25) 0 dX6_wouldGoAshore_24 rfl rfl rfl ?_
    refine cl_X6_194 (pn := 28) hst hg (Nat.le_of_ble_eq_true rfl) (Nat.le_of_ble_eq_true rfl) dX6_wouldGoAshore_25 rfl hr (fun h103 hr => ?_)
    refine mb_aload_n (pn := 29) 0 dX6_wouldGoAshore_28 rfl rfl rfl ?_
    refine mb_iconst (v := 3) (pn := 30) dX6_wouldGoAshore_29 (by decide) rfl ?_
    refine cl_X6_170 (pn := 33) hst hg (Nat.le_of_ble_eq_true rfl) (Nat.le_of_ble_eq_true rfl) dX6_wouldGoAshore_30 rfl hr (fun y105 h104 hr => ?_)
    refine mb_istore_n (pn := 34) (lv2 := [(1, .inl y105), (0, mb_F 6 0 0)]) dX6_wouldGoAshore_33 rfl (by decide) rfl rfl ?_
    refine mb_aload_n (pn := 35) 1 dX6_wouldGoAshore_34 rfl rfl rfl ?_
    refine cl_X6_109 (pn := 38) hst hg (Nat.le_of_ble_eq_true rfl) (Nat.le_of_ble_eq_true rfl) dX6_wouldGoAshore_35 rfl hr (fun h106 hr => ?_)
    refine mb_aload_n (pn := 39) 1 dX6_wouldGoAshore_38 rfl rfl rfl ?_
    refine mb_iconst (v := 3) (pn := 40) dX6_wouldGoAshore_39 (by decide) rfl ?_
    refine cl_X6_170 (pn := 43) hst hg (Nat.le_of_ble_eq_true rfl) (Nat.le_of_ble_eq_true rfl) dX6_wouldGoAshore_40 rfl hr (fun y108 h107 hr => ?_)
    refine mb_iload_n (pn := 44) 0 dX6_wouldGoAshore_43 rfl rfl rfl ?_
    refine mb_isub (pn := 45) dX6_wouldGoAshore_44 rfl ?_
    refine mb_nmI hr (fun y109 hr => ?_)
    refine mb_istore_n (pn := 46) (lv2 := [(2, .inl y109), (1, .inl y105), (0, mb_F 6 0 0)]) dX6_wouldGoAshore_45 rfl (by decide) rfl rfl ?_
    refine mb_aload_n (pn := 47) 2 dX6_wouldGoAshore_46 rfl rfl rfl ?_
    refine cl_X6_200 (pn := 50) hst hg (Nat.le_of_ble_eq_true rfl) (Nat.le_of_ble_eq_true rfl) dX6_wouldGoAshore_47 rfl hr (fun h110 hr => ?_)
    refine mb_iload_n (pn := 51) 0 dX6_wouldGoAshore_50 rfl rfl rfl ?_
    cases hr
    exact mb_iret dX6_wouldGoAshore_51
  · refine mb_iconst (v := 0) (pn := 23) dX6_wouldGoAshore_22 (by decide) rfl ?_
    cases hr
    exact mb_iret dX6_wouldGoAshore_23
def F_X6_wouldGoAshore  (h : mb_AH) : Option mb_RS := (mb_gB 5 270 (if (h.1 20 0 0 (5 : Int32).toNatClampNeg) = 1 then (B_X6_wouldGoAshore_16  1 h) else (B_X6_wouldGoAshore_16  0 h)))
set_option maxRecDepth 100000 in
set_option maxHeartbeats 4000000 in
theorem C_X6_wouldGoAshore {l : Launch} {G : mb_G} (hst : l.stackTraces = false) (hg : mb_gok G)  {h : mb_AH} {res : mb_RS} (hr : F_X6_wouldGoAshore  h = some res) : mb_Mt l G yX6_wouldGoAshore cX6_wouldGoAshore 3 (some .int) 6 [mb_F 6 0 0] h res := by
  refine mb_entry (own := RX6) (lv := [(0, mb_F 6 0 0)]) (by decide +kernel) rfl (Nat.le_of_ble_eq_true rfl) rfl rfl (fun _ => ?_) hst hg
  unfold F_X6_wouldGoAshore at hr
  refine mb_aload_n (pn := 1) 0 dX6_wouldGoAshore_0 rfl rfl rfl ?_
  refine mb_aload_n (pn := 2) 0 dX6_wouldGoAshore_1 rfl rfl rfl ?_
  refine gf_X6_7 (pn := 5) dX6_wouldGoAshore_2 rfl ?_
  refine mb_iconst (v := 5) (pn := 6) dX6_wouldGoAshore_5 (by decide) rfl ?_
  refine mb_iald (pn := 7) (n := 270) rfl dX6_wouldGoAshore_6 rfl hr (fun hr => ?_)
  refine mb_iconst (v := 1) (pn := 8) dX6_wouldGoAshore_7 (by decide) rfl ?_
  refine mb_ic_ne (tgt := 15) (pn := 11) dX6_wouldGoAshore_8 (by decide) rfl hr (fun hr => ?_) (fun hr => ?_)
  · refine mb_iconst (v := 0) (pn := 16) dX6_wouldGoAshore_15 (by decide) rfl ?_
    exact mb_lvs [0] rfl (T_X6_wouldGoAshore_16 hst hg  hr)
  · refine mb_iconst (v := 1) (pn := 12) dX6_wouldGoAshore_11 (by decide) rfl ?_
    refine mb_goto (tgt := 16) dX6_wouldGoAshore_12 (by decide) ?_
    exact mb_lvs [0] rfl (T_X6_wouldGoAshore_16 hst hg  hr)
def B_X6_greatestClearance_35 (K16 : Int32 → Int32 → Int32 → mb_AH → Option mb_RS) : Nat → Int32 → Int32 → Int32 → Int32 → Int32 → mb_AH → Option mb_RS
  | 0, _, _, _, _, _, _ => none
  | n + 1, v1, v2, v3, v4, v5, h => (mb_gB 7 270 (if (h.1 20 0 0 (7 : Int32).toNatClampNeg) ≤ v5 then (if v4 = 0 then (mb_lI (v3 + 1) fun y105 => (K16 v1 v2 y105 h)) else (mb_lI (v3 + 1) fun y106 => (K16 v1 v3 y106 h))) else (if v4 = 0 then (mb_lI (v5 + 1) fun y107 => ((B_X6_greatestClearance_35 K16 n) v1 v2 v3 0 y107 h)) else (mb_cI (F_X6_ofBoat v5 (3 : Int32) h) fun y109 h108 => (if y109 = 1 then (mb_cI (F_X6_ofBoat v5 (4 : Int32) h108) fun y112 h111 => (mb_cI (F_X6_isFit v5 y112 h111) fun y114 h113 => (if y114 = 0 then (mb_lI (v5 + 1) fun y115 => ((B_X6_greatestClearance_35 K16 n) v1 v2 v3 0 y115 h113)) else (mb_lI (v5 + 1) fun y116 => ((B_X6_greatestClearance_35 K16 n) v1 v2 v3 1 y116 h113))))) else (mb_lI (v5 + 1) fun y110 => ((B_X6_greatestClearance_35 K16 n) v1 v2 v3 1 y110 h108)))))))
set_option maxRecDepth 100000 in
set_option maxHeartbeats 4000000 in
theorem T_X6_greatestClearance_35 {l : Launch} {G : mb_G} {res : mb_RS} (hst : l.stackTraces = false) (hg : mb_gok G) {K16 : Int32 → Int32 → Int32 → mb_AH → Option mb_RS} (hK16 : ∀ (v1z : Int32) (v2z : Int32) (v3z : Int32) (hz : mb_AH), K16 v1z v2z v3z hz = some res → mb_Ev l G RX6 cX6_greatestClearance 6 (some .int) 3 16 [(0, mb_F 6 0 0), (1, .inl v1z), (2, .inl v2z), (3, .inl v3z)] [] hz res) : ∀ (n : Nat) (v1 : Int32) (v2 : Int32) (v3 : Int32) (v4 : Int32) (v5 : Int32) (h : mb_AH), B_X6_greatestClearance_35 K16 n v1 v2 v3 v4 v5 h = some res → mb_Ev l G RX6 cX6_greatestClearance 6 (some .int) 3 35 [(0, mb_F 6 0 0), (1, .inl v1), (2, .inl v2), (3, .inl v3), (4, .inl v4), (5, .inl v5)] [] h res := by
  intro n
  induction n with
  | zero => intro v1 v2 v3 v4 v5 h hr; cases hr
  | succ n ih =>
    intro v1 v2 v3 v4 v5 h hr
    rw [B_X6_greatestClearance_35] at hr
    refine mb_iload (pn := 37) 5 dX6_greatestClearance_35 rfl rfl ?_
    refine mb_aload_n (pn := 38) 0 dX6_greatestClearance_37 rfl rfl rfl ?_
    refine gf_X6_7 (pn := 41) dX6_greatestClearance_38 rfl ?_
    refine mb_bipush (v := 7) (pn := 43) dX6_greatestClearance_41 (by decide) rfl ?_
    refine mb_iald (pn := 44) (n := 270) rfl dX6_greatestClearance_43 rfl hr (fun hr => ?_)
    refine mb_ic_ge (tgt := 92) (pn := 47) dX6_greatestClearance_44 (by decide) rfl hr (fun hr => ?_) (fun hr => ?_)
    · refine mb_iload (pn := 94) 4 dX6_greatestClearance_92 rfl rfl ?_
      refine mb_if_eq (tgt := 101) (pn := 97) dX6_greatestClearance_94 (by decide) rfl hr (fun hr => ?_) (fun hr => ?_)
      · refine mb_iload_n (pn := 102) 2 dX6_greatestClearance_101 rfl rfl rfl ?_
        refine mb_istore_n (pn := 103) (lv2 := [(2, .inl v2), (0, mb_F 6 0 0), (1, .inl v1), (3, .inl v3), (4, .inl v4), (5, .inl v5)]) dX6_greatestClearance_102 rfl (by decide) rfl rfl ?_
        refine mb_nmx hr (fun y105 qy105 hr => ?_)
        refine mb_iinc (v := y105) (pn := 106) (lv2 := [(3, .inl y105), (2, .inl v2), (0, mb_F 6 0 0), (1, .inl v1), (4, .inl v4), (5, .inl v5)]) 3 dX6_greatestClearance_103 rfl (by rw [qy105]; rfl) (by decide) rfl rfl ?_
        refine mb_goto (tgt := 16) dX6_greatestClearance_106 (by decide) ?_
        exact mb_lvs [2, 3, 1, 0] rfl (hK16 _ _ _ _ hr)
      · refine mb_iload_n (pn := 98) 3 dX6_greatestClearance_97 rfl rfl rfl ?_
        refine mb_goto (tgt := 102) dX6_greatestClearance_98 (by decide) ?_
        refine mb_istore_n (pn := 103) (lv2 := [(2, .inl v3), (0, mb_F 6 0 0), (1, .inl v1), (3, .inl v3), (4, .inl v4), (5, .inl v5)]) dX6_greatestClearance_102 rfl (by decide) rfl rfl ?_
        refine mb_nmx hr (fun y106 qy106 hr => ?_)
        refine mb_iinc (v := y106) (pn := 106) (lv2 := [(3, .inl y106), (2, .inl v3), (0, mb_F 6 0 0), (1, .inl v1), (4, .inl v4), (5, .inl v5)]) 3 dX6_greatestClearance_103 rfl (by rw [qy106]; rfl) (by decide) rfl rfl ?_
        refine mb_goto (tgt := 16) dX6_greatestClearance_106 (by decide) ?_
        exact mb_lvs [2, 3, 1, 0] rfl (hK16 _ _ _ _ hr)
    · refine mb_iload (pn := 49) 4 dX6_greatestClearance_47 rfl rfl ?_
      refine mb_if_eq (tgt := 83) (pn := 52) dX6_greatestClearance_49 (by decide) rfl hr (fun hr => ?_) (fun hr => ?_)
      · refine mb_iconst (v := 0) (pn := 84) dX6_greatestClearance_83 (by decide) rfl ?_
        refine mb_istore (pn := 86) (lv2 := [(4, .inl 0), (0, mb_F 6 0 0), (1, .inl v1), (2, .inl v2), (3, .inl v3), (5, .inl v5)]) dX6_greatestClearance_84 (by decide) rfl rfl ?_
        refine mb_nmx hr (fun y107 qy107 hr => ?_)
        refine mb_iinc (v := y107) (pn := 89) (lv2 := [(5, .inl y107), (4, .inl 0), (0, mb_F 6 0 0), (1, .inl v1), (2, .inl v2), (3, .inl v3)]) 5 dX6_greatestClearance_86 rfl (by rw [qy107]; rfl) (by decide) rfl rfl ?_
        refine mb_goto (tgt := 35) dX6_greatestClearance_89 (by decide) ?_
        exact mb_lvs [2, 3, 4, 5, 1, 0] rfl (ih _ _ _ _ _ _ hr)
      · refine mb_aload_n (pn := 53) 0 dX6_greatestClearance_52 rfl rfl rfl ?_
        refine mb_iload (pn := 55) 5 dX6_greatestClearance_53 rfl rfl ?_
        refine mb_iconst (v := 3) (pn := 56) dX6_greatestClearance_55 (by decide) rfl ?_
        refine cl_X6_50 (pn := 59) hst hg (Nat.le_of_ble_eq_true rfl) (Nat.le_of_ble_eq_true rfl) dX6_greatestClearance_56 rfl hr (fun y109 h108 hr => ?_)
        refine mb_iconst (v := 1) (pn := 60) dX6_greatestClearance_59 (by decide) rfl ?_
        refine mb_ic_ne (tgt := 79) (pn := 63) dX6_greatestClearance_60 (by decide) rfl hr (fun hr => ?_) (fun hr => ?_)
        · refine mb_iconst (v := 1) (pn := 80) dX6_greatestClearance_79 (by decide) rfl ?_
          refine mb_goto (tgt := 84) dX6_greatestClearance_80 (by decide) ?_
          refine mb_istore (pn := 86) (lv2 := [(4, .inl 1), (0, mb_F 6 0 0), (1, .inl v1), (2, .inl v2), (3, .inl v3), (5, .inl v5)]) dX6_greatestClearance_84 (by decide) rfl rfl ?_
          refine mb_nmx hr (fun y110 qy110 hr => ?_)
          refine mb_iinc (v := y110) (pn := 89) (lv2 := [(5, .inl y110), (4, .inl 1), (0, mb_F 6 0 0), (1, .inl v1), (2, .inl v2), (3, .inl v3)]) 5 dX6_greatestClearance_86 rfl (by rw [qy110]; rfl) (by decide) rfl rfl ?_
          refine mb_goto (tgt := 35) dX6_greatestClearance_89 (by decide) ?_
          exact mb_lvs [2, 3, 4, 5, 1, 0] rfl (ih _ _ _ _ _ _ hr)
        · refine mb_aload_n (pn := 64) 0 dX6_greatestClearance_63 rfl rfl rfl ?_
          refine mb_iload (pn := 66) 5 dX6_greatestClearance_64 rfl rfl ?_
          refine mb_aload_n (pn := 67) 0 dX6_greatestClearance_66 rfl rfl rfl ?_
          refine mb_iload (pn := 69) 5 dX6_greatestClearance_67 rfl rfl ?_
          refine mb_iconst (v := 4) (pn := 70) dX6_greatestClearance_69 (by decide) rfl ?_
          refine cl_X6_50 (pn := 73) hst hg (Nat.le_of_ble_eq_true rfl) (Nat.le_of_ble_eq_true rfl) dX6_greatestClearance_70 rfl hr (fun y112 h111 hr => ?_)
          refine cl_X6_96 (pn := 76) hst hg (Nat.le_of_ble_eq_true rfl) (Nat.le_of_ble_eq_true rfl) dX6_greatestClearance_73 rfl hr (fun y114 h113 hr => ?_)
          refine mb_if_eq (tgt := 83) (pn := 79) dX6_greatestClearance_76 (by decide) rfl hr (fun hr => ?_) (fun hr => ?_)
          · refine mb_iconst (v := 0) (pn := 84) dX6_greatestClearance_83 (by decide) rfl ?_
            refine mb_istore (pn := 86) (lv2 := [(4, .inl 0), (0, mb_F 6 0 0), (1, .inl v1), (2, .inl v2), (3, .inl v3), (5, .inl v5)]) dX6_greatestClearance_84 (by decide) rfl rfl ?_
            refine mb_nmx hr (fun y115 qy115 hr => ?_)
            refine mb_iinc (v := y115) (pn := 89) (lv2 := [(5, .inl y115), (4, .inl 0), (0, mb_F 6 0 0), (1, .inl v1), (2, .inl v2), (3, .inl v3)]) 5 dX6_greatestClearance_86 rfl (by rw [qy115]; rfl) (by decide) rfl rfl ?_
            refine mb_goto (tgt := 35) dX6_greatestClearance_89 (by decide) ?_
            exact mb_lvs [2, 3, 4, 5, 1, 0] rfl (ih _ _ _ _ _ _ hr)
          · refine mb_iconst (v := 1) (pn := 80) dX6_greatestClearance_79 (by decide) rfl ?_
            refine mb_goto (tgt := 84) dX6_greatestClearance_80 (by decide) ?_
            refine mb_istore (pn := 86) (lv2 := [(4, .inl 1), (0, mb_F 6 0 0), (1, .inl v1), (2, .inl v2), (3, .inl v3), (5, .inl v5)]) dX6_greatestClearance_84 (by decide) rfl rfl ?_
            refine mb_nmx hr (fun y116 qy116 hr => ?_)
            refine mb_iinc (v := y116) (pn := 89) (lv2 := [(5, .inl y116), (4, .inl 1), (0, mb_F 6 0 0), (1, .inl v1), (2, .inl v2), (3, .inl v3)]) 5 dX6_greatestClearance_86 rfl (by rw [qy116]; rfl) (by decide) rfl rfl ?_
            refine mb_goto (tgt := 35) dX6_greatestClearance_89 (by decide) ?_
            exact mb_lvs [2, 3, 4, 5, 1, 0] rfl (ih _ _ _ _ _ _ hr)
def B_X6_greatestClearance_16  : Nat → Int32 → Int32 → Int32 → mb_AH → Option mb_RS
  | 0, _, _, _, _ => none
  | n + 1, v1, v2, v3, h => (if 100 < v3 then (mb_gB 0 270 (mb_up (mb_sI h 20 0 0 (0 : Int32).toNatClampNeg v1) fun h103 => (some (.inl (some (.inl v2)), h103)))) else (mb_gB 0 270 (mb_up (mb_sI h 20 0 0 (0 : Int32).toNatClampNeg v3) fun h104 => (B_X6_greatestClearance_35 (B_X6_greatestClearance_16  n) mb_fu v1 v2 v3 1 0 h104))))
set_option maxRecDepth 100000 in
set_option maxHeartbeats 4000000 in
theorem T_X6_greatestClearance_16 {l : Launch} {G : mb_G} {res : mb_RS} (hst : l.stackTraces = false) (hg : mb_gok G)   : ∀ (n : Nat) (v1 : Int32) (v2 : Int32) (v3 : Int32) (h : mb_AH), B_X6_greatestClearance_16  n v1 v2 v3 h = some res → mb_Ev l G RX6 cX6_greatestClearance 6 (some .int) 3 16 [(0, mb_F 6 0 0), (1, .inl v1), (2, .inl v2), (3, .inl v3)] [] h res := by
  intro n
  induction n with
  | zero => intro v1 v2 v3 h hr; cases hr
  | succ n ih =>
    intro v1 v2 v3 h hr
    rw [B_X6_greatestClearance_16] at hr
    refine mb_iload_n (pn := 17) 3 dX6_greatestClearance_16 rfl rfl rfl ?_
    refine mb_bipush (v := 100) (pn := 19) dX6_greatestClearance_17 (by decide) rfl ?_
    refine mb_ic_gt (tgt := 109) (pn := 22) dX6_greatestClearance_19 (by decide) rfl hr (fun hr => ?_) (fun hr => ?_)
    · refine mb_aload_n (pn := 110) 0 dX6_greatestClearance_109 rfl rfl rfl ?_
      refine gf_X6_7 (pn := 113) dX6_greatestClearance_110 rfl ?_
      refine mb_iconst (v := 0) (pn := 114) dX6_greatestClearance_113 (by decide) rfl ?_
      refine mb_iload_n (pn := 115) 1 dX6_greatestClearance_114 rfl rfl rfl ?_
      refine mb_iast (pn := 116) (n := 270) rfl rfl dX6_greatestClearance_115 rfl hr (fun hr => ?_)
      refine mb_nmh hr (fun h103 hr => ?_)
      refine mb_iload_n (pn := 117) 2 dX6_greatestClearance_116 rfl rfl rfl ?_
      cases hr
      exact mb_iret dX6_greatestClearance_117
    · refine mb_aload_n (pn := 23) 0 dX6_greatestClearance_22 rfl rfl rfl ?_
      refine gf_X6_7 (pn := 26) dX6_greatestClearance_23 rfl ?_
      refine mb_iconst (v := 0) (pn := 27) dX6_greatestClearance_26 (by decide) rfl ?_
      refine mb_iload_n (pn := 28) 3 dX6_greatestClearance_27 rfl rfl rfl ?_
      refine mb_iast (pn := 29) (n := 270) rfl rfl dX6_greatestClearance_28 rfl hr (fun hr => ?_)
      refine mb_nmh hr (fun h104 hr => ?_)
      refine mb_iconst (v := 1) (pn := 30) dX6_greatestClearance_29 (by decide) rfl ?_
      refine mb_istore (pn := 32) (lv2 := [(4, .inl 1), (0, mb_F 6 0 0), (1, .inl v1), (2, .inl v2), (3, .inl v3)]) dX6_greatestClearance_30 (by decide) rfl rfl ?_
      refine mb_iconst (v := 0) (pn := 33) dX6_greatestClearance_32 (by decide) rfl ?_
      refine mb_istore (pn := 35) (lv2 := [(5, .inl 0), (4, .inl 1), (0, mb_F 6 0 0), (1, .inl v1), (2, .inl v2), (3, .inl v3)]) dX6_greatestClearance_33 (by decide) rfl rfl ?_
      exact mb_lvs [2, 3, 4, 5, 1, 0] rfl (T_X6_greatestClearance_35 hst hg ih mb_fu _ _ _ _ _ _ hr)
def F_X6_greatestClearance  (h : mb_AH) : Option mb_RS := (mb_up (mb_sI h 6 0 0 4 0) fun h101 => (mb_gB 0 270 (mb_lI (h101.1 20 0 0 (0 : Int32).toNatClampNeg) fun y102 => (B_X6_greatestClearance_16  mb_fu y102 (-1) 0 h101))))
set_option maxRecDepth 100000 in
set_option maxHeartbeats 4000000 in
theorem C_X6_greatestClearance {l : Launch} {G : mb_G} (hst : l.stackTraces = false) (hg : mb_gok G)  {h : mb_AH} {res : mb_RS} (hr : F_X6_greatestClearance  h = some res) : mb_Mt l G yX6_greatestClearance cX6_greatestClearance 6 (some .int) 3 [mb_F 6 0 0] h res := by
  refine mb_entry (own := RX6) (lv := [(0, mb_F 6 0 0)]) (by decide +kernel) rfl (Nat.le_of_ble_eq_true rfl) rfl rfl (fun _ => ?_) hst hg
  unfold F_X6_greatestClearance at hr
  refine mb_aload_n (pn := 1) 0 dX6_greatestClearance_0 rfl rfl rfl ?_
  refine mb_iconst (v := 0) (pn := 2) dX6_greatestClearance_1 (by decide) rfl ?_
  refine pf_X6_35 (pn := 5) dX6_greatestClearance_2 rfl hr (fun h101 hr => ?_)
  refine mb_aload_n (pn := 6) 0 dX6_greatestClearance_5 rfl rfl rfl ?_
  refine gf_X6_7 (pn := 9) dX6_greatestClearance_6 rfl ?_
  refine mb_iconst (v := 0) (pn := 10) dX6_greatestClearance_9 (by decide) rfl ?_
  refine mb_iald (pn := 11) (n := 270) rfl dX6_greatestClearance_10 rfl hr (fun hr => ?_)
  refine mb_nmI hr (fun y102 hr => ?_)
  refine mb_istore_n (pn := 12) (lv2 := [(1, .inl y102), (0, mb_F 6 0 0)]) dX6_greatestClearance_11 rfl (by decide) rfl rfl ?_
  refine mb_iconst (v := (-1)) (pn := 13) dX6_greatestClearance_12 (by decide) rfl ?_
  refine mb_istore_n (pn := 14) (lv2 := [(2, .inl (-1)), (1, .inl y102), (0, mb_F 6 0 0)]) dX6_greatestClearance_13 rfl (by decide) rfl rfl ?_
  refine mb_iconst (v := 0) (pn := 15) dX6_greatestClearance_14 (by decide) rfl ?_
  refine mb_istore_n (pn := 16) (lv2 := [(3, .inl 0), (2, .inl (-1)), (1, .inl y102), (0, mb_F 6 0 0)]) dX6_greatestClearance_15 rfl (by decide) rfl rfl ?_
  exact mb_lvs [3, 2, 1, 0] rfl (T_X6_greatestClearance_16 hst hg  mb_fu _ _ _ _ hr)
def B_X6_missingDepth_15  (v1 : Int32) (v2 : Int32) (s0 : Int32) (h : mb_AH) : Option mb_RS := (mb_cI (F_X6_refused s0 h) fun y104 h103 => (if y104 = 0 then (mb_cI (F_X6_isLongEnough v1 v2 h103) fun y106 h105 => (if y106 = 0 then (some (.inl (some (.inl (-1))), h105)) else (mb_cI (F_X6_missing v1 v2 h105) fun y108 h107 => (some (.inl (some (.inl y108)), h107))))) else (some (.inl (some (.inl 0)), h103))))
set_option maxRecDepth 100000 in
set_option maxHeartbeats 4000000 in
theorem T_X6_missingDepth_15 {l : Launch} {G : mb_G} {res : mb_RS} (hst : l.stackTraces = false) (hg : mb_gok G)   {v1 : Int32} {v2 : Int32} {s0 : Int32} {h : mb_AH} (hr : B_X6_missingDepth_15  v1 v2 s0 h = some res) : mb_Ev l G RX6 cX6_missingDepth 3 (some .int) 3 15 [(0, mb_F 6 0 0), (1, .inl v1), (2, .inl v2)] [.inl s0, mb_F 6 0 0] h res := by
  unfold B_X6_missingDepth_15 at hr
  refine cl_X6_42 (pn := 18) hst hg (Nat.le_of_ble_eq_true rfl) (Nat.le_of_ble_eq_true rfl) dX6_missingDepth_15 rfl hr (fun y104 h103 hr => ?_)
  refine mb_if_eq (tgt := 23) (pn := 21) dX6_missingDepth_18 (by decide) rfl hr (fun hr => ?_) (fun hr => ?_)
  · refine mb_aload_n (pn := 24) 0 dX6_missingDepth_23 rfl rfl rfl ?_
    refine mb_iload_n (pn := 25) 1 dX6_missingDepth_24 rfl rfl rfl ?_
    refine mb_iload_n (pn := 26) 2 dX6_missingDepth_25 rfl rfl rfl ?_
    refine cl_X6_61 (pn := 29) hst hg (Nat.le_of_ble_eq_true rfl) (Nat.le_of_ble_eq_true rfl) dX6_missingDepth_26 rfl hr (fun y106 h105 hr => ?_)
    refine mb_if_eq (tgt := 41) (pn := 32) dX6_missingDepth_29 (by decide) rfl hr (fun hr => ?_) (fun hr => ?_)
    · refine mb_iconst (v := (-1)) (pn := 42) dX6_missingDepth_41 (by decide) rfl ?_
      cases hr
      exact mb_iret dX6_missingDepth_42
    · refine mb_aload_n (pn := 33) 0 dX6_missingDepth_32 rfl rfl rfl ?_
      refine mb_iload_n (pn := 34) 1 dX6_missingDepth_33 rfl rfl rfl ?_
      refine mb_iload_n (pn := 35) 2 dX6_missingDepth_34 rfl rfl rfl ?_
      refine cl_X6_65 (pn := 38) hst hg (Nat.le_of_ble_eq_true rfl) (Nat.le_of_ble_eq_true rfl) dX6_missingDepth_35 rfl hr (fun y108 h107 hr => ?_)
      refine mb_goto (tgt := 42) dX6_missingDepth_38 (by decide) ?_
      cases hr
      exact mb_iret dX6_missingDepth_42
  · refine mb_iconst (v := 0) (pn := 22) dX6_missingDepth_21 (by decide) rfl ?_
    cases hr
    exact mb_iret dX6_missingDepth_22
def F_X6_missingDepth (x1 : Int32) (x2 : Int32) (h : mb_AH) : Option mb_RS := (mb_cI (F_X6_areBoth x1 x2 h) fun y102 h101 => (if y102 = 0 then (B_X6_missingDepth_15  x1 x2 1 h101) else (B_X6_missingDepth_15  x1 x2 0 h101)))
set_option maxRecDepth 100000 in
set_option maxHeartbeats 4000000 in
theorem C_X6_missingDepth {l : Launch} {G : mb_G} (hst : l.stackTraces = false) (hg : mb_gok G) {x1 : Int32} {x2 : Int32} {h : mb_AH} {res : mb_RS} (hr : F_X6_missingDepth x1 x2 h = some res) : mb_Mt l G yX6_missingDepth cX6_missingDepth 3 (some .int) 3 [mb_F 6 0 0, .inl x1, .inl x2] h res := by
  refine mb_entry (own := RX6) (lv := [(0, mb_F 6 0 0), (1, .inl x1), (2, .inl x2)]) (by decide +kernel) rfl (Nat.le_of_ble_eq_true rfl) rfl rfl (fun _ => ?_) hst hg
  unfold F_X6_missingDepth at hr
  refine mb_aload_n (pn := 1) 0 dX6_missingDepth_0 rfl rfl rfl ?_
  refine mb_aload_n (pn := 2) 0 dX6_missingDepth_1 rfl rfl rfl ?_
  refine mb_iload_n (pn := 3) 1 dX6_missingDepth_2 rfl rfl rfl ?_
  refine mb_iload_n (pn := 4) 2 dX6_missingDepth_3 rfl rfl rfl ?_
  refine cl_X6_167 (pn := 7) hst hg (Nat.le_of_ble_eq_true rfl) (Nat.le_of_ble_eq_true rfl) dX6_missingDepth_4 rfl hr (fun y102 h101 hr => ?_)
  refine mb_if_eq (tgt := 14) (pn := 10) dX6_missingDepth_7 (by decide) rfl hr (fun hr => ?_) (fun hr => ?_)
  · refine mb_iconst (v := 1) (pn := 15) dX6_missingDepth_14 (by decide) rfl ?_
    exact mb_lvs [0, 1, 2] rfl (T_X6_missingDepth_15 hst hg  hr)
  · refine mb_iconst (v := 0) (pn := 11) dX6_missingDepth_10 (by decide) rfl ?_
    refine mb_goto (tgt := 15) dX6_missingDepth_11 (by decide) ?_
    exact mb_lvs [0, 1, 2] rfl (T_X6_missingDepth_15 hst hg  hr)
def B_X6_type_30  (v1 : Int32) (s0 : Int32) (h : mb_AH) : Option mb_RS := (mb_cI (F_X6_refused s0 h) fun y104 h103 => (if y104 = 0 then (mb_gB (h103.1 6 0 0 6) 70 (mb_up (mb_sI h103 23 0 0 (h103.1 6 0 0 6).toNatClampNeg v1) fun h105 => (mb_up (mb_sI h105 6 0 0 6 ((h105.1 6 0 0 6) + 1)) fun h106 => (some (.inl (some (.inl (h106.1 6 0 0 6))), h106))))) else (some (.inl (some (.inl 0)), h103))))
set_option maxRecDepth 100000 in
set_option maxHeartbeats 4000000 in
theorem T_X6_type_30 {l : Launch} {G : mb_G} {res : mb_RS} (hst : l.stackTraces = false) (hg : mb_gok G)   {v1 : Int32} {s0 : Int32} {h : mb_AH} (hr : B_X6_type_30  v1 s0 h = some res) : mb_Ev l G RX6 cX6_type 2 (some .int) 1 30 [(0, mb_F 6 0 0), (1, .inl v1)] [.inl s0, mb_F 6 0 0] h res := by
  unfold B_X6_type_30 at hr
  refine cl_X6_42 (pn := 33) hst hg (Nat.le_of_ble_eq_true rfl) (Nat.le_of_ble_eq_true rfl) dX6_type_30 rfl hr (fun y104 h103 hr => ?_)
  refine mb_if_eq (tgt := 38) (pn := 36) dX6_type_33 (by decide) rfl hr (fun hr => ?_) (fun hr => ?_)
  · refine mb_aload_n (pn := 39) 0 dX6_type_38 rfl rfl rfl ?_
    refine gf_X6_19 (pn := 42) dX6_type_39 rfl ?_
    refine mb_aload_n (pn := 43) 0 dX6_type_42 rfl rfl rfl ?_
    refine gf_X6_118 (pn := 46) dX6_type_43 rfl ?_
    refine mb_iload_n (pn := 47) 1 dX6_type_46 rfl rfl rfl ?_
    refine mb_iast (pn := 48) (n := 70) rfl rfl dX6_type_47 rfl hr (fun hr => ?_)
    refine mb_nmh hr (fun h105 hr => ?_)
    refine mb_aload_n (pn := 49) 0 dX6_type_48 rfl rfl rfl ?_
    refine mb_dup (pn := 50) rfl dX6_type_49 rfl ?_
    refine gf_X6_118 (pn := 53) dX6_type_50 rfl ?_
    refine mb_iconst (v := 1) (pn := 54) dX6_type_53 (by decide) rfl ?_
    refine mb_iadd (pn := 55) dX6_type_54 rfl ?_
    refine pf_X6_118 (pn := 58) dX6_type_55 rfl hr (fun h106 hr => ?_)
    refine mb_aload_n (pn := 59) 0 dX6_type_58 rfl rfl rfl ?_
    refine gf_X6_118 (pn := 62) dX6_type_59 rfl ?_
    cases hr
    exact mb_iret dX6_type_62
  · refine mb_iconst (v := 0) (pn := 37) dX6_type_36 (by decide) rfl ?_
    cases hr
    exact mb_iret dX6_type_37
def F_X6_type (x1 : Int32) (h : mb_AH) : Option mb_RS := (mb_cI (F_X6_within x1 (32 : Int32) (126 : Int32) h) fun y102 h101 => (if y102 = 0 then (B_X6_type_30  x1 1 h101) else (if (h101.1 6 0 0 6) = 70 then (B_X6_type_30  x1 2 h101) else (B_X6_type_30  x1 0 h101))))
set_option maxRecDepth 100000 in
set_option maxHeartbeats 4000000 in
theorem C_X6_type {l : Launch} {G : mb_G} (hst : l.stackTraces = false) (hg : mb_gok G) {x1 : Int32} {h : mb_AH} {res : mb_RS} (hr : F_X6_type x1 h = some res) : mb_Mt l G yX6_type cX6_type 2 (some .int) 1 [mb_F 6 0 0, .inl x1] h res := by
  refine mb_entry (own := RX6) (lv := [(0, mb_F 6 0 0), (1, .inl x1)]) (by decide +kernel) rfl (Nat.le_of_ble_eq_true rfl) rfl rfl (fun _ => ?_) hst hg
  unfold F_X6_type at hr
  refine mb_aload_n (pn := 1) 0 dX6_type_0 rfl rfl rfl ?_
  refine mb_iload_n (pn := 2) 1 dX6_type_1 rfl rfl rfl ?_
  refine mb_bipush (v := 32) (pn := 4) dX6_type_2 (by decide) rfl ?_
  refine mb_bipush (v := 126) (pn := 6) dX6_type_4 (by decide) rfl ?_
  refine cl_X6_46 (pn := 9) hst hg (Nat.le_of_ble_eq_true rfl) (Nat.le_of_ble_eq_true rfl) dX6_type_6 rfl hr (fun y102 h101 hr => ?_)
  refine mb_if_ne (tgt := 16) (pn := 12) dX6_type_9 (by decide) rfl hr (fun hr => ?_) (fun hr => ?_)
  · refine mb_aload_n (pn := 17) 0 dX6_type_16 rfl rfl rfl ?_
    refine gf_X6_118 (pn := 20) dX6_type_17 rfl ?_
    refine mb_bipush (v := 70) (pn := 22) dX6_type_20 (by decide) rfl ?_
    refine mb_ic_ne (tgt := 29) (pn := 25) dX6_type_22 (by decide) rfl hr (fun hr => ?_) (fun hr => ?_)
    · refine mb_iconst (v := 0) (pn := 30) dX6_type_29 (by decide) rfl ?_
      exact mb_lvs [0, 1] rfl (T_X6_type_30 hst hg  hr)
    · refine mb_iconst (v := 2) (pn := 26) dX6_type_25 (by decide) rfl ?_
      refine mb_goto (tgt := 30) dX6_type_26 (by decide) ?_
      exact mb_lvs [0, 1] rfl (T_X6_type_30 hst hg  hr)
  · refine mb_iconst (v := 1) (pn := 13) dX6_type_12 (by decide) rfl ?_
    refine mb_goto (tgt := 30) dX6_type_13 (by decide) ?_
    exact mb_lvs [0, 1] rfl (T_X6_type_30 hst hg  hr)
def F_X6_clearText  (h : mb_AH) : Option mb_RS := (mb_up (mb_sI h 6 0 0 4 0) fun h101 => (mb_lI (h101.1 6 0 0 6) fun y102 => (mb_up (mb_sI h101 6 0 0 6 0) fun h103 => (some (.inl (some (.inl y102)), h103)))))
set_option maxRecDepth 100000 in
set_option maxHeartbeats 4000000 in
theorem C_X6_clearText {l : Launch} {G : mb_G} (hst : l.stackTraces = false) (hg : mb_gok G)  {h : mb_AH} {res : mb_RS} (hr : F_X6_clearText  h = some res) : mb_Mt l G yX6_clearText cX6_clearText 2 (some .int) 0 [mb_F 6 0 0] h res := by
  refine mb_entry (own := RX6) (lv := [(0, mb_F 6 0 0)]) (by decide +kernel) rfl (Nat.le_of_ble_eq_true rfl) rfl rfl (fun _ => ?_) hst hg
  unfold F_X6_clearText at hr
  refine mb_aload_n (pn := 1) 0 dX6_clearText_0 rfl rfl rfl ?_
  refine mb_iconst (v := 0) (pn := 2) dX6_clearText_1 (by decide) rfl ?_
  refine pf_X6_35 (pn := 5) dX6_clearText_2 rfl hr (fun h101 hr => ?_)
  refine mb_aload_n (pn := 6) 0 dX6_clearText_5 rfl rfl rfl ?_
  refine gf_X6_118 (pn := 9) dX6_clearText_6 rfl ?_
  refine mb_nmI hr (fun y102 hr => ?_)
  refine mb_istore_n (pn := 10) (lv2 := [(1, .inl y102), (0, mb_F 6 0 0)]) dX6_clearText_9 rfl (by decide) rfl rfl ?_
  refine mb_aload_n (pn := 11) 1 dX6_clearText_10 rfl rfl rfl ?_
  refine mb_iconst (v := 0) (pn := 12) dX6_clearText_11 (by decide) rfl ?_
  refine pf_X6_118 (pn := 15) dX6_clearText_12 rfl hr (fun h103 hr => ?_)
  refine mb_iload_n (pn := 16) 0 dX6_clearText_15 rfl rfl rfl ?_
  cases hr
  exact mb_iret dX6_clearText_16
def F_X6_fault  (h : mb_AH) : Option mb_RS := (mb_up (mb_sI h 6 0 0 4 0) fun h101 => (mb_cI (F_X6_reads h101) fun y103 h102 => (some (.inl (some (.inl y103)), h102))))
set_option maxRecDepth 100000 in
set_option maxHeartbeats 4000000 in
theorem C_X6_fault {l : Launch} {G : mb_G} (hst : l.stackTraces = false) (hg : mb_gok G)  {h : mb_AH} {res : mb_RS} (hr : F_X6_fault  h = some res) : mb_Mt l G yX6_fault cX6_fault 1 (some .int) 4 [mb_F 6 0 0] h res := by
  refine mb_entry (own := RX6) (lv := [(0, mb_F 6 0 0)]) (by decide +kernel) rfl (Nat.le_of_ble_eq_true rfl) rfl rfl (fun _ => ?_) hst hg
  unfold F_X6_fault at hr
  refine mb_aload_n (pn := 1) 0 dX6_fault_0 rfl rfl rfl ?_
  refine mb_iconst (v := 0) (pn := 2) dX6_fault_1 (by decide) rfl ?_
  refine pf_X6_35 (pn := 5) dX6_fault_2 rfl hr (fun h101 hr => ?_)
  refine mb_aload_n (pn := 6) 0 dX6_fault_5 rfl rfl rfl ?_
  refine cl_X6_139 (pn := 9) hst hg (Nat.le_of_ble_eq_true rfl) (Nat.le_of_ble_eq_true rfl) dX6_fault_6 rfl hr (fun y103 h102 hr => ?_)
  cases hr
  exact mb_iret dX6_fault_9
def F_X6_mix (x1 : Int64) (h : mb_AH) : Option mb_RS := (mb_up (mb_sL h 6 0 0 15 (((31 : Int64) * (h.2.1 6 0 0 15)) + x1)) fun h101 => (some (.inl none, h101)))
set_option maxRecDepth 100000 in
set_option maxHeartbeats 4000000 in
theorem C_X6_mix {l : Launch} {G : mb_G} (hst : l.stackTraces = false) (hg : mb_gok G) {x1 : Int64} {h : mb_AH} {res : mb_RS} (hr : F_X6_mix x1 h = some res) : mb_Mt l G yX6_mix cX6_mix 3 none 0 [mb_F 6 0 0, .inr (.inl x1)] h res := by
  refine mb_entry (own := RX6) (lv := [(0, mb_F 6 0 0), (1, .inr (.inl x1))]) (by decide +kernel) rfl (Nat.le_of_ble_eq_true rfl) rfl rfl (fun _ => ?_) hst hg
  unfold F_X6_mix at hr
  refine mb_aload_n (pn := 1) 0 dX6_mix_0 rfl rfl rfl ?_
  refine mb_ldc2 (v := 31) (pn := 4) wk_X6_215 dX6_mix_1 rfl ?_
  refine mb_aload_n (pn := 5) 0 dX6_mix_4 rfl rfl rfl ?_
  refine gf_X6_217 (pn := 8) dX6_mix_5 rfl ?_
  refine mb_lmul (pn := 9) dX6_mix_8 rfl ?_
  refine mb_lload_n (pn := 10) 1 dX6_mix_9 rfl rfl rfl ?_
  refine mb_ladd (pn := 11) dX6_mix_10 rfl ?_
  refine pf_X6_217 (pn := 14) dX6_mix_11 rfl hr (fun h101 hr => ?_)
  cases hr
  exact mb_vret dX6_mix_14
set_option maxRecDepth 100000 in
set_option maxHeartbeats 4000000 in
theorem cl_X6_223 {l : Launch} {G : mb_G} {cc : ByteArray} {nL : Nat} {ret : Option FieldType} {d pc pn : Nat} {lv : List (Nat × mb_AV)} {st : List mb_AV} {h : mb_AH} {res : mb_RS} (hst : l.stackTraces = false) (hg : mb_gok G) {x1 : Int64} {K : mb_AH → Option mb_RS} (hd2 : 0 + 1 ≤ d) (hs4 : st.length ≤ 4) (dg : decode cc pc = .ok (.invokevirtual 223, 3)) (hn : pc + 3 = pn) (hr : mb_cV (F_X6_mix x1 h) K = some res) (kk : ∀ (h2 : mb_AH), K h2 = some res → mb_Ev l G RX6 cc nL ret d pn lv st h2 res) : mb_Ev l G RX6 cc nL ret d pc lv (.inr (.inl x1) :: mb_F 6 0 0 :: st) h res := mb_kVV (as := [.inr (.inl x1)]) (n := 1) (d2 := 0) (ci := 6) (fun _ hf => C_X6_mix hst hg hf) (mb_gV wl_X6_223 mi_X6_mix ms_X6_mix mn_X6 mc_X6_mix) (by decide +kernel) rfl rfl rfl hd2 (by decide) hs4 rfl dg hn hr kk
def B_X6_checksum_185  : Nat → Int32 → Int32 → mb_AH → Option mb_RS
  | 0, _, _, _ => none
  | n + 1, v1, v2, h => (if v1 ≤ v2 then (mb_cL (F_X6_owedNow h) fun y106 h105 => (mb_cV (F_X6_mix y106 h105) fun h107 => (mb_cL (F_X6_paidNow h107) fun y109 h108 => (mb_cV (F_X6_mix y109 h108) fun h110 => (mb_cV (F_X6_mix ((h110.1 6 0 0 6).toInt64) h110) fun h111 => (mb_cV (F_X6_mix ((h111.1 6 0 0 3).toInt64) h111) fun h112 => (some (.inl (some (.inr (.inl (h112.2.1 6 0 0 15)))), h112)))))))) else (mb_cI (F_X6_waitingAt v2 h) fun y114 h113 => (mb_cV (F_X6_mix y114.toInt64 h113) fun h115 => (mb_lI (v2 + 1) fun y116 => ((B_X6_checksum_185  n) v1 y116 h115)))))
set_option maxRecDepth 100000 in
set_option maxHeartbeats 4000000 in
theorem T_X6_checksum_185 {l : Launch} {G : mb_G} {res : mb_RS} (hst : l.stackTraces = false) (hg : mb_gok G)   : ∀ (n : Nat) (v1 : Int32) (v2 : Int32) (h : mb_AH), B_X6_checksum_185  n v1 v2 h = some res → mb_Ev l G RX6 cX6_checksum 3 (some .long) 4 185 [(0, mb_F 6 0 0), (1, .inl v1), (2, .inl v2)] [] h res := by
  intro n
  induction n with
  | zero => intro v1 v2 h hr; cases hr
  | succ n ih =>
    intro v1 v2 h hr
    rw [B_X6_checksum_185] at hr
    refine mb_iload_n (pn := 186) 2 dX6_checksum_185 rfl rfl rfl ?_
    refine mb_iload_n (pn := 187) 1 dX6_checksum_186 rfl rfl rfl ?_
    refine mb_ic_ge (tgt := 206) (pn := 190) dX6_checksum_187 (by decide) rfl hr (fun hr => ?_) (fun hr => ?_)
    · refine mb_aload_n (pn := 207) 0 dX6_checksum_206 rfl rfl rfl ?_
      refine mb_aload_n (pn := 208) 0 dX6_checksum_207 rfl rfl rfl ?_
      refine cl_X6_209 (pn := 211) hst hg (Nat.le_of_ble_eq_true rfl) (Nat.le_of_ble_eq_true rfl) dX6_checksum_208 rfl hr (fun y106 h105 hr => ?_)
      refine cl_X6_223 (pn := 214) hst hg (Nat.le_of_ble_eq_true rfl) (Nat.le_of_ble_eq_true rfl) dX6_checksum_211 rfl hr (fun h107 hr => ?_)
      refine mb_aload_n (pn := 215) 0 dX6_checksum_214 rfl rfl rfl ?_
      refine mb_aload_n (pn := 216) 0 dX6_checksum_215 rfl rfl rfl ?_
      refine cl_X6_203 (pn := 219) hst hg (Nat.le_of_ble_eq_true rfl) (Nat.le_of_ble_eq_true rfl) dX6_checksum_216 rfl hr (fun y109 h108 hr => ?_)
      refine cl_X6_223 (pn := 222) hst hg (Nat.le_of_ble_eq_true rfl) (Nat.le_of_ble_eq_true rfl) dX6_checksum_219 rfl hr (fun h110 hr => ?_)
      refine mb_aload_n (pn := 223) 0 dX6_checksum_222 rfl rfl rfl ?_
      refine mb_aload_n (pn := 224) 0 dX6_checksum_223 rfl rfl rfl ?_
      refine gf_X6_118 (pn := 227) dX6_checksum_224 rfl ?_
      refine mb_i2l (pn := 228) dX6_checksum_227 rfl ?_
      refine cl_X6_223 (pn := 231) hst hg (Nat.le_of_ble_eq_true rfl) (Nat.le_of_ble_eq_true rfl) dX6_checksum_228 rfl hr (fun h111 hr => ?_)
      refine mb_aload_n (pn := 232) 0 dX6_checksum_231 rfl rfl rfl ?_
      refine mb_aload_n (pn := 233) 0 dX6_checksum_232 rfl rfl rfl ?_
      refine gf_X6_39 (pn := 236) dX6_checksum_233 rfl ?_
      refine mb_i2l (pn := 237) dX6_checksum_236 rfl ?_
      refine cl_X6_223 (pn := 240) hst hg (Nat.le_of_ble_eq_true rfl) (Nat.le_of_ble_eq_true rfl) dX6_checksum_237 rfl hr (fun h112 hr => ?_)
      refine mb_aload_n (pn := 241) 0 dX6_checksum_240 rfl rfl rfl ?_
      refine gf_X6_217 (pn := 244) dX6_checksum_241 rfl ?_
      cases hr
      exact mb_lret dX6_checksum_244
    · refine mb_aload_n (pn := 191) 0 dX6_checksum_190 rfl rfl rfl ?_
      refine mb_aload_n (pn := 192) 0 dX6_checksum_191 rfl rfl rfl ?_
      refine mb_iload_n (pn := 193) 2 dX6_checksum_192 rfl rfl rfl ?_
      refine cl_X6_188 (pn := 196) hst hg (Nat.le_of_ble_eq_true rfl) (Nat.le_of_ble_eq_true rfl) dX6_checksum_193 rfl hr (fun y114 h113 hr => ?_)
      refine mb_i2l (pn := 197) dX6_checksum_196 rfl ?_
      refine cl_X6_223 (pn := 200) hst hg (Nat.le_of_ble_eq_true rfl) (Nat.le_of_ble_eq_true rfl) dX6_checksum_197 rfl hr (fun h115 hr => ?_)
      refine mb_nmx hr (fun y116 qy116 hr => ?_)
      refine mb_iinc (v := y116) (pn := 203) (lv2 := [(2, .inl y116), (0, mb_F 6 0 0), (1, .inl v1)]) 2 dX6_checksum_200 rfl (by rw [qy116]; rfl) (by decide) rfl rfl ?_
      refine mb_goto (tgt := 185) dX6_checksum_203 (by decide) ?_
      exact mb_lvs [1, 2, 0] rfl (ih _ _ _ hr)
def B_X6_checksum_128 (K115 : Int32 → mb_AH → Option mb_RS) : Nat → Int32 → Int32 → mb_AH → Option mb_RS
  | 0, _, _, _ => none
  | n + 1, v1, v2, h => (if 10 ≤ v2 then (mb_cI (F_X6_bestOf v1 h) fun y118 h117 => (mb_cV (F_X6_mix y118.toInt64 h117) fun h119 => (mb_cI (F_X6_grounds v1 h119) fun y121 h120 => (mb_cV (F_X6_mix y121.toInt64 h120) fun h122 => (mb_lI (v1 + 1) fun y123 => (K115 y123 h122)))))) else (mb_cI (F_X6_boatTold v1 v2 h) fun y125 h124 => (mb_cV (F_X6_mix y125.toInt64 h124) fun h126 => (mb_lI (v2 + 1) fun y127 => ((B_X6_checksum_128 K115 n) v1 y127 h126)))))
set_option maxRecDepth 100000 in
set_option maxHeartbeats 4000000 in
theorem T_X6_checksum_128 {l : Launch} {G : mb_G} {res : mb_RS} (hst : l.stackTraces = false) (hg : mb_gok G) {K115 : Int32 → mb_AH → Option mb_RS} (hK115 : ∀ (v1z : Int32) (hz : mb_AH), K115 v1z hz = some res → mb_Ev l G RX6 cX6_checksum 3 (some .long) 4 115 [(0, mb_F 6 0 0), (1, .inl v1z)] [] hz res) : ∀ (n : Nat) (v1 : Int32) (v2 : Int32) (h : mb_AH), B_X6_checksum_128 K115 n v1 v2 h = some res → mb_Ev l G RX6 cX6_checksum 3 (some .long) 4 128 [(0, mb_F 6 0 0), (1, .inl v1), (2, .inl v2)] [] h res := by
  intro n
  induction n with
  | zero => intro v1 v2 h hr; cases hr
  | succ n ih =>
    intro v1 v2 h hr
    rw [B_X6_checksum_128] at hr
    refine mb_iload_n (pn := 129) 2 dX6_checksum_128 rfl rfl rfl ?_
    refine mb_bipush (v := 10) (pn := 131) dX6_checksum_129 (by decide) rfl ?_
    refine mb_ic_ge (tgt := 151) (pn := 134) dX6_checksum_131 (by decide) rfl hr (fun hr => ?_) (fun hr => ?_)
    · refine mb_aload_n (pn := 152) 0 dX6_checksum_151 rfl rfl rfl ?_
      refine mb_aload_n (pn := 153) 0 dX6_checksum_152 rfl rfl rfl ?_
      refine mb_iload_n (pn := 154) 1 dX6_checksum_153 rfl rfl rfl ?_
      refine cl_X6_191 (pn := 157) hst hg (Nat.le_of_ble_eq_true rfl) (Nat.le_of_ble_eq_true rfl) dX6_checksum_154 rfl hr (fun y118 h117 hr => ?_)
      refine mb_i2l (pn := 158) dX6_checksum_157 rfl ?_
      refine cl_X6_223 (pn := 161) hst hg (Nat.le_of_ble_eq_true rfl) (Nat.le_of_ble_eq_true rfl) dX6_checksum_158 rfl hr (fun h119 hr => ?_)
      refine mb_aload_n (pn := 162) 0 dX6_checksum_161 rfl rfl rfl ?_
      refine mb_aload_n (pn := 163) 0 dX6_checksum_162 rfl rfl rfl ?_
      refine mb_iload_n (pn := 164) 1 dX6_checksum_163 rfl rfl rfl ?_
      refine cl_X6_212 (pn := 167) hst hg (Nat.le_of_ble_eq_true rfl) (Nat.le_of_ble_eq_true rfl) dX6_checksum_164 rfl hr (fun y121 h120 hr => ?_)
      refine mb_i2l (pn := 168) dX6_checksum_167 rfl ?_
      refine cl_X6_223 (pn := 171) hst hg (Nat.le_of_ble_eq_true rfl) (Nat.le_of_ble_eq_true rfl) dX6_checksum_168 rfl hr (fun h122 hr => ?_)
      refine mb_nmx hr (fun y123 qy123 hr => ?_)
      refine mb_iinc (v := y123) (pn := 174) (lv2 := [(1, .inl y123), (0, mb_F 6 0 0), (2, .inl v2)]) 1 dX6_checksum_171 rfl (by rw [qy123]; rfl) (by decide) rfl rfl ?_
      refine mb_goto (tgt := 115) dX6_checksum_174 (by decide) ?_
      exact mb_lvs [1, 0] rfl (hK115 _ _ hr)
    · refine mb_aload_n (pn := 135) 0 dX6_checksum_134 rfl rfl rfl ?_
      refine mb_aload_n (pn := 136) 0 dX6_checksum_135 rfl rfl rfl ?_
      refine mb_iload_n (pn := 137) 1 dX6_checksum_136 rfl rfl rfl ?_
      refine mb_iload_n (pn := 138) 2 dX6_checksum_137 rfl rfl rfl ?_
      refine cl_X6_164 (pn := 141) hst hg (Nat.le_of_ble_eq_true rfl) (Nat.le_of_ble_eq_true rfl) dX6_checksum_138 rfl hr (fun y125 h124 hr => ?_)
      refine mb_i2l (pn := 142) dX6_checksum_141 rfl ?_
      refine cl_X6_223 (pn := 145) hst hg (Nat.le_of_ble_eq_true rfl) (Nat.le_of_ble_eq_true rfl) dX6_checksum_142 rfl hr (fun h126 hr => ?_)
      refine mb_nmx hr (fun y127 qy127 hr => ?_)
      refine mb_iinc (v := y127) (pn := 148) (lv2 := [(2, .inl y127), (0, mb_F 6 0 0), (1, .inl v1)]) 2 dX6_checksum_145 rfl (by rw [qy127]; rfl) (by decide) rfl rfl ?_
      refine mb_goto (tgt := 128) dX6_checksum_148 (by decide) ?_
      exact mb_lvs [1, 2, 0] rfl (ih _ _ _ hr)
def B_X6_checksum_115  : Nat → Int32 → mb_AH → Option mb_RS
  | 0, _, _ => none
  | n + 1, v1, h => (mb_gB 7 270 (if (h.1 20 0 0 (7 : Int32).toNatClampNeg) ≤ v1 then (mb_cI (F_X6_countIn (2 : Int32) h) fun y104 h103 => (B_X6_checksum_185  mb_fu y104 0 h103)) else (B_X6_checksum_128 (B_X6_checksum_115  n) mb_fu v1 0 h)))
set_option maxRecDepth 100000 in
set_option maxHeartbeats 4000000 in
theorem T_X6_checksum_115 {l : Launch} {G : mb_G} {res : mb_RS} (hst : l.stackTraces = false) (hg : mb_gok G)   : ∀ (n : Nat) (v1 : Int32) (h : mb_AH), B_X6_checksum_115  n v1 h = some res → mb_Ev l G RX6 cX6_checksum 3 (some .long) 4 115 [(0, mb_F 6 0 0), (1, .inl v1)] [] h res := by
  intro n
  induction n with
  | zero => intro v1 h hr; cases hr
  | succ n ih =>
    intro v1 h hr
    rw [B_X6_checksum_115] at hr
    refine mb_iload_n (pn := 116) 1 dX6_checksum_115 rfl rfl rfl ?_
    refine mb_aload_n (pn := 117) 0 dX6_checksum_116 rfl rfl rfl ?_
    refine gf_X6_7 (pn := 120) dX6_checksum_117 rfl ?_
    refine mb_bipush (v := 7) (pn := 122) dX6_checksum_120 (by decide) rfl ?_
    refine mb_iald (pn := 123) (n := 270) rfl dX6_checksum_122 rfl hr (fun hr => ?_)
    refine mb_ic_ge (tgt := 177) (pn := 126) dX6_checksum_123 (by decide) rfl hr (fun hr => ?_) (fun hr => ?_)
    · refine mb_aload_n (pn := 178) 0 dX6_checksum_177 rfl rfl rfl ?_
      refine mb_iconst (v := 2) (pn := 179) dX6_checksum_178 (by decide) rfl ?_
      refine cl_X6_170 (pn := 182) hst hg (Nat.le_of_ble_eq_true rfl) (Nat.le_of_ble_eq_true rfl) dX6_checksum_179 rfl hr (fun y104 h103 hr => ?_)
      refine mb_istore_n (pn := 183) (lv2 := [(1, .inl y104), (0, mb_F 6 0 0)]) dX6_checksum_182 rfl (by decide) rfl rfl ?_
      refine mb_iconst (v := 0) (pn := 184) dX6_checksum_183 (by decide) rfl ?_
      refine mb_istore_n (pn := 185) (lv2 := [(2, .inl 0), (1, .inl y104), (0, mb_F 6 0 0)]) dX6_checksum_184 rfl (by decide) rfl rfl ?_
      exact mb_lvs [2, 1, 0] rfl (T_X6_checksum_185 hst hg  mb_fu _ _ _ hr)
    · refine mb_iconst (v := 0) (pn := 127) dX6_checksum_126 (by decide) rfl ?_
      refine mb_istore_n (pn := 128) (lv2 := [(2, .inl 0), (0, mb_F 6 0 0), (1, .inl v1)]) dX6_checksum_127 rfl (by decide) rfl rfl ?_
      exact mb_lvs [1, 2, 0] rfl (T_X6_checksum_128 hst hg ih mb_fu _ _ _ hr)
def B_X6_checksum_84 (K71 : Int32 → mb_AH → Option mb_RS) : Nat → Int32 → Int32 → mb_AH → Option mb_RS
  | 0, _, _, _ => none
  | n + 1, v1, v2, h => (if 7 ≤ v2 then (mb_lI (v1 + 1) fun y128 => (K71 y128 h)) else (mb_cI (F_X6_berthTold v1 v2 h) fun y130 h129 => (mb_cV (F_X6_mix y130.toInt64 h129) fun h131 => (mb_lI (v2 + 1) fun y132 => ((B_X6_checksum_84 K71 n) v1 y132 h131)))))
set_option maxRecDepth 100000 in
set_option maxHeartbeats 4000000 in
theorem T_X6_checksum_84 {l : Launch} {G : mb_G} {res : mb_RS} (hst : l.stackTraces = false) (hg : mb_gok G) {K71 : Int32 → mb_AH → Option mb_RS} (hK71 : ∀ (v1z : Int32) (hz : mb_AH), K71 v1z hz = some res → mb_Ev l G RX6 cX6_checksum 3 (some .long) 4 71 [(0, mb_F 6 0 0), (1, .inl v1z)] [] hz res) : ∀ (n : Nat) (v1 : Int32) (v2 : Int32) (h : mb_AH), B_X6_checksum_84 K71 n v1 v2 h = some res → mb_Ev l G RX6 cX6_checksum 3 (some .long) 4 84 [(0, mb_F 6 0 0), (1, .inl v1), (2, .inl v2)] [] h res := by
  intro n
  induction n with
  | zero => intro v1 v2 h hr; cases hr
  | succ n ih =>
    intro v1 v2 h hr
    rw [B_X6_checksum_84] at hr
    refine mb_iload_n (pn := 85) 2 dX6_checksum_84 rfl rfl rfl ?_
    refine mb_bipush (v := 7) (pn := 87) dX6_checksum_85 (by decide) rfl ?_
    refine mb_ic_ge (tgt := 107) (pn := 90) dX6_checksum_87 (by decide) rfl hr (fun hr => ?_) (fun hr => ?_)
    · refine mb_nmx hr (fun y128 qy128 hr => ?_)
      refine mb_iinc (v := y128) (pn := 110) (lv2 := [(1, .inl y128), (0, mb_F 6 0 0), (2, .inl v2)]) 1 dX6_checksum_107 rfl (by rw [qy128]; rfl) (by decide) rfl rfl ?_
      refine mb_goto (tgt := 71) dX6_checksum_110 (by decide) ?_
      exact mb_lvs [1, 0] rfl (hK71 _ _ hr)
    · refine mb_aload_n (pn := 91) 0 dX6_checksum_90 rfl rfl rfl ?_
      refine mb_aload_n (pn := 92) 0 dX6_checksum_91 rfl rfl rfl ?_
      refine mb_iload_n (pn := 93) 1 dX6_checksum_92 rfl rfl rfl ?_
      refine mb_iload_n (pn := 94) 2 dX6_checksum_93 rfl rfl rfl ?_
      refine cl_X6_155 (pn := 97) hst hg (Nat.le_of_ble_eq_true rfl) (Nat.le_of_ble_eq_true rfl) dX6_checksum_94 rfl hr (fun y130 h129 hr => ?_)
      refine mb_i2l (pn := 98) dX6_checksum_97 rfl ?_
      refine cl_X6_223 (pn := 101) hst hg (Nat.le_of_ble_eq_true rfl) (Nat.le_of_ble_eq_true rfl) dX6_checksum_98 rfl hr (fun h131 hr => ?_)
      refine mb_nmx hr (fun y132 qy132 hr => ?_)
      refine mb_iinc (v := y132) (pn := 104) (lv2 := [(2, .inl y132), (0, mb_F 6 0 0), (1, .inl v1)]) 2 dX6_checksum_101 rfl (by rw [qy132]; rfl) (by decide) rfl rfl ?_
      refine mb_goto (tgt := 84) dX6_checksum_104 (by decide) ?_
      exact mb_lvs [1, 2, 0] rfl (ih _ _ _ hr)
def B_X6_checksum_71  : Nat → Int32 → mb_AH → Option mb_RS
  | 0, _, _ => none
  | n + 1, v1, h => (mb_gB 6 270 (if (h.1 20 0 0 (6 : Int32).toNatClampNeg) ≤ v1 then (B_X6_checksum_115  mb_fu 0 h) else (B_X6_checksum_84 (B_X6_checksum_71  n) mb_fu v1 0 h)))
set_option maxRecDepth 100000 in
set_option maxHeartbeats 4000000 in
theorem T_X6_checksum_71 {l : Launch} {G : mb_G} {res : mb_RS} (hst : l.stackTraces = false) (hg : mb_gok G)   : ∀ (n : Nat) (v1 : Int32) (h : mb_AH), B_X6_checksum_71  n v1 h = some res → mb_Ev l G RX6 cX6_checksum 3 (some .long) 4 71 [(0, mb_F 6 0 0), (1, .inl v1)] [] h res := by
  intro n
  induction n with
  | zero => intro v1 h hr; cases hr
  | succ n ih =>
    intro v1 h hr
    rw [B_X6_checksum_71] at hr
    refine mb_iload_n (pn := 72) 1 dX6_checksum_71 rfl rfl rfl ?_
    refine mb_aload_n (pn := 73) 0 dX6_checksum_72 rfl rfl rfl ?_
    refine gf_X6_7 (pn := 76) dX6_checksum_73 rfl ?_
    refine mb_bipush (v := 6) (pn := 78) dX6_checksum_76 (by decide) rfl ?_
    refine mb_iald (pn := 79) (n := 270) rfl dX6_checksum_78 rfl hr (fun hr => ?_)
    refine mb_ic_ge (tgt := 113) (pn := 82) dX6_checksum_79 (by decide) rfl hr (fun hr => ?_) (fun hr => ?_)
    · refine mb_iconst (v := 0) (pn := 114) dX6_checksum_113 (by decide) rfl ?_
      refine mb_istore_n (pn := 115) (lv2 := [(1, .inl 0), (0, mb_F 6 0 0)]) dX6_checksum_114 rfl (by decide) rfl rfl ?_
      exact mb_lvs [1, 0] rfl (T_X6_checksum_115 hst hg  mb_fu _ _ hr)
    · refine mb_iconst (v := 0) (pn := 83) dX6_checksum_82 (by decide) rfl ?_
      refine mb_istore_n (pn := 84) (lv2 := [(2, .inl 0), (0, mb_F 6 0 0), (1, .inl v1)]) dX6_checksum_83 rfl (by decide) rfl rfl ?_
      exact mb_lvs [1, 2, 0] rfl (T_X6_checksum_84 hst hg ih mb_fu _ _ _ hr)
def B_X6_checksum_38  : Nat → Int32 → mb_AH → Option mb_RS
  | 0, _, _ => none
  | n + 1, v1, h => (mb_gB 8 270 (if (h.1 20 0 0 (8 : Int32).toNatClampNeg) ≤ v1 then (B_X6_checksum_71  mb_fu 0 h) else (mb_gB ((12 : Int32) + v1) 270 (mb_cV (F_X6_mix ((h.1 20 0 0 ((12 : Int32) + v1).toNatClampNeg).toInt64) h) fun h133 => (mb_lI (v1 + 1) fun y134 => ((B_X6_checksum_38  n) y134 h133))))))
set_option maxRecDepth 100000 in
set_option maxHeartbeats 4000000 in
theorem T_X6_checksum_38 {l : Launch} {G : mb_G} {res : mb_RS} (hst : l.stackTraces = false) (hg : mb_gok G)   : ∀ (n : Nat) (v1 : Int32) (h : mb_AH), B_X6_checksum_38  n v1 h = some res → mb_Ev l G RX6 cX6_checksum 3 (some .long) 4 38 [(0, mb_F 6 0 0), (1, .inl v1)] [] h res := by
  intro n
  induction n with
  | zero => intro v1 h hr; cases hr
  | succ n ih =>
    intro v1 h hr
    rw [B_X6_checksum_38] at hr
    refine mb_iload_n (pn := 39) 1 dX6_checksum_38 rfl rfl rfl ?_
    refine mb_aload_n (pn := 40) 0 dX6_checksum_39 rfl rfl rfl ?_
    refine gf_X6_7 (pn := 43) dX6_checksum_40 rfl ?_
    refine mb_bipush (v := 8) (pn := 45) dX6_checksum_43 (by decide) rfl ?_
    refine mb_iald (pn := 46) (n := 270) rfl dX6_checksum_45 rfl hr (fun hr => ?_)
    refine mb_ic_ge (tgt := 69) (pn := 49) dX6_checksum_46 (by decide) rfl hr (fun hr => ?_) (fun hr => ?_)
    · refine mb_iconst (v := 0) (pn := 70) dX6_checksum_69 (by decide) rfl ?_
      refine mb_istore_n (pn := 71) (lv2 := [(1, .inl 0), (0, mb_F 6 0 0)]) dX6_checksum_70 rfl (by decide) rfl rfl ?_
      exact mb_lvs [1, 0] rfl (T_X6_checksum_71 hst hg  mb_fu _ _ hr)
    · refine mb_aload_n (pn := 50) 0 dX6_checksum_49 rfl rfl rfl ?_
      refine mb_aload_n (pn := 51) 0 dX6_checksum_50 rfl rfl rfl ?_
      refine gf_X6_7 (pn := 54) dX6_checksum_51 rfl ?_
      refine mb_bipush (v := 12) (pn := 56) dX6_checksum_54 (by decide) rfl ?_
      refine mb_iload_n (pn := 57) 1 dX6_checksum_56 rfl rfl rfl ?_
      refine mb_iadd (pn := 58) dX6_checksum_57 rfl ?_
      refine mb_iald (pn := 59) (n := 270) rfl dX6_checksum_58 rfl hr (fun hr => ?_)
      refine mb_i2l (pn := 60) dX6_checksum_59 rfl ?_
      refine cl_X6_223 (pn := 63) hst hg (Nat.le_of_ble_eq_true rfl) (Nat.le_of_ble_eq_true rfl) dX6_checksum_60 rfl hr (fun h133 hr => ?_)
      refine mb_nmx hr (fun y134 qy134 hr => ?_)
      refine mb_iinc (v := y134) (pn := 66) (lv2 := [(1, .inl y134), (0, mb_F 6 0 0)]) 1 dX6_checksum_63 rfl (by rw [qy134]; rfl) (by decide) rfl rfl ?_
      refine mb_goto (tgt := 38) dX6_checksum_66 (by decide) ?_
      exact mb_lvs [1, 0] rfl (ih _ _ hr)
def B_X6_checksum_14  : Nat → Int32 → mb_AH → Option mb_RS
  | 0, _, _ => none
  | n + 1, v1, h => (if 14 ≤ v1 then (B_X6_checksum_38  mb_fu 0 h) else (mb_cI (F_X6_infoTold v1 h) fun y136 h135 => (mb_cV (F_X6_mix y136.toInt64 h135) fun h137 => (mb_lI (v1 + 1) fun y138 => ((B_X6_checksum_14  n) y138 h137)))))
set_option maxRecDepth 100000 in
set_option maxHeartbeats 4000000 in
theorem T_X6_checksum_14 {l : Launch} {G : mb_G} {res : mb_RS} (hst : l.stackTraces = false) (hg : mb_gok G)   : ∀ (n : Nat) (v1 : Int32) (h : mb_AH), B_X6_checksum_14  n v1 h = some res → mb_Ev l G RX6 cX6_checksum 3 (some .long) 4 14 [(0, mb_F 6 0 0), (1, .inl v1)] [] h res := by
  intro n
  induction n with
  | zero => intro v1 h hr; cases hr
  | succ n ih =>
    intro v1 h hr
    rw [B_X6_checksum_14] at hr
    refine mb_iload_n (pn := 15) 1 dX6_checksum_14 rfl rfl rfl ?_
    refine mb_bipush (v := 14) (pn := 17) dX6_checksum_15 (by decide) rfl ?_
    refine mb_ic_ge (tgt := 36) (pn := 20) dX6_checksum_17 (by decide) rfl hr (fun hr => ?_) (fun hr => ?_)
    · refine mb_iconst (v := 0) (pn := 37) dX6_checksum_36 (by decide) rfl ?_
      refine mb_istore_n (pn := 38) (lv2 := [(1, .inl 0), (0, mb_F 6 0 0)]) dX6_checksum_37 rfl (by decide) rfl rfl ?_
      exact mb_lvs [1, 0] rfl (T_X6_checksum_38 hst hg  mb_fu _ _ hr)
    · refine mb_aload_n (pn := 21) 0 dX6_checksum_20 rfl rfl rfl ?_
      refine mb_aload_n (pn := 22) 0 dX6_checksum_21 rfl rfl rfl ?_
      refine mb_iload_n (pn := 23) 1 dX6_checksum_22 rfl rfl rfl ?_
      refine cl_X6_179 (pn := 26) hst hg (Nat.le_of_ble_eq_true rfl) (Nat.le_of_ble_eq_true rfl) dX6_checksum_23 rfl hr (fun y136 h135 hr => ?_)
      refine mb_i2l (pn := 27) dX6_checksum_26 rfl ?_
      refine cl_X6_223 (pn := 30) hst hg (Nat.le_of_ble_eq_true rfl) (Nat.le_of_ble_eq_true rfl) dX6_checksum_27 rfl hr (fun h137 hr => ?_)
      refine mb_nmx hr (fun y138 qy138 hr => ?_)
      refine mb_iinc (v := y138) (pn := 33) (lv2 := [(1, .inl y138), (0, mb_F 6 0 0)]) 1 dX6_checksum_30 rfl (by rw [qy138]; rfl) (by decide) rfl rfl ?_
      refine mb_goto (tgt := 14) dX6_checksum_33 (by decide) ?_
      exact mb_lvs [1, 0] rfl (ih _ _ hr)
def F_X6_checksum  (h : mb_AH) : Option mb_RS := (mb_up (mb_sI h 6 0 0 4 0) fun h101 => (mb_up (mb_sL h101 6 0 0 15 43079) fun h102 => (B_X6_checksum_14  mb_fu 0 h102)))
set_option maxRecDepth 100000 in
set_option maxHeartbeats 4000000 in
theorem C_X6_checksum {l : Launch} {G : mb_G} (hst : l.stackTraces = false) (hg : mb_gok G)  {h : mb_AH} {res : mb_RS} (hr : F_X6_checksum  h = some res) : mb_Mt l G yX6_checksum cX6_checksum 3 (some .long) 4 [mb_F 6 0 0] h res := by
  refine mb_entry (own := RX6) (lv := [(0, mb_F 6 0 0)]) (by decide +kernel) rfl (Nat.le_of_ble_eq_true rfl) rfl rfl (fun _ => ?_) hst hg
  unfold F_X6_checksum at hr
  refine mb_aload_n (pn := 1) 0 dX6_checksum_0 rfl rfl rfl ?_
  refine mb_iconst (v := 0) (pn := 2) dX6_checksum_1 (by decide) rfl ?_
  refine pf_X6_35 (pn := 5) dX6_checksum_2 rfl hr (fun h101 hr => ?_)
  refine mb_aload_n (pn := 6) 0 dX6_checksum_5 rfl rfl rfl ?_
  refine mb_ldc2 (v := 43079) (pn := 9) wk_X6_221 dX6_checksum_6 rfl ?_
  refine pf_X6_217 (pn := 12) dX6_checksum_9 rfl hr (fun h102 hr => ?_)
  refine mb_iconst (v := 0) (pn := 13) dX6_checksum_12 (by decide) rfl ?_
  refine mb_istore_n (pn := 14) (lv2 := [(1, .inl 0), (0, mb_F 6 0 0)]) dX6_checksum_13 rfl (by decide) rfl rfl ?_
  exact mb_lvs [1, 0] rfl (T_X6_checksum_14 hst hg  mb_fu _ _ hr)
