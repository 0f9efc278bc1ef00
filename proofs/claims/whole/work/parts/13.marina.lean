def B_X2_copyFrom_88  : Nat → Nat → Nat → Int32 → mb_AH → Option mb_RS
  | 0, _, _, _, _ => none
  | n + 1, av0, av1, v2, h => (if (h.1 1 av0 0 5) ≤ v2 then (mb_up (mb_sI h 1 av0 0 6 (h.1 1 av1 0 6)) fun h104 => (mb_up (mb_sI h104 1 av0 0 7 (h104.1 1 av1 0 7)) fun h105 => (mb_up (mb_sI h105 1 av0 0 8 (h105.1 1 av1 0 8)) fun h106 => (mb_up (mb_sI h106 1 av0 0 9 (h106.1 1 av1 0 9)) fun h107 => (mb_up (mb_sI h107 1 av0 0 10 (h107.1 1 av1 0 10)) fun h108 => (mb_up (mb_sI h108 1 av0 0 11 (h108.1 1 av1 0 11)) fun h109 => (mb_gZ (h109.1 1 av1 0 12) (mb_up (mb_sI h109 1 av0 0 12 (h109.1 1 av1 0 12)) fun h110 => (mb_up (mb_sL h110 1 av0 0 13 (h110.2.1 1 av1 0 13)) fun h111 => (mb_up (mb_sI h111 1 av0 0 14 (h111.1 1 av1 0 14)) fun h112 => (some (.inl none, h112)))))))))))) else (mb_gB v2 14 (mb_gB v2 14 (mb_up (mb_sI h 12 av0 0 v2.toNatClampNeg (h.1 12 av1 0 v2.toNatClampNeg)) fun h113 => (mb_lI (v2 + 1) fun y114 => ((B_X2_copyFrom_88  n) av0 av1 y114 h113))))))
set_option maxRecDepth 100000 in
set_option maxHeartbeats 4000000 in
theorem T_X2_copyFrom_88 {l : Launch} {G : mb_G} {res : mb_RS} (hst : l.stackTraces = false) (hg : mb_gok G)   : ∀ (n : Nat) (av0 : Nat) (av1 : Nat) (v2 : Int32) (h : mb_AH), B_X2_copyFrom_88  n av0 av1 v2 h = some res → mb_Ev l G RX2 cX2_copyFrom 3 none 2 88 [(0, mb_F 1 av0 0), (1, mb_F 1 av1 0), (2, .inl v2)] [] h res := by
  intro n
  induction n with
  | zero => intro av0 av1 v2 h hr; cases hr
  | succ n ih =>
    intro av0 av1 v2 h hr
    rw [B_X2_copyFrom_88] at hr
    refine mb_iload_n (pn := 89) 2 dX2_copyFrom_88 rfl rfl rfl ?_
    refine mb_aload_n (pn := 90) 0 dX2_copyFrom_89 rfl rfl rfl ?_
    refine gf_X2_27 (pn := 93) dX2_copyFrom_90 rfl ?_
    refine mb_ic_ge (tgt := 114) (pn := 96) dX2_copyFrom_93 (by decide) rfl hr (fun hr => ?_) (fun hr => ?_)
    · refine mb_aload_n (pn := 115) 0 dX2_copyFrom_114 rfl rfl rfl ?_
      refine mb_aload_n (pn := 116) 1 dX2_copyFrom_115 rfl rfl rfl ?_
      refine gf_X2_55 (pn := 119) dX2_copyFrom_116 rfl ?_
      refine pf_X2_55 (pn := 122) dX2_copyFrom_119 rfl hr (fun h104 hr => ?_)
      refine mb_aload_n (pn := 123) 0 dX2_copyFrom_122 rfl rfl rfl ?_
      refine mb_aload_n (pn := 124) 1 dX2_copyFrom_123 rfl rfl rfl ?_
      refine gf_X2_31 (pn := 127) dX2_copyFrom_124 rfl ?_
      refine pf_X2_31 (pn := 130) dX2_copyFrom_127 rfl hr (fun h105 hr => ?_)
      refine mb_aload_n (pn := 131) 0 dX2_copyFrom_130 rfl rfl rfl ?_
      refine mb_aload_n (pn := 132) 1 dX2_copyFrom_131 rfl rfl rfl ?_
      refine gf_X2_58 (pn := 135) dX2_copyFrom_132 rfl ?_
      refine pf_X2_58 (pn := 138) dX2_copyFrom_135 rfl hr (fun h106 hr => ?_)
      refine mb_aload_n (pn := 139) 0 dX2_copyFrom_138 rfl rfl rfl ?_
      refine mb_aload_n (pn := 140) 1 dX2_copyFrom_139 rfl rfl rfl ?_
      refine gf_X2_34 (pn := 143) dX2_copyFrom_140 rfl ?_
      refine pf_X2_34 (pn := 146) dX2_copyFrom_143 rfl hr (fun h107 hr => ?_)
      refine mb_aload_n (pn := 147) 0 dX2_copyFrom_146 rfl rfl rfl ?_
      refine mb_aload_n (pn := 148) 1 dX2_copyFrom_147 rfl rfl rfl ?_
      refine gf_X2_37 (pn := 151) dX2_copyFrom_148 rfl ?_
      refine pf_X2_37 (pn := 154) dX2_copyFrom_151 rfl hr (fun h108 hr => ?_)
      refine mb_aload_n (pn := 155) 0 dX2_copyFrom_154 rfl rfl rfl ?_
      refine mb_aload_n (pn := 156) 1 dX2_copyFrom_155 rfl rfl rfl ?_
      refine gf_X2_61 (pn := 159) dX2_copyFrom_156 rfl ?_
      refine pf_X2_61 (pn := 162) dX2_copyFrom_159 rfl hr (fun h109 hr => ?_)
      refine mb_aload_n (pn := 163) 0 dX2_copyFrom_162 rfl rfl rfl ?_
      refine mb_aload_n (pn := 164) 1 dX2_copyFrom_163 rfl rfl rfl ?_
      refine gf_X2_64 (pn := 167) dX2_copyFrom_164 rfl ?_
      refine pf_X2_64 (pn := 170) dX2_copyFrom_167 rfl hr (fun h110 hr => ?_)
      refine mb_aload_n (pn := 171) 0 dX2_copyFrom_170 rfl rfl rfl ?_
      refine mb_aload_n (pn := 172) 1 dX2_copyFrom_171 rfl rfl rfl ?_
      refine gf_X2_68 (pn := 175) dX2_copyFrom_172 rfl ?_
      refine pf_X2_68 (pn := 178) dX2_copyFrom_175 rfl hr (fun h111 hr => ?_)
      refine mb_aload_n (pn := 179) 0 dX2_copyFrom_178 rfl rfl rfl ?_
      refine mb_aload_n (pn := 180) 1 dX2_copyFrom_179 rfl rfl rfl ?_
      refine gf_X2_72 (pn := 183) dX2_copyFrom_180 rfl ?_
      refine pf_X2_72 (pn := 186) dX2_copyFrom_183 rfl hr (fun h112 hr => ?_)
      cases hr
      exact mb_vret dX2_copyFrom_186
    · refine mb_aload_n (pn := 97) 0 dX2_copyFrom_96 rfl rfl rfl ?_
      refine gf_X2_23 (pn := 100) dX2_copyFrom_97 rfl ?_
      refine mb_iload_n (pn := 101) 2 dX2_copyFrom_100 rfl rfl rfl ?_
      refine mb_aload_n (pn := 102) 1 dX2_copyFrom_101 rfl rfl rfl ?_
      refine gf_X2_23 (pn := 105) dX2_copyFrom_102 rfl ?_
      refine mb_iload_n (pn := 106) 2 dX2_copyFrom_105 rfl rfl rfl ?_
      refine mb_iald (pn := 107) (n := 14) rfl dX2_copyFrom_106 rfl hr (fun hr => ?_)
      refine mb_iast (pn := 108) (n := 14) rfl rfl dX2_copyFrom_107 rfl hr (fun hr => ?_)
      refine mb_nmh hr (fun h113 hr => ?_)
      refine mb_nmx hr (fun y114 qy114 hr => ?_)
      refine mb_iinc (v := y114) (pn := 111) (lv2 := [(2, .inl y114), (0, mb_F 1 av0 0), (1, mb_F 1 av1 0)]) 2 dX2_copyFrom_108 rfl (by rw [qy114]; rfl) (by decide) rfl rfl ?_
      refine mb_goto (tgt := 88) dX2_copyFrom_111 (by decide) ?_
      exact mb_lvs [1, 2, 0] rfl (ih _ _ _ _ hr)
set_option maxRecDepth 100000 in
set_option maxHeartbeats 4000000 in
theorem cl_X2_52 {l : Launch} {G : mb_G} {cc : ByteArray} {nL : Nat} {ret : Option FieldType} {d pc pn : Nat} {lv : List (Nat × mb_AV)} {st : List mb_AV} {h : mb_AH} {res : mb_RS} (hst : l.stackTraces = false) (hg : mb_gok G) {a0 : Nat} {b0 : Nat} {a1 : Nat} {b1 : Nat} {K : mb_AH → Option mb_RS} (hd2 : 0 + 1 ≤ d) (hs4 : st.length ≤ 4) (dg : decode cc pc = .ok (.invokevirtual 52, 3)) (hn : pc + 3 = pn) (hr : mb_cV (F_X1_copyFrom a0 b0 a1 b1 h) K = some res) (kk : ∀ (h2 : mb_AH), K h2 = some res → mb_Ev l G RX2 cc nL ret d pn lv st h2 res) : mb_Ev l G RX2 cc nL ret d pc lv (mb_F 3 a1 b1 :: mb_F 3 a0 b0 :: st) h res := mb_kVV (as := [mb_F 3 a1 b1]) (n := 1) (d2 := 0) (ci := 1) (fun _ hf => C_X1_copyFrom hst hg hf) (mb_gV wl_X2_52 mi_X1_copyFrom ms_X1_copyFrom mn_X1 mc_X1_copyFrom) (by decide +kernel) rfl rfl rfl hd2 (by decide) hs4 rfl dg hn hr kk
def B_X2_copyFrom_49  : Nat → Nat → Nat → Int32 → mb_AH → Option mb_RS
  | 0, _, _, _, _ => none
  | n + 1, av0, av1, v2, h => (if (h.1 1 av0 0 3) ≤ v2 then (mb_up (mb_sI h 1 av0 0 5 (h.1 1 av1 0 5)) fun h103 => (B_X2_copyFrom_88  mb_fu av0 av1 0 h103)) else (mb_gB v2 20 (mb_gB v2 20 (mb_cV (F_X1_copyFrom av0 v2.toNatClampNeg av1 v2.toNatClampNeg h) fun h115 => (mb_lI (v2 + 1) fun y116 => ((B_X2_copyFrom_49  n) av0 av1 y116 h115))))))
set_option maxRecDepth 100000 in
set_option maxHeartbeats 4000000 in
theorem T_X2_copyFrom_49 {l : Launch} {G : mb_G} {res : mb_RS} (hst : l.stackTraces = false) (hg : mb_gok G)   : ∀ (n : Nat) (av0 : Nat) (av1 : Nat) (v2 : Int32) (h : mb_AH), B_X2_copyFrom_49  n av0 av1 v2 h = some res → mb_Ev l G RX2 cX2_copyFrom 3 none 2 49 [(0, mb_F 1 av0 0), (1, mb_F 1 av1 0), (2, .inl v2)] [] h res := by
  intro n
  induction n with
  | zero => intro av0 av1 v2 h hr; cases hr
  | succ n ih =>
    intro av0 av1 v2 h hr
    rw [B_X2_copyFrom_49] at hr
    refine mb_iload_n (pn := 50) 2 dX2_copyFrom_49 rfl rfl rfl ?_
    refine mb_aload_n (pn := 51) 0 dX2_copyFrom_50 rfl rfl rfl ?_
    refine gf_X2_49 (pn := 54) dX2_copyFrom_51 rfl ?_
    refine mb_ic_ge (tgt := 78) (pn := 57) dX2_copyFrom_54 (by decide) rfl hr (fun hr => ?_) (fun hr => ?_)
    · refine mb_aload_n (pn := 79) 0 dX2_copyFrom_78 rfl rfl rfl ?_
      refine mb_aload_n (pn := 80) 1 dX2_copyFrom_79 rfl rfl rfl ?_
      refine gf_X2_27 (pn := 83) dX2_copyFrom_80 rfl ?_
      refine pf_X2_27 (pn := 86) dX2_copyFrom_83 rfl hr (fun h103 hr => ?_)
      refine mb_iconst (v := 0) (pn := 87) dX2_copyFrom_86 (by decide) rfl ?_
      refine mb_istore_n (pn := 88) (lv2 := [(2, .inl 0), (0, mb_F 1 av0 0), (1, mb_F 1 av1 0)]) dX2_copyFrom_87 rfl (by decide) rfl rfl ?_
      exact mb_lvs [1, 2, 0] rfl (T_X2_copyFrom_88 hst hg  mb_fu _ _ _ _ hr)
    · refine mb_aload_n (pn := 58) 0 dX2_copyFrom_57 rfl rfl rfl ?_
      refine gf_X2_19 (pn := 61) dX2_copyFrom_58 rfl ?_
      refine mb_iload_n (pn := 62) 2 dX2_copyFrom_61 rfl rfl rfl ?_
      refine mb_aald11 (pn := 63) dX2_copyFrom_62 rfl hr (fun hr => ?_)
      refine mb_aload_n (pn := 64) 1 dX2_copyFrom_63 rfl rfl rfl ?_
      refine gf_X2_19 (pn := 67) dX2_copyFrom_64 rfl ?_
      refine mb_iload_n (pn := 68) 2 dX2_copyFrom_67 rfl rfl rfl ?_
      refine mb_aald11 (pn := 69) dX2_copyFrom_68 rfl hr (fun hr => ?_)
      refine cl_X2_52 (pn := 72) hst hg (Nat.le_of_ble_eq_true rfl) (Nat.le_of_ble_eq_true rfl) dX2_copyFrom_69 rfl hr (fun h115 hr => ?_)
      refine mb_nmx hr (fun y116 qy116 hr => ?_)
      refine mb_iinc (v := y116) (pn := 75) (lv2 := [(2, .inl y116), (0, mb_F 1 av0 0), (1, mb_F 1 av1 0)]) 2 dX2_copyFrom_72 rfl (by rw [qy116]; rfl) (by decide) rfl rfl ?_
      refine mb_goto (tgt := 49) dX2_copyFrom_75 (by decide) ?_
      exact mb_lvs [1, 2, 0] rfl (ih _ _ _ _ hr)
set_option maxRecDepth 100000 in
set_option maxHeartbeats 4000000 in
theorem cl_X2_45 {l : Launch} {G : mb_G} {cc : ByteArray} {nL : Nat} {ret : Option FieldType} {d pc pn : Nat} {lv : List (Nat × mb_AV)} {st : List mb_AV} {h : mb_AH} {res : mb_RS} (hst : l.stackTraces = false) (hg : mb_gok G) {a0 : Nat} {b0 : Nat} {a1 : Nat} {b1 : Nat} {K : mb_AH → Option mb_RS} (hd2 : 1 + 1 ≤ d) (hs4 : st.length ≤ 4) (dg : decode cc pc = .ok (.invokevirtual 45, 3)) (hn : pc + 3 = pn) (hr : mb_cV (F_X0_copyFrom a0 b0 a1 b1 h) K = some res) (kk : ∀ (h2 : mb_AH), K h2 = some res → mb_Ev l G RX2 cc nL ret d pn lv st h2 res) : mb_Ev l G RX2 cc nL ret d pc lv (mb_F 2 a1 b1 :: mb_F 2 a0 b0 :: st) h res := mb_kVV (as := [mb_F 2 a1 b1]) (n := 1) (d2 := 1) (ci := 0) (fun _ hf => C_X0_copyFrom hst hg hf) (mb_gV wl_X2_45 mi_X0_copyFrom ms_X0_copyFrom mn_X0 mc_X0_copyFrom) (by decide +kernel) rfl rfl rfl hd2 (by decide) hs4 rfl dg hn hr kk
def B_X2_copyFrom_10  : Nat → Nat → Nat → Int32 → mb_AH → Option mb_RS
  | 0, _, _, _, _ => none
  | n + 1, av0, av1, v2, h => (if (h.1 1 av0 0 1) ≤ v2 then (mb_up (mb_sI h 1 av0 0 3 (h.1 1 av1 0 3)) fun h102 => (B_X2_copyFrom_49  mb_fu av0 av1 0 h102)) else (mb_gB v2 16 (mb_gB v2 16 (mb_cV (F_X0_copyFrom av0 v2.toNatClampNeg av1 v2.toNatClampNeg h) fun h117 => (mb_lI (v2 + 1) fun y118 => ((B_X2_copyFrom_10  n) av0 av1 y118 h117))))))
set_option maxRecDepth 100000 in
set_option maxHeartbeats 4000000 in
theorem T_X2_copyFrom_10 {l : Launch} {G : mb_G} {res : mb_RS} (hst : l.stackTraces = false) (hg : mb_gok G)   : ∀ (n : Nat) (av0 : Nat) (av1 : Nat) (v2 : Int32) (h : mb_AH), B_X2_copyFrom_10  n av0 av1 v2 h = some res → mb_Ev l G RX2 cX2_copyFrom 3 none 2 10 [(0, mb_F 1 av0 0), (1, mb_F 1 av1 0), (2, .inl v2)] [] h res := by
  intro n
  induction n with
  | zero => intro av0 av1 v2 h hr; cases hr
  | succ n ih =>
    intro av0 av1 v2 h hr
    rw [B_X2_copyFrom_10] at hr
    refine mb_iload_n (pn := 11) 2 dX2_copyFrom_10 rfl rfl rfl ?_
    refine mb_aload_n (pn := 12) 0 dX2_copyFrom_11 rfl rfl rfl ?_
    refine gf_X2_42 (pn := 15) dX2_copyFrom_12 rfl ?_
    refine mb_ic_ge (tgt := 39) (pn := 18) dX2_copyFrom_15 (by decide) rfl hr (fun hr => ?_) (fun hr => ?_)
    · refine mb_aload_n (pn := 40) 0 dX2_copyFrom_39 rfl rfl rfl ?_
      refine mb_aload_n (pn := 41) 1 dX2_copyFrom_40 rfl rfl rfl ?_
      refine gf_X2_49 (pn := 44) dX2_copyFrom_41 rfl ?_
      refine pf_X2_49 (pn := 47) dX2_copyFrom_44 rfl hr (fun h102 hr => ?_)
      refine mb_iconst (v := 0) (pn := 48) dX2_copyFrom_47 (by decide) rfl ?_
      refine mb_istore_n (pn := 49) (lv2 := [(2, .inl 0), (0, mb_F 1 av0 0), (1, mb_F 1 av1 0)]) dX2_copyFrom_48 rfl (by decide) rfl rfl ?_
      exact mb_lvs [1, 2, 0] rfl (T_X2_copyFrom_49 hst hg  mb_fu _ _ _ _ hr)
    · refine mb_aload_n (pn := 19) 0 dX2_copyFrom_18 rfl rfl rfl ?_
      refine gf_X2_11 (pn := 22) dX2_copyFrom_19 rfl ?_
      refine mb_iload_n (pn := 23) 2 dX2_copyFrom_22 rfl rfl rfl ?_
      refine mb_aald10 (pn := 24) dX2_copyFrom_23 rfl hr (fun hr => ?_)
      refine mb_aload_n (pn := 25) 1 dX2_copyFrom_24 rfl rfl rfl ?_
      refine gf_X2_11 (pn := 28) dX2_copyFrom_25 rfl ?_
      refine mb_iload_n (pn := 29) 2 dX2_copyFrom_28 rfl rfl rfl ?_
      refine mb_aald10 (pn := 30) dX2_copyFrom_29 rfl hr (fun hr => ?_)
      refine cl_X2_45 (pn := 33) hst hg (Nat.le_of_ble_eq_true rfl) (Nat.le_of_ble_eq_true rfl) dX2_copyFrom_30 rfl hr (fun h117 hr => ?_)
      refine mb_nmx hr (fun y118 qy118 hr => ?_)
      refine mb_iinc (v := y118) (pn := 36) (lv2 := [(2, .inl y118), (0, mb_F 1 av0 0), (1, mb_F 1 av1 0)]) 2 dX2_copyFrom_33 rfl (by rw [qy118]; rfl) (by decide) rfl rfl ?_
      refine mb_goto (tgt := 10) dX2_copyFrom_36 (by decide) ?_
      exact mb_lvs [1, 2, 0] rfl (ih _ _ _ _ hr)
def F_X2_copyFrom (a0 : Nat) (a1 : Nat) (h : mb_AH) : Option mb_RS := (mb_up (mb_sI h 1 a0 0 1 (h.1 1 a1 0 1)) fun h101 => (B_X2_copyFrom_10  mb_fu a0 a1 0 h101))
set_option maxRecDepth 100000 in
set_option maxHeartbeats 4000000 in
theorem C_X2_copyFrom {l : Launch} {G : mb_G} (hst : l.stackTraces = false) (hg : mb_gok G) {a0 : Nat} {a1 : Nat} {h : mb_AH} {res : mb_RS} (hr : F_X2_copyFrom a0 a1 h = some res) : mb_Mt l G yX2_copyFrom cX2_copyFrom 3 none 2 [mb_F 1 a0 0, mb_F 1 a1 0] h res := by
  refine mb_entry (own := RX2) (lv := [(0, mb_F 1 a0 0), (1, mb_F 1 a1 0)]) (by decide +kernel) rfl (Nat.le_of_ble_eq_true rfl) rfl rfl (fun _ => ?_) hst hg
  unfold F_X2_copyFrom at hr
  refine mb_aload_n (pn := 1) 0 dX2_copyFrom_0 rfl rfl rfl ?_
  refine mb_aload_n (pn := 2) 1 dX2_copyFrom_1 rfl rfl rfl ?_
  refine gf_X2_42 (pn := 5) dX2_copyFrom_2 rfl ?_
  refine pf_X2_42 (pn := 8) dX2_copyFrom_5 rfl hr (fun h101 hr => ?_)
  refine mb_iconst (v := 0) (pn := 9) dX2_copyFrom_8 (by decide) rfl ?_
  refine mb_istore_n (pn := 10) (lv2 := [(2, .inl 0), (0, mb_F 1 a0 0), (1, mb_F 1 a1 0)]) dX2_copyFrom_9 rfl (by decide) rfl rfl ?_
  exact mb_lvs [1, 2, 0] rfl (T_X2_copyFrom_10 hst hg  mb_fu _ _ _ _ hr)
def B_X2_takeLows_17  : Nat → Nat → Int32 → mb_AH → Option mb_RS
  | 0, _, _, _ => none
  | n + 1, av0, v2, h => (if (h.1 1 av0 0 5) ≤ v2 then (some (.inl none, h)) else (mb_gB v2 14 (mb_gB v2 14 (mb_up (mb_sI h 12 av0 0 v2.toNatClampNeg (h.1 17 0 0 v2.toNatClampNeg)) fun h103 => (mb_gB v2 14 (mb_up (mb_sI h103 1 av0 0 6 (if (h103.1 12 av0 0 v2.toNatClampNeg) < (h103.1 1 av0 0 6) then (h103.1 12 av0 0 v2.toNatClampNeg) else (h103.1 1 av0 0 6))) fun h104 => (mb_lI (v2 + 1) fun y105 => ((B_X2_takeLows_17  n) av0 y105 h104))))))))
set_option maxRecDepth 100000 in
set_option maxHeartbeats 4000000 in
theorem T_X2_takeLows_17 {l : Launch} {G : mb_G} {res : mb_RS} (hst : l.stackTraces = false) (hg : mb_gok G)   : ∀ (n : Nat) (av0 : Nat) (v2 : Int32) (h : mb_AH), B_X2_takeLows_17  n av0 v2 h = some res → mb_Ev l G RX2 cX2_takeLows 3 none 0 17 [(0, mb_F 1 av0 0), (1, mb_F 5 0 0), (2, .inl v2)] [] h res := by
  intro n
  induction n with
  | zero => intro av0 v2 h hr; cases hr
  | succ n ih =>
    intro av0 v2 h hr
    rw [B_X2_takeLows_17] at hr
    refine mb_iload_n (pn := 18) 2 dX2_takeLows_17 rfl rfl rfl ?_
    refine mb_aload_n (pn := 19) 0 dX2_takeLows_18 rfl rfl rfl ?_
    refine gf_X2_27 (pn := 22) dX2_takeLows_19 rfl ?_
    refine mb_ic_ge (tgt := 60) (pn := 25) dX2_takeLows_22 (by decide) rfl hr (fun hr => ?_) (fun hr => ?_)
    · cases hr
      exact mb_vret dX2_takeLows_60
    · refine mb_aload_n (pn := 26) 0 dX2_takeLows_25 rfl rfl rfl ?_
      refine gf_X2_23 (pn := 29) dX2_takeLows_26 rfl ?_
      refine mb_iload_n (pn := 30) 2 dX2_takeLows_29 rfl rfl rfl ?_
      refine mb_aload_n (pn := 31) 1 dX2_takeLows_30 rfl rfl rfl ?_
      refine gf_X2_80 (pn := 34) dX2_takeLows_31 rfl ?_
      refine mb_iload_n (pn := 35) 2 dX2_takeLows_34 rfl rfl rfl ?_
      refine mb_iald (pn := 36) (n := 14) rfl dX2_takeLows_35 rfl hr (fun hr => ?_)
      refine mb_iast (pn := 37) (n := 14) rfl rfl dX2_takeLows_36 rfl hr (fun hr => ?_)
      refine mb_nmh hr (fun h103 hr => ?_)
      refine mb_aload_n (pn := 38) 0 dX2_takeLows_37 rfl rfl rfl ?_
      refine mb_aload_n (pn := 39) 0 dX2_takeLows_38 rfl rfl rfl ?_
      refine gf_X2_55 (pn := 42) dX2_takeLows_39 rfl ?_
      refine mb_aload_n (pn := 43) 0 dX2_takeLows_42 rfl rfl rfl ?_
      refine gf_X2_23 (pn := 46) dX2_takeLows_43 rfl ?_
      refine mb_iload_n (pn := 47) 2 dX2_takeLows_46 rfl rfl rfl ?_
      refine mb_iald (pn := 48) (n := 14) rfl dX2_takeLows_47 rfl hr (fun hr => ?_)
      refine mb_min (pn := 51) wl_X2_83 mM_min_s mM_i mM_min_c (Nat.le_of_ble_eq_true rfl) dX2_takeLows_48 rfl ?_
      refine pf_X2_55 (pn := 54) dX2_takeLows_51 rfl hr (fun h104 hr => ?_)
      refine mb_nmx hr (fun y105 qy105 hr => ?_)
      refine mb_iinc (v := y105) (pn := 57) (lv2 := [(2, .inl y105), (0, mb_F 1 av0 0), (1, mb_F 5 0 0)]) 2 dX2_takeLows_54 rfl (by rw [qy105]; rfl) (by decide) rfl rfl ?_
      refine mb_goto (tgt := 17) dX2_takeLows_57 (by decide) ?_
      exact mb_lvs [1, 2, 0] rfl (ih _ _ _ hr)
def F_X2_takeLows (a0 : Nat) (h : mb_AH) : Option mb_RS := (mb_up (mb_sI h 1 a0 0 5 (h.1 5 0 0 3)) fun h101 => (mb_up (mb_sI h101 1 a0 0 6 300) fun h102 => (B_X2_takeLows_17  mb_fu a0 0 h102)))
set_option maxRecDepth 100000 in
set_option maxHeartbeats 4000000 in
theorem C_X2_takeLows {l : Launch} {G : mb_G} (hst : l.stackTraces = false) (hg : mb_gok G) {a0 : Nat} {h : mb_AH} {res : mb_RS} (hr : F_X2_takeLows a0 h = some res) : mb_Mt l G yX2_takeLows cX2_takeLows 3 none 0 [mb_F 1 a0 0, mb_F 5 0 0] h res := by
  refine mb_entry (own := RX2) (lv := [(0, mb_F 1 a0 0), (1, mb_F 5 0 0)]) (by decide +kernel) rfl (Nat.le_of_ble_eq_true rfl) rfl rfl (fun _ => ?_) hst hg
  unfold F_X2_takeLows at hr
  refine mb_aload_n (pn := 1) 0 dX2_takeLows_0 rfl rfl rfl ?_
  refine mb_aload_n (pn := 2) 1 dX2_takeLows_1 rfl rfl rfl ?_
  refine gf_X2_75 (pn := 5) dX2_takeLows_2 rfl ?_
  refine pf_X2_27 (pn := 8) dX2_takeLows_5 rfl hr (fun h101 hr => ?_)
  refine mb_aload_n (pn := 9) 0 dX2_takeLows_8 rfl rfl rfl ?_
  refine mb_sipush (v := 300) (pn := 12) dX2_takeLows_9 (by decide) rfl ?_
  refine pf_X2_55 (pn := 15) dX2_takeLows_12 rfl hr (fun h102 hr => ?_)
  refine mb_iconst (v := 0) (pn := 16) dX2_takeLows_15 (by decide) rfl ?_
  refine mb_istore_n (pn := 17) (lv2 := [(2, .inl 0), (0, mb_F 1 a0 0), (1, mb_F 5 0 0)]) dX2_takeLows_16 rfl (by decide) rfl rfl ?_
  exact mb_lvs [1, 2, 0] rfl (T_X2_takeLows_17 hst hg  mb_fu _ _ _ hr)
def F_X2_lowWater (a0 : Nat) (x1 : Int32) (h : mb_AH) : Option mb_RS := (if x1 < 0 then (some (.inl (some (.inl 0)), h)) else (if 1 ≤ (h.1 1 a0 0 5) then (mb_g0 (h.1 1 a0 0 5) (mb_gB (x1 - x1 / (h.1 1 a0 0 5) * (h.1 1 a0 0 5)) 14 (some (.inl (some (.inl (h.1 12 a0 0 (x1 - x1 / (h.1 1 a0 0 5) * (h.1 1 a0 0 5)).toNatClampNeg))), h)))) else (some (.inl (some (.inl 0)), h))))
set_option maxRecDepth 100000 in
set_option maxHeartbeats 4000000 in
theorem C_X2_lowWater {l : Launch} {G : mb_G} (hst : l.stackTraces = false) (hg : mb_gok G) {a0 : Nat} {x1 : Int32} {h : mb_AH} {res : mb_RS} (hr : F_X2_lowWater a0 x1 h = some res) : mb_Mt l G yX2_lowWater cX2_lowWater 2 (some .int) 0 [mb_F 1 a0 0, .inl x1] h res := by
  refine mb_entry (own := RX2) (lv := [(0, mb_F 1 a0 0), (1, .inl x1)]) (by decide +kernel) rfl (Nat.le_of_ble_eq_true rfl) rfl rfl (fun _ => ?_) hst hg
  unfold F_X2_lowWater at hr
  refine mb_iload_n (pn := 1) 1 dX2_lowWater_0 rfl rfl rfl ?_
  refine mb_if_lt (tgt := 12) (pn := 4) dX2_lowWater_1 (by decide) rfl hr (fun hr => ?_) (fun hr => ?_)
  · refine mb_iconst (v := 0) (pn := 13) dX2_lowWater_12 (by decide) rfl ?_
    refine mb_goto (tgt := 27) dX2_lowWater_13 (by decide) ?_
    cases hr
    exact mb_iret dX2_lowWater_27
  · refine mb_aload_n (pn := 5) 0 dX2_lowWater_4 rfl rfl rfl ?_
    refine gf_X2_27 (pn := 8) dX2_lowWater_5 rfl ?_
    refine mb_iconst (v := 1) (pn := 9) dX2_lowWater_8 (by decide) rfl ?_
    refine mb_ic_ge (tgt := 16) (pn := 12) dX2_lowWater_9 (by decide) rfl hr (fun hr => ?_) (fun hr => ?_)
    · refine mb_aload_n (pn := 17) 0 dX2_lowWater_16 rfl rfl rfl ?_
      refine gf_X2_23 (pn := 20) dX2_lowWater_17 rfl ?_
      refine mb_iload_n (pn := 21) 1 dX2_lowWater_20 rfl rfl rfl ?_
      refine mb_aload_n (pn := 22) 0 dX2_lowWater_21 rfl rfl rfl ?_
      refine gf_X2_27 (pn := 25) dX2_lowWater_22 rfl ?_
      refine mb_irem (pn := 26) dX2_lowWater_25 rfl hr (fun hr => ?_)
      refine mb_iald (pn := 27) (n := 14) rfl dX2_lowWater_26 rfl hr (fun hr => ?_)
      cases hr
      exact mb_iret dX2_lowWater_27
    · refine mb_iconst (v := 0) (pn := 13) dX2_lowWater_12 (by decide) rfl ?_
      refine mb_goto (tgt := 27) dX2_lowWater_13 (by decide) ?_
      cases hr
      exact mb_iret dX2_lowWater_27
def F_X2_lackOfWater (a0 : Nat) (a1 : Nat) (b1 : Nat) (a2 : Nat) (b2 : Nat) (h : mb_AH) : Option mb_RS := (some (.inl (some (.inl (((h.1 3 a1 b1 1) + (h.1 1 a0 0 7)) - ((h.1 2 a2 b2 0) + (h.1 1 a0 0 6))))), h))
set_option maxRecDepth 100000 in
set_option maxHeartbeats 4000000 in
theorem C_X2_lackOfWater {l : Launch} {G : mb_G} (hst : l.stackTraces = false) (hg : mb_gok G) {a0 : Nat} {a1 : Nat} {b1 : Nat} {a2 : Nat} {b2 : Nat} {h : mb_AH} {res : mb_RS} (hr : F_X2_lackOfWater a0 a1 b1 a2 b2 h = some res) : mb_Mt l G yX2_lackOfWater cX2_lackOfWater 3 (some .int) 0 [mb_F 1 a0 0, mb_F 3 a1 b1, mb_F 2 a2 b2] h res := by
  refine mb_entry (own := RX2) (lv := [(0, mb_F 1 a0 0), (1, mb_F 3 a1 b1), (2, mb_F 2 a2 b2)]) (by decide +kernel) rfl (Nat.le_of_ble_eq_true rfl) rfl rfl (fun _ => ?_) hst hg
  unfold F_X2_lackOfWater at hr
  refine mb_aload_n (pn := 1) 1 dX2_lackOfWater_0 rfl rfl rfl ?_
  refine gf_X2_89 (pn := 4) dX2_lackOfWater_1 rfl ?_
  refine mb_aload_n (pn := 5) 0 dX2_lackOfWater_4 rfl rfl rfl ?_
  refine gf_X2_31 (pn := 8) dX2_lackOfWater_5 rfl ?_
  refine mb_iadd (pn := 9) dX2_lackOfWater_8 rfl ?_
  refine mb_aload_n (pn := 10) 2 dX2_lackOfWater_9 rfl rfl rfl ?_
  refine gf_X2_92 (pn := 13) dX2_lackOfWater_10 rfl ?_
  refine mb_aload_n (pn := 14) 0 dX2_lackOfWater_13 rfl rfl rfl ?_
  refine gf_X2_55 (pn := 17) dX2_lackOfWater_14 rfl ?_
  refine mb_iadd (pn := 18) dX2_lackOfWater_17 rfl ?_
  refine mb_isub (pn := 19) dX2_lackOfWater_18 rfl ?_
  cases hr
  exact mb_iret dX2_lackOfWater_19
set_option maxRecDepth 100000 in
set_option maxHeartbeats 4000000 in
theorem cl_X2_99 {l : Launch} {G : mb_G} {cc : ByteArray} {nL : Nat} {ret : Option FieldType} {d pc pn : Nat} {lv : List (Nat × mb_AV)} {st : List mb_AV} {h : mb_AH} {res : mb_RS} (hst : l.stackTraces = false) (hg : mb_gok G) {a0 : Nat} {a1 : Nat} {b1 : Nat} {a2 : Nat} {b2 : Nat} {K : Int32 → mb_AH → Option mb_RS} (hd2 : 0 + 1 ≤ d) (hs4 : st.length ≤ 4) (dg : decode cc pc = .ok (.invokevirtual 99, 3)) (hn : pc + 3 = pn) (hr : mb_cI (F_X2_lackOfWater a0 a1 b1 a2 b2 h) K = some res) (kk : ∀ (x : Int32) (h2 : mb_AH), K x h2 = some res → mb_Ev l G RX2 cc nL ret d pn lv (.inl x :: st) h2 res) : mb_Ev l G RX2 cc nL ret d pc lv (mb_F 2 a2 b2 :: mb_F 3 a1 b1 :: mb_F 1 a0 0 :: st) h res := mb_kVI (as := [mb_F 3 a1 b1, mb_F 2 a2 b2]) (n := 2) (d2 := 0) (ci := 2) (fun _ hf => C_X2_lackOfWater hst hg hf) (mb_gV wl_X2_99 mi_X2_lackOfWater ms_X2_lackOfWater mn_X2 mc_X2_lackOfWater) (by decide +kernel) rfl rfl rfl hd2 (by decide) hs4 rfl dg hn hr kk
def F_X2_suits (a0 : Nat) (a1 : Nat) (b1 : Nat) (a2 : Nat) (b2 : Nat) (h : mb_AH) : Option mb_RS := (if (h.1 2 a2 b2 1) < (h.1 3 a1 b1 0) then (some (.inl (some (.inl 0)), h)) else (mb_cI (F_X2_lackOfWater a0 a1 b1 a2 b2 h) fun y102 h101 => (if 0 < y102 then (some (.inl (some (.inl 0)), h101)) else (some (.inl (some (.inl 1)), h101)))))
set_option maxRecDepth 100000 in
set_option maxHeartbeats 4000000 in
theorem C_X2_suits {l : Launch} {G : mb_G} (hst : l.stackTraces = false) (hg : mb_gok G) {a0 : Nat} {a1 : Nat} {b1 : Nat} {a2 : Nat} {b2 : Nat} {h : mb_AH} {res : mb_RS} (hr : F_X2_suits a0 a1 b1 a2 b2 h = some res) : mb_Mt l G yX2_suits cX2_suits 3 (some .boolean) 1 [mb_F 1 a0 0, mb_F 3 a1 b1, mb_F 2 a2 b2] h res := by
  refine mb_entry (own := RX2) (lv := [(0, mb_F 1 a0 0), (1, mb_F 3 a1 b1), (2, mb_F 2 a2 b2)]) (by decide +kernel) rfl (Nat.le_of_ble_eq_true rfl) rfl rfl (fun _ => ?_) hst hg
  unfold F_X2_suits at hr
  refine mb_aload_n (pn := 1) 1 dX2_suits_0 rfl rfl rfl ?_
  refine gf_X2_95 (pn := 4) dX2_suits_1 rfl ?_
  refine mb_aload_n (pn := 5) 2 dX2_suits_4 rfl rfl rfl ?_
  refine gf_X2_98 (pn := 8) dX2_suits_5 rfl ?_
  refine mb_ic_gt (tgt := 24) (pn := 11) dX2_suits_8 (by decide) rfl hr (fun hr => ?_) (fun hr => ?_)
  · refine mb_iconst (v := 0) (pn := 25) dX2_suits_24 (by decide) rfl ?_
    cases hr
    exact mb_zret0 dX2_suits_25
  · refine mb_aload_n (pn := 12) 0 dX2_suits_11 rfl rfl rfl ?_
    refine mb_aload_n (pn := 13) 1 dX2_suits_12 rfl rfl rfl ?_
    refine mb_aload_n (pn := 14) 2 dX2_suits_13 rfl rfl rfl ?_
    refine cl_X2_99 (pn := 17) hst hg (Nat.le_of_ble_eq_true rfl) (Nat.le_of_ble_eq_true rfl) dX2_suits_14 rfl hr (fun y102 h101 hr => ?_)
    refine mb_if_gt (tgt := 24) (pn := 20) dX2_suits_17 (by decide) rfl hr (fun hr => ?_) (fun hr => ?_)
    · refine mb_iconst (v := 0) (pn := 25) dX2_suits_24 (by decide) rfl ?_
      cases hr
      exact mb_zret0 dX2_suits_25
    · refine mb_iconst (v := 1) (pn := 21) dX2_suits_20 (by decide) rfl ?_
      refine mb_goto (tgt := 25) dX2_suits_21 (by decide) ?_
      cases hr
      exact mb_zret1 dX2_suits_25
def F_X2_berthOf (a0 : Nat) (a1 : Nat) (b1 : Nat) (h : mb_AH) : Option mb_RS := (if (h.1 3 a1 b1 4) < 0 then (some (.inl (some mb_N), h)) else (if (h.1 3 a1 b1 4) < (h.1 1 a0 0 1) then (mb_gB (h.1 3 a1 b1 4) 16 (some (.inl (some (mb_F 2 a0 ((h.1 3 a1 b1 4).toNatClampNeg))), h))) else (some (.inl (some mb_N), h))))
set_option maxRecDepth 100000 in
set_option maxHeartbeats 4000000 in
theorem C_X2_berthOf {l : Launch} {G : mb_G} (hst : l.stackTraces = false) (hg : mb_gok G) {a0 : Nat} {a1 : Nat} {b1 : Nat} {h : mb_AH} {res : mb_RS} (hr : F_X2_berthOf a0 a1 b1 h = some res) : mb_Mt l G yX2_berthOf cX2_berthOf 2 (some (.object "MarinaBerths$Berth")) 0 [mb_F 1 a0 0, mb_F 3 a1 b1] h res := by
  refine mb_entry (own := RX2) (lv := [(0, mb_F 1 a0 0), (1, mb_F 3 a1 b1)]) (by decide +kernel) rfl (Nat.le_of_ble_eq_true rfl) rfl rfl (fun _ => ?_) hst hg
  unfold F_X2_berthOf at hr
  refine mb_aload_n (pn := 1) 1 dX2_berthOf_0 rfl rfl rfl ?_
  refine gf_X2_111 (pn := 4) dX2_berthOf_1 rfl ?_
  refine mb_if_lt (tgt := 18) (pn := 7) dX2_berthOf_4 (by decide) rfl hr (fun hr => ?_) (fun hr => ?_)
  · refine mb_null (pn := 19) dX2_berthOf_18 rfl ?_
    refine mb_goto (tgt := 31) dX2_berthOf_19 (by decide) ?_
    cases hr
    exact mb_aretN dX2_berthOf_31
  · refine mb_aload_n (pn := 8) 1 dX2_berthOf_7 rfl rfl rfl ?_
    refine gf_X2_111 (pn := 11) dX2_berthOf_8 rfl ?_
    refine mb_aload_n (pn := 12) 0 dX2_berthOf_11 rfl rfl rfl ?_
    refine gf_X2_42 (pn := 15) dX2_berthOf_12 rfl ?_
    refine mb_ic_lt (tgt := 22) (pn := 18) dX2_berthOf_15 (by decide) rfl hr (fun hr => ?_) (fun hr => ?_)
    · refine mb_aload_n (pn := 23) 0 dX2_berthOf_22 rfl rfl rfl ?_
      refine gf_X2_11 (pn := 26) dX2_berthOf_23 rfl ?_
      refine mb_aload_n (pn := 27) 1 dX2_berthOf_26 rfl rfl rfl ?_
      refine gf_X2_111 (pn := 30) dX2_berthOf_27 rfl ?_
      refine mb_aald10 (pn := 31) dX2_berthOf_30 rfl hr (fun hr => ?_)
      cases hr
      exact mb_aret dX2_berthOf_31
    · refine mb_null (pn := 19) dX2_berthOf_18 rfl ?_
      refine mb_goto (tgt := 31) dX2_berthOf_19 (by decide) ?_
      cases hr
      exact mb_aretN dX2_berthOf_31
set_option maxRecDepth 100000 in
set_option maxHeartbeats 4000000 in
theorem cl_X2_103 {l : Launch} {G : mb_G} {cc : ByteArray} {nL : Nat} {ret : Option FieldType} {d pc pn : Nat} {lv : List (Nat × mb_AV)} {st : List mb_AV} {h : mb_AH} {res : mb_RS} (hst : l.stackTraces = false) (hg : mb_gok G) {a0 : Nat} {a1 : Nat} {b1 : Nat} {K0 : mb_AH → Option mb_RS} {K : Nat → Nat → mb_AH → Option mb_RS} (hd2 : 0 + 1 ≤ d) (hs4 : st.length ≤ 4) (dg : decode cc pc = .ok (.invokevirtual 103, 3)) (hn : pc + 3 = pn) (hr : mb_cR 2 (F_X2_berthOf a0 a1 b1 h) K0 K = some res) (k0 : ∀ (h2 : mb_AH), K0 h2 = some res → mb_Ev l G RX2 cc nL ret d pn lv (mb_N :: st) h2 res) (kk : ∀ (a b : Nat) (h2 : mb_AH), K a b h2 = some res → mb_Ev l G RX2 cc nL ret d pn lv (mb_F 2 a b :: st) h2 res) : mb_Ev l G RX2 cc nL ret d pc lv (mb_F 3 a1 b1 :: mb_F 1 a0 0 :: st) h res := mb_kVR (as := [mb_F 3 a1 b1]) (n := 1) (d2 := 0) (ci := 2) (fun _ hf => C_X2_berthOf hst hg hf) (mb_gV wl_X2_103 mi_X2_berthOf ms_X2_berthOf mn_X2 mc_X2_berthOf) (by decide +kernel) rfl rfl rfl hd2 (by decide) hs4 rfl dg hn hr k0 kk
set_option maxRecDepth 100000 in
set_option maxHeartbeats 4000000 in
theorem cl_X2_107 {l : Launch} {G : mb_G} {cc : ByteArray} {nL : Nat} {ret : Option FieldType} {d pc pn : Nat} {lv : List (Nat × mb_AV)} {st : List mb_AV} {h : mb_AH} {res : mb_RS} (hst : l.stackTraces = false) (hg : mb_gok G) {a0 : Nat} {a1 : Nat} {b1 : Nat} {a2 : Nat} {b2 : Nat} {K : Int32 → mb_AH → Option mb_RS} (hd2 : 1 + 1 ≤ d) (hs4 : st.length ≤ 4) (dg : decode cc pc = .ok (.invokevirtual 107, 3)) (hn : pc + 3 = pn) (hr : mb_cI (F_X2_suits a0 a1 b1 a2 b2 h) K = some res) (kk : ∀ (x : Int32) (h2 : mb_AH), K x h2 = some res → mb_Ev l G RX2 cc nL ret d pn lv (.inl x :: st) h2 res) : mb_Ev l G RX2 cc nL ret d pc lv (mb_F 2 a2 b2 :: mb_F 3 a1 b1 :: mb_F 1 a0 0 :: st) h res := mb_kVI (as := [mb_F 3 a1 b1, mb_F 2 a2 b2]) (n := 2) (d2 := 1) (ci := 2) (fun _ hf => C_X2_suits hst hg hf) (mb_gV wl_X2_107 mi_X2_suits ms_X2_suits mn_X2 mc_X2_suits) (by decide +kernel) rfl rfl rfl hd2 (by decide) hs4 rfl dg hn hr kk
def F_X2_suitsBerthOf (a0 : Nat) (a1 : Nat) (b1 : Nat) (a2 : Nat) (b2 : Nat) (h : mb_AH) : Option mb_RS := (mb_cR 2 (F_X2_berthOf a0 a2 b2 h) (fun h101 => (some (.inl (some (.inl 0)), h101))) (fun a102 b103 h101 => (mb_cI (F_X2_suits a0 a1 b1 a102 b103 h101) fun y105 h104 => (if y105 = 0 then (some (.inl (some (.inl 0)), h104)) else (some (.inl (some (.inl 1)), h104))))))
set_option maxRecDepth 100000 in
set_option maxHeartbeats 4000000 in
theorem C_X2_suitsBerthOf {l : Launch} {G : mb_G} (hst : l.stackTraces = false) (hg : mb_gok G) {a0 : Nat} {a1 : Nat} {b1 : Nat} {a2 : Nat} {b2 : Nat} {h : mb_AH} {res : mb_RS} (hr : F_X2_suitsBerthOf a0 a1 b1 a2 b2 h = some res) : mb_Mt l G yX2_suitsBerthOf cX2_suitsBerthOf 4 (some .boolean) 2 [mb_F 1 a0 0, mb_F 3 a1 b1, mb_F 3 a2 b2] h res := by
  refine mb_entry (own := RX2) (lv := [(0, mb_F 1 a0 0), (1, mb_F 3 a1 b1), (2, mb_F 3 a2 b2)]) (by decide +kernel) rfl (Nat.le_of_ble_eq_true rfl) rfl rfl (fun _ => ?_) hst hg
  unfold F_X2_suitsBerthOf at hr
  refine mb_aload_n (pn := 1) 0 dX2_suitsBerthOf_0 rfl rfl rfl ?_
  refine mb_aload_n (pn := 2) 2 dX2_suitsBerthOf_1 rfl rfl rfl ?_
  refine cl_X2_103 (pn := 5) hst hg (Nat.le_of_ble_eq_true rfl) (Nat.le_of_ble_eq_true rfl) dX2_suitsBerthOf_2 rfl hr (fun h101 hr => ?_) (fun a102 b103 h101 hr => ?_)
  · refine mb_astore_nN (pn := 6) (lv2 := [(3, mb_N), (0, mb_F 1 a0 0), (1, mb_F 3 a1 b1), (2, mb_F 3 a2 b2)]) dX2_suitsBerthOf_5 rfl (by decide) rfl rfl ?_
    refine mb_aload_nN (pn := 7) 0 dX2_suitsBerthOf_6 rfl rfl rfl ?_
    refine mb_ifnullN (tgt := 23) dX2_suitsBerthOf_7 (by decide) ?_
    refine mb_iconst (v := 0) (pn := 24) dX2_suitsBerthOf_23 (by decide) rfl ?_
    cases hr
    exact mb_zret0 dX2_suitsBerthOf_24
  · refine mb_astore_n (pn := 6) (lv2 := [(3, mb_F 2 a102 b103), (0, mb_F 1 a0 0), (1, mb_F 3 a1 b1), (2, mb_F 3 a2 b2)]) dX2_suitsBerthOf_5 rfl (by decide) rfl rfl ?_
    refine mb_aload_n (pn := 7) 0 dX2_suitsBerthOf_6 rfl rfl rfl ?_
    refine mb_ifnull (pn := 10) _ _ _ dX2_suitsBerthOf_7 rfl ?_
    refine mb_aload_n (pn := 11) 1 dX2_suitsBerthOf_10 rfl rfl rfl ?_
    refine mb_aload_n (pn := 12) 2 dX2_suitsBerthOf_11 rfl rfl rfl ?_
    refine mb_aload_n (pn := 13) 0 dX2_suitsBerthOf_12 rfl rfl rfl ?_
    refine cl_X2_107 (pn := 16) hst hg (Nat.le_of_ble_eq_true rfl) (Nat.le_of_ble_eq_true rfl) dX2_suitsBerthOf_13 rfl hr (fun y105 h104 hr => ?_)
    refine mb_if_eq (tgt := 23) (pn := 19) dX2_suitsBerthOf_16 (by decide) rfl hr (fun hr => ?_) (fun hr => ?_)
    · refine mb_iconst (v := 0) (pn := 24) dX2_suitsBerthOf_23 (by decide) rfl ?_
      cases hr
      exact mb_zret0 dX2_suitsBerthOf_24
    · refine mb_iconst (v := 1) (pn := 20) dX2_suitsBerthOf_19 (by decide) rfl ?_
      refine mb_goto (tgt := 24) dX2_suitsBerthOf_20 (by decide) ?_
      cases hr
      exact mb_zret1 dX2_suitsBerthOf_24
def F_X2_isWhereItFits (a0 : Nat) (a1 : Nat) (b1 : Nat) (h : mb_AH) : Option mb_RS := (mb_cR 2 (F_X2_berthOf a0 a1 b1 h) (fun h101 => (some (.inl (some (.inl 1)), h101))) (fun a102 b103 h101 => (mb_cI (F_X2_suits a0 a1 b1 a102 b103 h101) fun y105 h104 => (if y105 = 0 then (some (.inl (some (.inl 0)), h104)) else (some (.inl (some (.inl 1)), h104))))))
set_option maxRecDepth 100000 in
set_option maxHeartbeats 4000000 in
theorem C_X2_isWhereItFits {l : Launch} {G : mb_G} (hst : l.stackTraces = false) (hg : mb_gok G) {a0 : Nat} {a1 : Nat} {b1 : Nat} {h : mb_AH} {res : mb_RS} (hr : F_X2_isWhereItFits a0 a1 b1 h = some res) : mb_Mt l G yX2_isWhereItFits cX2_isWhereItFits 3 (some .boolean) 2 [mb_F 1 a0 0, mb_F 3 a1 b1] h res := by
  refine mb_entry (own := RX2) (lv := [(0, mb_F 1 a0 0), (1, mb_F 3 a1 b1)]) (by decide +kernel) rfl (Nat.le_of_ble_eq_true rfl) rfl rfl (fun _ => ?_) hst hg
  unfold F_X2_isWhereItFits at hr
  refine mb_aload_n (pn := 1) 0 dX2_isWhereItFits_0 rfl rfl rfl ?_
  refine mb_aload_n (pn := 2) 1 dX2_isWhereItFits_1 rfl rfl rfl ?_
  refine cl_X2_103 (pn := 5) hst hg (Nat.le_of_ble_eq_true rfl) (Nat.le_of_ble_eq_true rfl) dX2_isWhereItFits_2 rfl hr (fun h101 hr => ?_) (fun a102 b103 h101 hr => ?_)
  · refine mb_astore_nN (pn := 6) (lv2 := [(2, mb_N), (0, mb_F 1 a0 0), (1, mb_F 3 a1 b1)]) dX2_isWhereItFits_5 rfl (by decide) rfl rfl ?_
    refine mb_aload_nN (pn := 7) 0 dX2_isWhereItFits_6 rfl rfl rfl ?_
    refine mb_ifnullN (tgt := 19) dX2_isWhereItFits_7 (by decide) ?_
    refine mb_iconst (v := 1) (pn := 20) dX2_isWhereItFits_19 (by decide) rfl ?_
    refine mb_goto (tgt := 24) dX2_isWhereItFits_20 (by decide) ?_
    cases hr
    exact mb_zret1 dX2_isWhereItFits_24
  · refine mb_astore_n (pn := 6) (lv2 := [(2, mb_F 2 a102 b103), (0, mb_F 1 a0 0), (1, mb_F 3 a1 b1)]) dX2_isWhereItFits_5 rfl (by decide) rfl rfl ?_
    refine mb_aload_n (pn := 7) 0 dX2_isWhereItFits_6 rfl rfl rfl ?_
    refine mb_ifnull (pn := 10) _ _ _ dX2_isWhereItFits_7 rfl ?_
    refine mb_aload_n (pn := 11) 1 dX2_isWhereItFits_10 rfl rfl rfl ?_
    refine mb_aload_n (pn := 12) 2 dX2_isWhereItFits_11 rfl rfl rfl ?_
    refine mb_aload_n (pn := 13) 0 dX2_isWhereItFits_12 rfl rfl rfl ?_
    refine cl_X2_107 (pn := 16) hst hg (Nat.le_of_ble_eq_true rfl) (Nat.le_of_ble_eq_true rfl) dX2_isWhereItFits_13 rfl hr (fun y105 h104 hr => ?_)
    refine mb_if_eq (tgt := 23) (pn := 19) dX2_isWhereItFits_16 (by decide) rfl hr (fun hr => ?_) (fun hr => ?_)
    · refine mb_iconst (v := 0) (pn := 24) dX2_isWhereItFits_23 (by decide) rfl ?_
      cases hr
      exact mb_zret0 dX2_isWhereItFits_24
    · refine mb_iconst (v := 1) (pn := 20) dX2_isWhereItFits_19 (by decide) rfl ?_
      refine mb_goto (tgt := 24) dX2_isWhereItFits_20 (by decide) ?_
      cases hr
      exact mb_zret1 dX2_isWhereItFits_24
def B_X2_boatIn_2  : Nat → Nat → Int32 → Int32 → mb_AH → Option mb_RS
  | 0, _, _, _, _ => none
  | n + 1, av0, v1, v2, h => (if (h.1 1 av0 0 3) ≤ v2 then (some (.inl (some (.inl (-1))), h)) else (mb_gB v2 20 (if (h.1 3 av0 v2.toNatClampNeg 4) = v1 then (some (.inl (some (.inl v2)), h)) else (mb_lI (v2 + 1) fun y101 => ((B_X2_boatIn_2  n) av0 v1 y101 h)))))
set_option maxRecDepth 100000 in
set_option maxHeartbeats 4000000 in
theorem T_X2_boatIn_2 {l : Launch} {G : mb_G} {res : mb_RS} (hst : l.stackTraces = false) (hg : mb_gok G)   : ∀ (n : Nat) (av0 : Nat) (v1 : Int32) (v2 : Int32) (h : mb_AH), B_X2_boatIn_2  n av0 v1 v2 h = some res → mb_Ev l G RX2 cX2_boatIn 3 (some .int) 0 2 [(0, mb_F 1 av0 0), (1, .inl v1), (2, .inl v2)] [] h res := by
  intro n
  induction n with
  | zero => intro av0 v1 v2 h hr; cases hr
  | succ n ih =>
    intro av0 v1 v2 h hr
    rw [B_X2_boatIn_2] at hr
    refine mb_iload_n (pn := 3) 2 dX2_boatIn_2 rfl rfl rfl ?_
    refine mb_aload_n (pn := 4) 0 dX2_boatIn_3 rfl rfl rfl ?_
    refine gf_X2_49 (pn := 7) dX2_boatIn_4 rfl ?_
    refine mb_ic_ge (tgt := 31) (pn := 10) dX2_boatIn_7 (by decide) rfl hr (fun hr => ?_) (fun hr => ?_)
    · refine mb_iconst (v := (-1)) (pn := 32) dX2_boatIn_31 (by decide) rfl ?_
      cases hr
      exact mb_iret dX2_boatIn_32
    · refine mb_aload_n (pn := 11) 0 dX2_boatIn_10 rfl rfl rfl ?_
      refine gf_X2_19 (pn := 14) dX2_boatIn_11 rfl ?_
      refine mb_iload_n (pn := 15) 2 dX2_boatIn_14 rfl rfl rfl ?_
      refine mb_aald11 (pn := 16) dX2_boatIn_15 rfl hr (fun hr => ?_)
      refine gf_X2_111 (pn := 19) dX2_boatIn_16 rfl ?_
      refine mb_iload_n (pn := 20) 1 dX2_boatIn_19 rfl rfl rfl ?_
      refine mb_ic_ne (tgt := 25) (pn := 23) dX2_boatIn_20 (by decide) rfl hr (fun hr => ?_) (fun hr => ?_)
      · refine mb_nmx hr (fun y101 qy101 hr => ?_)
        refine mb_iinc (v := y101) (pn := 28) (lv2 := [(2, .inl y101), (0, mb_F 1 av0 0), (1, .inl v1)]) 2 dX2_boatIn_25 rfl (by rw [qy101]; rfl) (by decide) rfl rfl ?_
        refine mb_goto (tgt := 2) dX2_boatIn_28 (by decide) ?_
        exact mb_lvs [1, 2, 0] rfl (ih _ _ _ _ hr)
      · refine mb_iload_n (pn := 24) 2 dX2_boatIn_23 rfl rfl rfl ?_
        cases hr
        exact mb_iret dX2_boatIn_24
def F_X2_boatIn (a0 : Nat) (x1 : Int32) (h : mb_AH) : Option mb_RS := (B_X2_boatIn_2  mb_fu a0 x1 0 h)
set_option maxRecDepth 100000 in
set_option maxHeartbeats 4000000 in
theorem C_X2_boatIn {l : Launch} {G : mb_G} (hst : l.stackTraces = false) (hg : mb_gok G) {a0 : Nat} {x1 : Int32} {h : mb_AH} {res : mb_RS} (hr : F_X2_boatIn a0 x1 h = some res) : mb_Mt l G yX2_boatIn cX2_boatIn 3 (some .int) 0 [mb_F 1 a0 0, .inl x1] h res := by
  refine mb_entry (own := RX2) (lv := [(0, mb_F 1 a0 0), (1, .inl x1)]) (by decide +kernel) rfl (Nat.le_of_ble_eq_true rfl) rfl rfl (fun _ => ?_) hst hg
  unfold F_X2_boatIn at hr
  refine mb_iconst (v := 0) (pn := 1) dX2_boatIn_0 (by decide) rfl ?_
  refine mb_istore_n (pn := 2) (lv2 := [(2, .inl 0), (0, mb_F 1 a0 0), (1, .inl x1)]) dX2_boatIn_1 rfl (by decide) rfl rfl ?_
  exact mb_lvs [1, 2, 0] rfl (T_X2_boatIn_2 hst hg  mb_fu _ _ _ _ hr)
set_option maxRecDepth 100000 in
set_option maxHeartbeats 4000000 in
theorem cl_X2_114 {l : Launch} {G : mb_G} {cc : ByteArray} {nL : Nat} {ret : Option FieldType} {d pc pn : Nat} {lv : List (Nat × mb_AV)} {st : List mb_AV} {h : mb_AH} {res : mb_RS} (hst : l.stackTraces = false) (hg : mb_gok G) {a0 : Nat} {x1 : Int32} {K : Int32 → mb_AH → Option mb_RS} (hd2 : 0 + 1 ≤ d) (hs4 : st.length ≤ 4) (dg : decode cc pc = .ok (.invokevirtual 114, 3)) (hn : pc + 3 = pn) (hr : mb_cI (F_X2_boatIn a0 x1 h) K = some res) (kk : ∀ (x : Int32) (h2 : mb_AH), K x h2 = some res → mb_Ev l G RX2 cc nL ret d pn lv (.inl x :: st) h2 res) : mb_Ev l G RX2 cc nL ret d pc lv (.inl x1 :: mb_F 1 a0 0 :: st) h res := mb_kVI (as := [.inl x1]) (n := 1) (d2 := 0) (ci := 2) (fun _ hf => C_X2_boatIn hst hg hf) (mb_gV wl_X2_114 mi_X2_boatIn ms_X2_boatIn mn_X2 mc_X2_boatIn) (by decide +kernel) rfl rfl rfl hd2 (by decide) hs4 rfl dg hn hr kk
def F_X2_isOpen (a0 : Nat) (x1 : Int32) (h : mb_AH) : Option mb_RS := (mb_cI (F_X2_boatIn a0 x1 h) fun y102 h101 => (if y102 = (-1) then (if (h101.1 1 a0 0 12) = 0 then (some (.inl (some (.inl 1)), h101)) else (mb_gB x1 16 (if (h101.1 2 a0 x1.toNatClampNeg 2) = 0 then (some (.inl (some (.inl 1)), h101)) else (some (.inl (some (.inl 0)), h101))))) else (some (.inl (some (.inl 0)), h101))))
set_option maxRecDepth 100000 in
set_option maxHeartbeats 4000000 in
theorem C_X2_isOpen {l : Launch} {G : mb_G} (hst : l.stackTraces = false) (hg : mb_gok G) {a0 : Nat} {x1 : Int32} {h : mb_AH} {res : mb_RS} (hr : F_X2_isOpen a0 x1 h = some res) : mb_Mt l G yX2_isOpen cX2_isOpen 2 (some .boolean) 1 [mb_F 1 a0 0, .inl x1] h res := by
  refine mb_entry (own := RX2) (lv := [(0, mb_F 1 a0 0), (1, .inl x1)]) (by decide +kernel) rfl (Nat.le_of_ble_eq_true rfl) rfl rfl (fun _ => ?_) hst hg
  unfold F_X2_isOpen at hr
  refine mb_aload_n (pn := 1) 0 dX2_isOpen_0 rfl rfl rfl ?_
  refine mb_iload_n (pn := 2) 1 dX2_isOpen_1 rfl rfl rfl ?_
  refine cl_X2_114 (pn := 5) hst hg (Nat.le_of_ble_eq_true rfl) (Nat.le_of_ble_eq_true rfl) dX2_isOpen_2 rfl hr (fun y102 h101 hr => ?_)
  refine mb_iconst (v := (-1)) (pn := 6) dX2_isOpen_5 (by decide) rfl ?_
  refine mb_ic_ne (tgt := 32) (pn := 9) dX2_isOpen_6 (by decide) rfl hr (fun hr => ?_) (fun hr => ?_)
  · refine mb_iconst (v := 0) (pn := 33) dX2_isOpen_32 (by decide) rfl ?_
    cases hr
    exact mb_zret0 dX2_isOpen_33
  · refine mb_aload_n (pn := 10) 0 dX2_isOpen_9 rfl rfl rfl ?_
    refine gf_X2_64 (pn := 13) dX2_isOpen_10 rfl ?_
    refine mb_if_eq (tgt := 28) (pn := 16) dX2_isOpen_13 (by decide) rfl hr (fun hr => ?_) (fun hr => ?_)
    · refine mb_iconst (v := 1) (pn := 29) dX2_isOpen_28 (by decide) rfl ?_
      refine mb_goto (tgt := 33) dX2_isOpen_29 (by decide) ?_
      cases hr
      exact mb_zret1 dX2_isOpen_33
    · refine mb_aload_n (pn := 17) 0 dX2_isOpen_16 rfl rfl rfl ?_
      refine gf_X2_11 (pn := 20) dX2_isOpen_17 rfl ?_
      refine mb_iload_n (pn := 21) 1 dX2_isOpen_20 rfl rfl rfl ?_
      refine mb_aald10 (pn := 22) dX2_isOpen_21 rfl hr (fun hr => ?_)
      refine gf_X2_118 (pn := 25) dX2_isOpen_22 rfl ?_
      refine mb_if_ne (tgt := 32) (pn := 28) dX2_isOpen_25 (by decide) rfl hr (fun hr => ?_) (fun hr => ?_)
      · refine mb_iconst (v := 0) (pn := 33) dX2_isOpen_32 (by decide) rfl ?_
        cases hr
        exact mb_zret0 dX2_isOpen_33
      · refine mb_iconst (v := 1) (pn := 29) dX2_isOpen_28 (by decide) rfl ?_
        refine mb_goto (tgt := 33) dX2_isOpen_29 (by decide) ?_
        cases hr
        exact mb_zret1 dX2_isOpen_33
def B_X2_countFitting_4  : Nat → Nat → Nat → Nat → Int32 → Int32 → mb_AH → Option mb_RS
  | 0, _, _, _, _, _, _ => none
  | n + 1, av0, av1, bv1, v2, v3, h => (if (h.1 1 av0 0 3) ≤ v3 then (some (.inl (some (.inl v2)), h)) else (mb_gB v3 20 (mb_cI (F_X2_suits av0 av0 v3.toNatClampNeg av1 bv1 h) fun y102 h101 => (if y102 = 0 then (mb_lI (v3 + 1) fun y103 => ((B_X2_countFitting_4  n) av0 av1 bv1 v2 y103 h101)) else (mb_lI (v2 + 1) fun y104 => (mb_lI (v3 + 1) fun y105 => ((B_X2_countFitting_4  n) av0 av1 bv1 y104 y105 h101)))))))
set_option maxRecDepth 100000 in
set_option maxHeartbeats 4000000 in
theorem T_X2_countFitting_4 {l : Launch} {G : mb_G} {res : mb_RS} (hst : l.stackTraces = false) (hg : mb_gok G)   : ∀ (n : Nat) (av0 : Nat) (av1 : Nat) (bv1 : Nat) (v2 : Int32) (v3 : Int32) (h : mb_AH), B_X2_countFitting_4  n av0 av1 bv1 v2 v3 h = some res → mb_Ev l G RX2 cX2_countFitting 4 (some .int) 2 4 [(0, mb_F 1 av0 0), (1, mb_F 2 av1 bv1), (2, .inl v2), (3, .inl v3)] [] h res := by
  intro n
  induction n with
  | zero => intro av0 av1 bv1 v2 v3 h hr; cases hr
  | succ n ih =>
    intro av0 av1 bv1 v2 v3 h hr
    rw [B_X2_countFitting_4] at hr
    refine mb_iload_n (pn := 5) 3 dX2_countFitting_4 rfl rfl rfl ?_
    refine mb_aload_n (pn := 6) 0 dX2_countFitting_5 rfl rfl rfl ?_
    refine gf_X2_49 (pn := 9) dX2_countFitting_6 rfl ?_
    refine mb_ic_ge (tgt := 35) (pn := 12) dX2_countFitting_9 (by decide) rfl hr (fun hr => ?_) (fun hr => ?_)
    · refine mb_iload_n (pn := 36) 2 dX2_countFitting_35 rfl rfl rfl ?_
      cases hr
      exact mb_iret dX2_countFitting_36
    · refine mb_aload_n (pn := 13) 0 dX2_countFitting_12 rfl rfl rfl ?_
      refine mb_aload_n (pn := 14) 0 dX2_countFitting_13 rfl rfl rfl ?_
      refine gf_X2_19 (pn := 17) dX2_countFitting_14 rfl ?_
      refine mb_iload_n (pn := 18) 3 dX2_countFitting_17 rfl rfl rfl ?_
      refine mb_aald11 (pn := 19) dX2_countFitting_18 rfl hr (fun hr => ?_)
      refine mb_aload_n (pn := 20) 1 dX2_countFitting_19 rfl rfl rfl ?_
      refine cl_X2_107 (pn := 23) hst hg (Nat.le_of_ble_eq_true rfl) (Nat.le_of_ble_eq_true rfl) dX2_countFitting_20 rfl hr (fun y102 h101 hr => ?_)
      refine mb_if_eq (tgt := 29) (pn := 26) dX2_countFitting_23 (by decide) rfl hr (fun hr => ?_) (fun hr => ?_)
      · refine mb_nmx hr (fun y103 qy103 hr => ?_)
        refine mb_iinc (v := y103) (pn := 32) (lv2 := [(3, .inl y103), (0, mb_F 1 av0 0), (1, mb_F 2 av1 bv1), (2, .inl v2)]) 3 dX2_countFitting_29 rfl (by rw [qy103]; rfl) (by decide) rfl rfl ?_
        refine mb_goto (tgt := 4) dX2_countFitting_32 (by decide) ?_
        exact mb_lvs [1, 2, 3, 0] rfl (ih _ _ _ _ _ _ hr)
      · refine mb_nmx hr (fun y104 qy104 hr => ?_)
        refine mb_iinc (v := y104) (pn := 29) (lv2 := [(2, .inl y104), (0, mb_F 1 av0 0), (1, mb_F 2 av1 bv1), (3, .inl v3)]) 2 dX2_countFitting_26 rfl (by rw [qy104]; rfl) (by decide) rfl rfl ?_
        refine mb_nmx hr (fun y105 qy105 hr => ?_)
        refine mb_iinc (v := y105) (pn := 32) (lv2 := [(3, .inl y105), (2, .inl y104), (0, mb_F 1 av0 0), (1, mb_F 2 av1 bv1)]) 3 dX2_countFitting_29 rfl (by rw [qy105]; rfl) (by decide) rfl rfl ?_
        refine mb_goto (tgt := 4) dX2_countFitting_32 (by decide) ?_
        exact mb_lvs [2, 3, 1, 0] rfl (ih _ _ _ _ _ _ hr)
def F_X2_countFitting (a0 : Nat) (a1 : Nat) (b1 : Nat) (h : mb_AH) : Option mb_RS := (B_X2_countFitting_4  mb_fu a0 a1 b1 0 0 h)
set_option maxRecDepth 100000 in
set_option maxHeartbeats 4000000 in
theorem C_X2_countFitting {l : Launch} {G : mb_G} (hst : l.stackTraces = false) (hg : mb_gok G) {a0 : Nat} {a1 : Nat} {b1 : Nat} {h : mb_AH} {res : mb_RS} (hr : F_X2_countFitting a0 a1 b1 h = some res) : mb_Mt l G yX2_countFitting cX2_countFitting 4 (some .int) 2 [mb_F 1 a0 0, mb_F 2 a1 b1] h res := by
  refine mb_entry (own := RX2) (lv := [(0, mb_F 1 a0 0), (1, mb_F 2 a1 b1)]) (by decide +kernel) rfl (Nat.le_of_ble_eq_true rfl) rfl rfl (fun _ => ?_) hst hg
  unfold F_X2_countFitting at hr
  refine mb_iconst (v := 0) (pn := 1) dX2_countFitting_0 (by decide) rfl ?_
  refine mb_istore_n (pn := 2) (lv2 := [(2, .inl 0), (0, mb_F 1 a0 0), (1, mb_F 2 a1 b1)]) dX2_countFitting_1 rfl (by decide) rfl rfl ?_
  refine mb_iconst (v := 0) (pn := 3) dX2_countFitting_2 (by decide) rfl ?_
  refine mb_istore_n (pn := 4) (lv2 := [(3, .inl 0), (2, .inl 0), (0, mb_F 1 a0 0), (1, mb_F 2 a1 b1)]) dX2_countFitting_3 rfl (by decide) rfl rfl ?_
  exact mb_lvs [2, 3, 1, 0] rfl (T_X2_countFitting_4 hst hg  mb_fu _ _ _ _ _ _ hr)
def B_X2_countIn_4  : Nat → Nat → Int32 → Int32 → Int32 → mb_AH → Option mb_RS
  | 0, _, _, _, _, _ => none
  | n + 1, av0, v1, v2, v3, h => (if (h.1 1 av0 0 3) ≤ v3 then (some (.inl (some (.inl v2)), h)) else (mb_gB v3 20 (if (h.1 3 av0 v3.toNatClampNeg 3) = v1 then (mb_lI (v2 + 1) fun y102 => (mb_lI (v3 + 1) fun y103 => ((B_X2_countIn_4  n) av0 v1 y102 y103 h))) else (mb_lI (v3 + 1) fun y101 => ((B_X2_countIn_4  n) av0 v1 v2 y101 h)))))
set_option maxRecDepth 100000 in
set_option maxHeartbeats 4000000 in
theorem T_X2_countIn_4 {l : Launch} {G : mb_G} {res : mb_RS} (hst : l.stackTraces = false) (hg : mb_gok G)   : ∀ (n : Nat) (av0 : Nat) (v1 : Int32) (v2 : Int32) (v3 : Int32) (h : mb_AH), B_X2_countIn_4  n av0 v1 v2 v3 h = some res → mb_Ev l G RX2 cX2_countIn 4 (some .int) 0 4 [(0, mb_F 1 av0 0), (1, .inl v1), (2, .inl v2), (3, .inl v3)] [] h res := by
  intro n
  induction n with
  | zero => intro av0 v1 v2 v3 h hr; cases hr
  | succ n ih =>
    intro av0 v1 v2 v3 h hr
    rw [B_X2_countIn_4] at hr
    refine mb_iload_n (pn := 5) 3 dX2_countIn_4 rfl rfl rfl ?_
    refine mb_aload_n (pn := 6) 0 dX2_countIn_5 rfl rfl rfl ?_
    refine gf_X2_49 (pn := 9) dX2_countIn_6 rfl ?_
    refine mb_ic_ge (tgt := 34) (pn := 12) dX2_countIn_9 (by decide) rfl hr (fun hr => ?_) (fun hr => ?_)
    · refine mb_iload_n (pn := 35) 2 dX2_countIn_34 rfl rfl rfl ?_
      cases hr
      exact mb_iret dX2_countIn_35
    · refine mb_aload_n (pn := 13) 0 dX2_countIn_12 rfl rfl rfl ?_
      refine gf_X2_19 (pn := 16) dX2_countIn_13 rfl ?_
      refine mb_iload_n (pn := 17) 3 dX2_countIn_16 rfl rfl rfl ?_
      refine mb_aald11 (pn := 18) dX2_countIn_17 rfl hr (fun hr => ?_)
      refine gf_X2_121 (pn := 21) dX2_countIn_18 rfl ?_
      refine mb_iload_n (pn := 22) 1 dX2_countIn_21 rfl rfl rfl ?_
      refine mb_ic_ne (tgt := 28) (pn := 25) dX2_countIn_22 (by decide) rfl hr (fun hr => ?_) (fun hr => ?_)
      · refine mb_nmx hr (fun y101 qy101 hr => ?_)
        refine mb_iinc (v := y101) (pn := 31) (lv2 := [(3, .inl y101), (0, mb_F 1 av0 0), (1, .inl v1), (2, .inl v2)]) 3 dX2_countIn_28 rfl (by rw [qy101]; rfl) (by decide) rfl rfl ?_
        refine mb_goto (tgt := 4) dX2_countIn_31 (by decide) ?_
        exact mb_lvs [1, 2, 3, 0] rfl (ih _ _ _ _ _ hr)
      · refine mb_nmx hr (fun y102 qy102 hr => ?_)
        refine mb_iinc (v := y102) (pn := 28) (lv2 := [(2, .inl y102), (0, mb_F 1 av0 0), (1, .inl v1), (3, .inl v3)]) 2 dX2_countIn_25 rfl (by rw [qy102]; rfl) (by decide) rfl rfl ?_
        refine mb_nmx hr (fun y103 qy103 hr => ?_)
        refine mb_iinc (v := y103) (pn := 31) (lv2 := [(3, .inl y103), (2, .inl y102), (0, mb_F 1 av0 0), (1, .inl v1)]) 3 dX2_countIn_28 rfl (by rw [qy103]; rfl) (by decide) rfl rfl ?_
        refine mb_goto (tgt := 4) dX2_countIn_31 (by decide) ?_
        exact mb_lvs [2, 3, 1, 0] rfl (ih _ _ _ _ _ hr)
def F_X2_countIn (a0 : Nat) (x1 : Int32) (h : mb_AH) : Option mb_RS := (B_X2_countIn_4  mb_fu a0 x1 0 0 h)
set_option maxRecDepth 100000 in
set_option maxHeartbeats 4000000 in
theorem C_X2_countIn {l : Launch} {G : mb_G} (hst : l.stackTraces = false) (hg : mb_gok G) {a0 : Nat} {x1 : Int32} {h : mb_AH} {res : mb_RS} (hr : F_X2_countIn a0 x1 h = some res) : mb_Mt l G yX2_countIn cX2_countIn 4 (some .int) 0 [mb_F 1 a0 0, .inl x1] h res := by
  refine mb_entry (own := RX2) (lv := [(0, mb_F 1 a0 0), (1, .inl x1)]) (by decide +kernel) rfl (Nat.le_of_ble_eq_true rfl) rfl rfl (fun _ => ?_) hst hg
  unfold F_X2_countIn at hr
  refine mb_iconst (v := 0) (pn := 1) dX2_countIn_0 (by decide) rfl ?_
  refine mb_istore_n (pn := 2) (lv2 := [(2, .inl 0), (0, mb_F 1 a0 0), (1, .inl x1)]) dX2_countIn_1 rfl (by decide) rfl rfl ?_
  refine mb_iconst (v := 0) (pn := 3) dX2_countIn_2 (by decide) rfl ?_
  refine mb_istore_n (pn := 4) (lv2 := [(3, .inl 0), (2, .inl 0), (0, mb_F 1 a0 0), (1, .inl x1)]) dX2_countIn_3 rfl (by decide) rfl rfl ?_
  exact mb_lvs [2, 3, 1, 0] rfl (T_X2_countIn_4 hst hg  mb_fu _ _ _ _ _ hr)
set_option maxRecDepth 100000 in
set_option maxHeartbeats 4000000 in
theorem cl_X2_124 {l : Launch} {G : mb_G} {cc : ByteArray} {nL : Nat} {ret : Option FieldType} {d pc pn : Nat} {lv : List (Nat × mb_AV)} {st : List mb_AV} {h : mb_AH} {res : mb_RS} (hst : l.stackTraces = false) (hg : mb_gok G) {a0 : Nat} {x1 : Int32} {K : Int32 → mb_AH → Option mb_RS} (hd2 : 1 + 1 ≤ d) (hs4 : st.length ≤ 4) (dg : decode cc pc = .ok (.invokevirtual 124, 3)) (hn : pc + 3 = pn) (hr : mb_cI (F_X2_isOpen a0 x1 h) K = some res) (kk : ∀ (x : Int32) (h2 : mb_AH), K x h2 = some res → mb_Ev l G RX2 cc nL ret d pn lv (.inl x :: st) h2 res) : mb_Ev l G RX2 cc nL ret d pc lv (.inl x1 :: mb_F 1 a0 0 :: st) h res := mb_kVI (as := [.inl x1]) (n := 1) (d2 := 1) (ci := 2) (fun _ hf => C_X2_isOpen hst hg hf) (mb_gV wl_X2_124 mi_X2_isOpen ms_X2_isOpen mn_X2 mc_X2_isOpen) (by decide +kernel) rfl rfl rfl hd2 (by decide) hs4 rfl dg hn hr kk
set_option maxRecDepth 100000 in
set_option maxHeartbeats 4000000 in
theorem cl_X2_128 {l : Launch} {G : mb_G} {cc : ByteArray} {nL : Nat} {ret : Option FieldType} {d pc pn : Nat} {lv : List (Nat × mb_AV)} {st : List mb_AV} {h : mb_AH} {res : mb_RS} (hst : l.stackTraces = false) (hg : mb_gok G) {a0 : Nat} {b0 : Nat} {a1 : Nat} {b1 : Nat} {K : Int32 → mb_AH → Option mb_RS} (hd2 : 0 + 1 ≤ d) (hs4 : st.length ≤ 4) (dg : decode cc pc = .ok (.invokevirtual 128, 3)) (hn : pc + 3 = pn) (hr : mb_cI (F_X0_isTighterThan a0 b0 a1 b1 h) K = some res) (kk : ∀ (x : Int32) (h2 : mb_AH), K x h2 = some res → mb_Ev l G RX2 cc nL ret d pn lv (.inl x :: st) h2 res) : mb_Ev l G RX2 cc nL ret d pc lv (mb_F 2 a1 b1 :: mb_F 2 a0 b0 :: st) h res := mb_kVI (as := [mb_F 2 a1 b1]) (n := 1) (d2 := 0) (ci := 0) (fun _ hf => C_X0_isTighterThan hst hg hf) (mb_gV wl_X2_128 mi_X0_isTighterThan ms_X0_isTighterThan mn_X0 mc_X0_isTighterThan) (by decide +kernel) rfl rfl rfl hd2 (by decide) hs4 rfl dg hn hr kk
def B_X2_bestBerthFor_4  : Nat → Nat → Nat → Nat → Int32 → Int32 → mb_AH → Option mb_RS
  | 0, _, _, _, _, _, _ => none
  | n + 1, av0, av1, bv1, v2, v3, h => (if (h.1 1 av0 0 1) ≤ v3 then (some (.inl (some (.inl v2)), h)) else (mb_cI (F_X2_isOpen av0 v3 h) fun y102 h101 => (if y102 = 0 then (mb_lI (v3 + 1) fun y103 => ((B_X2_bestBerthFor_4  n) av0 av1 bv1 v2 y103 h101)) else (mb_gB v3 16 (mb_cI (F_X2_suits av0 av1 bv1 av0 v3.toNatClampNeg h101) fun y105 h104 => (if y105 = 0 then (mb_lI (v3 + 1) fun y106 => ((B_X2_bestBerthFor_4  n) av0 av1 bv1 v2 y106 h104)) else (if v2 = (-1) then (mb_lI (v3 + 1) fun y107 => ((B_X2_bestBerthFor_4  n) av0 av1 bv1 v3 y107 h104)) else (mb_gB v3 16 (mb_gB v2 16 (mb_cI (F_X0_isTighterThan av0 v3.toNatClampNeg av0 v2.toNatClampNeg h104) fun y109 h108 => (if y109 = 0 then (mb_lI (v3 + 1) fun y110 => ((B_X2_bestBerthFor_4  n) av0 av1 bv1 v2 y110 h108)) else (mb_lI (v3 + 1) fun y111 => ((B_X2_bestBerthFor_4  n) av0 av1 bv1 v3 y111 h108)))))))))))))
set_option maxRecDepth 100000 in
set_option maxHeartbeats 4000000 in
theorem T_X2_bestBerthFor_4 {l : Launch} {G : mb_G} {res : mb_RS} (hst : l.stackTraces = false) (hg : mb_gok G)   : ∀ (n : Nat) (av0 : Nat) (av1 : Nat) (bv1 : Nat) (v2 : Int32) (v3 : Int32) (h : mb_AH), B_X2_bestBerthFor_4  n av0 av1 bv1 v2 v3 h = some res → mb_Ev l G RX2 cX2_bestBerthFor 4 (some .int) 2 4 [(0, mb_F 1 av0 0), (1, mb_F 3 av1 bv1), (2, .inl v2), (3, .inl v3)] [] h res := by
  intro n
  induction n with
  | zero => intro av0 av1 bv1 v2 v3 h hr; cases hr
  | succ n ih =>
    intro av0 av1 bv1 v2 v3 h hr
    rw [B_X2_bestBerthFor_4] at hr
    refine mb_iload_n (pn := 5) 3 dX2_bestBerthFor_4 rfl rfl rfl ?_
    refine mb_aload_n (pn := 6) 0 dX2_bestBerthFor_5 rfl rfl rfl ?_
    refine gf_X2_42 (pn := 9) dX2_bestBerthFor_6 rfl ?_
    refine mb_ic_ge (tgt := 65) (pn := 12) dX2_bestBerthFor_9 (by decide) rfl hr (fun hr => ?_) (fun hr => ?_)
    · refine mb_iload_n (pn := 66) 2 dX2_bestBerthFor_65 rfl rfl rfl ?_
      cases hr
      exact mb_iret dX2_bestBerthFor_66
    · refine mb_aload_n (pn := 13) 0 dX2_bestBerthFor_12 rfl rfl rfl ?_
      refine mb_iload_n (pn := 14) 3 dX2_bestBerthFor_13 rfl rfl rfl ?_
      refine cl_X2_124 (pn := 17) hst hg (Nat.le_of_ble_eq_true rfl) (Nat.le_of_ble_eq_true rfl) dX2_bestBerthFor_14 rfl hr (fun y102 h101 hr => ?_)
      refine mb_if_eq (tgt := 59) (pn := 20) dX2_bestBerthFor_17 (by decide) rfl hr (fun hr => ?_) (fun hr => ?_)
      · refine mb_nmx hr (fun y103 qy103 hr => ?_)
        refine mb_iinc (v := y103) (pn := 62) (lv2 := [(3, .inl y103), (0, mb_F 1 av0 0), (1, mb_F 3 av1 bv1), (2, .inl v2)]) 3 dX2_bestBerthFor_59 rfl (by rw [qy103]; rfl) (by decide) rfl rfl ?_
        refine mb_goto (tgt := 4) dX2_bestBerthFor_62 (by decide) ?_
        exact mb_lvs [1, 2, 3, 0] rfl (ih _ _ _ _ _ _ hr)
      · refine mb_aload_n (pn := 21) 0 dX2_bestBerthFor_20 rfl rfl rfl ?_
        refine mb_aload_n (pn := 22) 1 dX2_bestBerthFor_21 rfl rfl rfl ?_
        refine mb_aload_n (pn := 23) 0 dX2_bestBerthFor_22 rfl rfl rfl ?_
        refine gf_X2_11 (pn := 26) dX2_bestBerthFor_23 rfl ?_
        refine mb_iload_n (pn := 27) 3 dX2_bestBerthFor_26 rfl rfl rfl ?_
        refine mb_aald10 (pn := 28) dX2_bestBerthFor_27 rfl hr (fun hr => ?_)
        refine cl_X2_107 (pn := 31) hst hg (Nat.le_of_ble_eq_true rfl) (Nat.le_of_ble_eq_true rfl) dX2_bestBerthFor_28 rfl hr (fun y105 h104 hr => ?_)
        refine mb_if_eq (tgt := 59) (pn := 34) dX2_bestBerthFor_31 (by decide) rfl hr (fun hr => ?_) (fun hr => ?_)
        · refine mb_nmx hr (fun y106 qy106 hr => ?_)
          refine mb_iinc (v := y106) (pn := 62) (lv2 := [(3, .inl y106), (0, mb_F 1 av0 0), (1, mb_F 3 av1 bv1), (2, .inl v2)]) 3 dX2_bestBerthFor_59 rfl (by rw [qy106]; rfl) (by decide) rfl rfl ?_
          refine mb_goto (tgt := 4) dX2_bestBerthFor_62 (by decide) ?_
          exact mb_lvs [1, 2, 3, 0] rfl (ih _ _ _ _ _ _ hr)
        · refine mb_iload_n (pn := 35) 2 dX2_bestBerthFor_34 rfl rfl rfl ?_
          refine mb_iconst (v := (-1)) (pn := 36) dX2_bestBerthFor_35 (by decide) rfl ?_
          refine mb_ic_eq (tgt := 57) (pn := 39) dX2_bestBerthFor_36 (by decide) rfl hr (fun hr => ?_) (fun hr => ?_)
          · refine mb_iload_n (pn := 58) 3 dX2_bestBerthFor_57 rfl rfl rfl ?_
            refine mb_istore_n (pn := 59) (lv2 := [(2, .inl v3), (0, mb_F 1 av0 0), (1, mb_F 3 av1 bv1), (3, .inl v3)]) dX2_bestBerthFor_58 rfl (by decide) rfl rfl ?_
            refine mb_nmx hr (fun y107 qy107 hr => ?_)
            refine mb_iinc (v := y107) (pn := 62) (lv2 := [(3, .inl y107), (2, .inl v3), (0, mb_F 1 av0 0), (1, mb_F 3 av1 bv1)]) 3 dX2_bestBerthFor_59 rfl (by rw [qy107]; rfl) (by decide) rfl rfl ?_
            refine mb_goto (tgt := 4) dX2_bestBerthFor_62 (by decide) ?_
            exact mb_lvs [2, 3, 1, 0] rfl (ih _ _ _ _ _ _ hr)
          · refine mb_aload_n (pn := 40) 0 dX2_bestBerthFor_39 rfl rfl rfl ?_
            refine gf_X2_11 (pn := 43) dX2_bestBerthFor_40 rfl ?_
            refine mb_iload_n (pn := 44) 3 dX2_bestBerthFor_43 rfl rfl rfl ?_
            refine mb_aald10 (pn := 45) dX2_bestBerthFor_44 rfl hr (fun hr => ?_)
            refine mb_aload_n (pn := 46) 0 dX2_bestBerthFor_45 rfl rfl rfl ?_
            refine gf_X2_11 (pn := 49) dX2_bestBerthFor_46 rfl ?_
            refine mb_iload_n (pn := 50) 2 dX2_bestBerthFor_49 rfl rfl rfl ?_
            refine mb_aald10 (pn := 51) dX2_bestBerthFor_50 rfl hr (fun hr => ?_)
            refine cl_X2_128 (pn := 54) hst hg (Nat.le_of_ble_eq_true rfl) (Nat.le_of_ble_eq_true rfl) dX2_bestBerthFor_51 rfl hr (fun y109 h108 hr => ?_)
            refine mb_if_eq (tgt := 59) (pn := 57) dX2_bestBerthFor_54 (by decide) rfl hr (fun hr => ?_) (fun hr => ?_)
            · refine mb_nmx hr (fun y110 qy110 hr => ?_)
              refine mb_iinc (v := y110) (pn := 62) (lv2 := [(3, .inl y110), (0, mb_F 1 av0 0), (1, mb_F 3 av1 bv1), (2, .inl v2)]) 3 dX2_bestBerthFor_59 rfl (by rw [qy110]; rfl) (by decide) rfl rfl ?_
              refine mb_goto (tgt := 4) dX2_bestBerthFor_62 (by decide) ?_
              exact mb_lvs [1, 2, 3, 0] rfl (ih _ _ _ _ _ _ hr)
            · refine mb_iload_n (pn := 58) 3 dX2_bestBerthFor_57 rfl rfl rfl ?_
              refine mb_istore_n (pn := 59) (lv2 := [(2, .inl v3), (0, mb_F 1 av0 0), (1, mb_F 3 av1 bv1), (3, .inl v3)]) dX2_bestBerthFor_58 rfl (by decide) rfl rfl ?_
              refine mb_nmx hr (fun y111 qy111 hr => ?_)
              refine mb_iinc (v := y111) (pn := 62) (lv2 := [(3, .inl y111), (2, .inl v3), (0, mb_F 1 av0 0), (1, mb_F 3 av1 bv1)]) 3 dX2_bestBerthFor_59 rfl (by rw [qy111]; rfl) (by decide) rfl rfl ?_
              refine mb_goto (tgt := 4) dX2_bestBerthFor_62 (by decide) ?_
              exact mb_lvs [2, 3, 1, 0] rfl (ih _ _ _ _ _ _ hr)
def F_X2_bestBerthFor (a0 : Nat) (a1 : Nat) (b1 : Nat) (h : mb_AH) : Option mb_RS := (B_X2_bestBerthFor_4  mb_fu a0 a1 b1 (-1) 0 h)
set_option maxRecDepth 100000 in
set_option maxHeartbeats 4000000 in
theorem C_X2_bestBerthFor {l : Launch} {G : mb_G} (hst : l.stackTraces = false) (hg : mb_gok G) {a0 : Nat} {a1 : Nat} {b1 : Nat} {h : mb_AH} {res : mb_RS} (hr : F_X2_bestBerthFor a0 a1 b1 h = some res) : mb_Mt l G yX2_bestBerthFor cX2_bestBerthFor 4 (some .int) 2 [mb_F 1 a0 0, mb_F 3 a1 b1] h res := by
  refine mb_entry (own := RX2) (lv := [(0, mb_F 1 a0 0), (1, mb_F 3 a1 b1)]) (by decide +kernel) rfl (Nat.le_of_ble_eq_true rfl) rfl rfl (fun _ => ?_) hst hg
  unfold F_X2_bestBerthFor at hr
  refine mb_iconst (v := (-1)) (pn := 1) dX2_bestBerthFor_0 (by decide) rfl ?_
  refine mb_istore_n (pn := 2) (lv2 := [(2, .inl (-1)), (0, mb_F 1 a0 0), (1, mb_F 3 a1 b1)]) dX2_bestBerthFor_1 rfl (by decide) rfl rfl ?_
  refine mb_iconst (v := 0) (pn := 3) dX2_bestBerthFor_2 (by decide) rfl ?_
  refine mb_istore_n (pn := 4) (lv2 := [(3, .inl 0), (2, .inl (-1)), (0, mb_F 1 a0 0), (1, mb_F 3 a1 b1)]) dX2_bestBerthFor_3 rfl (by decide) rfl rfl ?_
  exact mb_lvs [2, 3, 1, 0] rfl (T_X2_bestBerthFor_4 hst hg  mb_fu _ _ _ _ _ _ hr)
set_option maxRecDepth 100000 in
set_option maxHeartbeats 4000000 in
theorem cl_X2_136 {l : Launch} {G : mb_G} {cc : ByteArray} {nL : Nat} {ret : Option FieldType} {d pc pn : Nat} {lv : List (Nat × mb_AV)} {st : List mb_AV} {h : mb_AH} {res : mb_RS} (hst : l.stackTraces = false) (hg : mb_gok G) {a0 : Nat} {x1 : Int32} {K : Int32 → mb_AH → Option mb_RS} (hd2 : 0 + 1 ≤ d) (hs4 : st.length ≤ 4) (dg : decode cc pc = .ok (.invokevirtual 136, 3)) (hn : pc + 3 = pn) (hr : mb_cI (F_X2_lowWater a0 x1 h) K = some res) (kk : ∀ (x : Int32) (h2 : mb_AH), K x h2 = some res → mb_Ev l G RX2 cc nL ret d pn lv (.inl x :: st) h2 res) : mb_Ev l G RX2 cc nL ret d pc lv (.inl x1 :: mb_F 1 a0 0 :: st) h res := mb_kVI (as := [.inl x1]) (n := 1) (d2 := 0) (ci := 2) (fun _ hf => C_X2_lowWater hst hg hf) (mb_gV wl_X2_136 mi_X2_lowWater ms_X2_lowWater mn_X2 mc_X2_lowWater) (by decide +kernel) rfl rfl rfl hd2 (by decide) hs4 rfl dg hn hr kk
def F_X2_isAgroundOn (a0 : Nat) (a1 : Nat) (b1 : Nat) (x2 : Int32) (h : mb_AH) : Option mb_RS := (mb_cR 2 (F_X2_berthOf a0 a1 b1 h) (fun h101 => (some (.inl (some (.inl 0)), h101))) (fun a102 b103 h101 => (mb_cI (F_X2_lowWater a0 x2 h101) fun y105 h104 => (if (h101.1 3 a1 b1 1) ≤ ((h101.1 2 a102 b103 0) + y105) then (some (.inl (some (.inl 0)), h104)) else (some (.inl (some (.inl 1)), h104))))))
set_option maxRecDepth 100000 in
set_option maxHeartbeats 4000000 in
theorem C_X2_isAgroundOn {l : Launch} {G : mb_G} (hst : l.stackTraces = false) (hg : mb_gok G) {a0 : Nat} {a1 : Nat} {b1 : Nat} {x2 : Int32} {h : mb_AH} {res : mb_RS} (hr : F_X2_isAgroundOn a0 a1 b1 x2 h = some res) : mb_Mt l G yX2_isAgroundOn cX2_isAgroundOn 4 (some .boolean) 1 [mb_F 1 a0 0, mb_F 3 a1 b1, .inl x2] h res := by
  refine mb_entry (own := RX2) (lv := [(0, mb_F 1 a0 0), (1, mb_F 3 a1 b1), (2, .inl x2)]) (by decide +kernel) rfl (Nat.le_of_ble_eq_true rfl) rfl rfl (fun _ => ?_) hst hg
  unfold F_X2_isAgroundOn at hr
  refine mb_aload_n (pn := 1) 0 dX2_isAgroundOn_0 rfl rfl rfl ?_
  refine mb_aload_n (pn := 2) 1 dX2_isAgroundOn_1 rfl rfl rfl ?_
  refine cl_X2_103 (pn := 5) hst hg (Nat.le_of_ble_eq_true rfl) (Nat.le_of_ble_eq_true rfl) dX2_isAgroundOn_2 rfl hr (fun h101 hr => ?_) (fun a102 b103 h101 hr => ?_)
  · refine mb_astore_nN (pn := 6) (lv2 := [(3, mb_N), (0, mb_F 1 a0 0), (1, mb_F 3 a1 b1), (2, .inl x2)]) dX2_isAgroundOn_5 rfl (by decide) rfl rfl ?_
    refine mb_aload_nN (pn := 7) 0 dX2_isAgroundOn_6 rfl rfl rfl ?_
    refine mb_ifnullN (tgt := 31) dX2_isAgroundOn_7 (by decide) ?_
    refine mb_iconst (v := 0) (pn := 32) dX2_isAgroundOn_31 (by decide) rfl ?_
    cases hr
    exact mb_zret0 dX2_isAgroundOn_32
  · refine mb_astore_n (pn := 6) (lv2 := [(3, mb_F 2 a102 b103), (0, mb_F 1 a0 0), (1, mb_F 3 a1 b1), (2, .inl x2)]) dX2_isAgroundOn_5 rfl (by decide) rfl rfl ?_
    refine mb_aload_n (pn := 7) 0 dX2_isAgroundOn_6 rfl rfl rfl ?_
    refine mb_ifnull (pn := 10) _ _ _ dX2_isAgroundOn_7 rfl ?_
    refine mb_aload_n (pn := 11) 2 dX2_isAgroundOn_10 rfl rfl rfl ?_
    refine gf_X2_89 (pn := 14) dX2_isAgroundOn_11 rfl ?_
    refine mb_aload_n (pn := 15) 0 dX2_isAgroundOn_14 rfl rfl rfl ?_
    refine gf_X2_92 (pn := 18) dX2_isAgroundOn_15 rfl ?_
    refine mb_aload_n (pn := 19) 1 dX2_isAgroundOn_18 rfl rfl rfl ?_
    refine mb_iload_n (pn := 20) 3 dX2_isAgroundOn_19 rfl rfl rfl ?_
    refine cl_X2_136 (pn := 23) hst hg (Nat.le_of_ble_eq_true rfl) (Nat.le_of_ble_eq_true rfl) dX2_isAgroundOn_20 rfl hr (fun y105 h104 hr => ?_)
    refine mb_iadd (pn := 24) dX2_isAgroundOn_23 rfl ?_
    refine mb_ic_le (tgt := 31) (pn := 27) dX2_isAgroundOn_24 (by decide) rfl hr (fun hr => ?_) (fun hr => ?_)
    · refine mb_iconst (v := 0) (pn := 32) dX2_isAgroundOn_31 (by decide) rfl ?_
      cases hr
      exact mb_zret0 dX2_isAgroundOn_32
    · refine mb_iconst (v := 1) (pn := 28) dX2_isAgroundOn_27 (by decide) rfl ?_
      refine mb_goto (tgt := 32) dX2_isAgroundOn_28 (by decide) ?_
      cases hr
      exact mb_zret1 dX2_isAgroundOn_32
set_option maxRecDepth 100000 in
set_option maxHeartbeats 4000000 in
theorem cl_X2_132 {l : Launch} {G : mb_G} {cc : ByteArray} {nL : Nat} {ret : Option FieldType} {d pc pn : Nat} {lv : List (Nat × mb_AV)} {st : List mb_AV} {h : mb_AH} {res : mb_RS} (hst : l.stackTraces = false) (hg : mb_gok G) {a0 : Nat} {a1 : Nat} {b1 : Nat} {x2 : Int32} {K : Int32 → mb_AH → Option mb_RS} (hd2 : 1 + 1 ≤ d) (hs4 : st.length ≤ 4) (dg : decode cc pc = .ok (.invokevirtual 132, 3)) (hn : pc + 3 = pn) (hr : mb_cI (F_X2_isAgroundOn a0 a1 b1 x2 h) K = some res) (kk : ∀ (x : Int32) (h2 : mb_AH), K x h2 = some res → mb_Ev l G RX2 cc nL ret d pn lv (.inl x :: st) h2 res) : mb_Ev l G RX2 cc nL ret d pc lv (.inl x2 :: mb_F 3 a1 b1 :: mb_F 1 a0 0 :: st) h res := mb_kVI (as := [mb_F 3 a1 b1, .inl x2]) (n := 2) (d2 := 1) (ci := 2) (fun _ hf => C_X2_isAgroundOn hst hg hf) (mb_gV wl_X2_132 mi_X2_isAgroundOn ms_X2_isAgroundOn mn_X2 mc_X2_isAgroundOn) (by decide +kernel) rfl rfl rfl hd2 (by decide) hs4 rfl dg hn hr kk
def F_X2_isAground (a0 : Nat) (a1 : Nat) (b1 : Nat) (h : mb_AH) : Option mb_RS := (mb_cI (F_X2_isAgroundOn a0 a1 b1 (h.1 1 a0 0 11) h) fun y102 h101 => (mb_gZ y102 (some (.inl (some (.inl y102)), h101))))
set_option maxRecDepth 100000 in
set_option maxHeartbeats 4000000 in
theorem C_X2_isAground {l : Launch} {G : mb_G} (hst : l.stackTraces = false) (hg : mb_gok G) {a0 : Nat} {a1 : Nat} {b1 : Nat} {h : mb_AH} {res : mb_RS} (hr : F_X2_isAground a0 a1 b1 h = some res) : mb_Mt l G yX2_isAground cX2_isAground 2 (some .boolean) 2 [mb_F 1 a0 0, mb_F 3 a1 b1] h res := by
  refine mb_entry (own := RX2) (lv := [(0, mb_F 1 a0 0), (1, mb_F 3 a1 b1)]) (by decide +kernel) rfl (Nat.le_of_ble_eq_true rfl) rfl rfl (fun _ => ?_) hst hg
  unfold F_X2_isAground at hr
  refine mb_aload_n (pn := 1) 0 dX2_isAground_0 rfl rfl rfl ?_
  refine mb_aload_n (pn := 2) 1 dX2_isAground_1 rfl rfl rfl ?_
  refine mb_aload_n (pn := 3) 0 dX2_isAground_2 rfl rfl rfl ?_
  refine gf_X2_61 (pn := 6) dX2_isAground_3 rfl ?_
  refine cl_X2_132 (pn := 9) hst hg (Nat.le_of_ble_eq_true rfl) (Nat.le_of_ble_eq_true rfl) dX2_isAground_6 rfl hr (fun y102 h101 hr => ?_)
  exact mb_zret dX2_isAground_9 hr
set_option maxRecDepth 100000 in
set_option maxHeartbeats 4000000 in
theorem cl_X2_139 {l : Launch} {G : mb_G} {cc : ByteArray} {nL : Nat} {ret : Option FieldType} {d pc pn : Nat} {lv : List (Nat × mb_AV)} {st : List mb_AV} {h : mb_AH} {res : mb_RS} (hst : l.stackTraces = false) (hg : mb_gok G) {a0 : Nat} {a1 : Nat} {b1 : Nat} {K : Int32 → mb_AH → Option mb_RS} (hd2 : 2 + 1 ≤ d) (hs4 : st.length ≤ 4) (dg : decode cc pc = .ok (.invokevirtual 139, 3)) (hn : pc + 3 = pn) (hr : mb_cI (F_X2_isAground a0 a1 b1 h) K = some res) (kk : ∀ (x : Int32) (h2 : mb_AH), K x h2 = some res → mb_Ev l G RX2 cc nL ret d pn lv (.inl x :: st) h2 res) : mb_Ev l G RX2 cc nL ret d pc lv (mb_F 3 a1 b1 :: mb_F 1 a0 0 :: st) h res := mb_kVI (as := [mb_F 3 a1 b1]) (n := 1) (d2 := 2) (ci := 2) (fun _ hf => C_X2_isAground hst hg hf) (mb_gV wl_X2_139 mi_X2_isAground ms_X2_isAground mn_X2 mc_X2_isAground) (by decide +kernel) rfl rfl rfl hd2 (by decide) hs4 rfl dg hn hr kk
def B_X2_countAground_4  : Nat → Nat → Int32 → Int32 → mb_AH → Option mb_RS
  | 0, _, _, _, _ => none
  | n + 1, av0, v1, v2, h => (if (h.1 1 av0 0 3) ≤ v2 then (some (.inl (some (.inl v1)), h)) else (mb_gB v2 20 (mb_cI (F_X2_isAground av0 av0 v2.toNatClampNeg h) fun y102 h101 => (if y102 = 0 then (mb_lI (v2 + 1) fun y103 => ((B_X2_countAground_4  n) av0 v1 y103 h101)) else (mb_lI (v1 + 1) fun y104 => (mb_lI (v2 + 1) fun y105 => ((B_X2_countAground_4  n) av0 y104 y105 h101)))))))
set_option maxRecDepth 100000 in
set_option maxHeartbeats 4000000 in
theorem T_X2_countAground_4 {l : Launch} {G : mb_G} {res : mb_RS} (hst : l.stackTraces = false) (hg : mb_gok G)   : ∀ (n : Nat) (av0 : Nat) (v1 : Int32) (v2 : Int32) (h : mb_AH), B_X2_countAground_4  n av0 v1 v2 h = some res → mb_Ev l G RX2 cX2_countAground 3 (some .int) 3 4 [(0, mb_F 1 av0 0), (1, .inl v1), (2, .inl v2)] [] h res := by
  intro n
  induction n with
  | zero => intro av0 v1 v2 h hr; cases hr
  | succ n ih =>
    intro av0 v1 v2 h hr
    rw [B_X2_countAground_4] at hr
    refine mb_iload_n (pn := 5) 2 dX2_countAground_4 rfl rfl rfl ?_
    refine mb_aload_n (pn := 6) 0 dX2_countAground_5 rfl rfl rfl ?_
    refine gf_X2_49 (pn := 9) dX2_countAground_6 rfl ?_
    refine mb_ic_ge (tgt := 34) (pn := 12) dX2_countAground_9 (by decide) rfl hr (fun hr => ?_) (fun hr => ?_)
    · refine mb_iload_n (pn := 35) 1 dX2_countAground_34 rfl rfl rfl ?_
      cases hr
      exact mb_iret dX2_countAground_35
    · refine mb_aload_n (pn := 13) 0 dX2_countAground_12 rfl rfl rfl ?_
      refine mb_aload_n (pn := 14) 0 dX2_countAground_13 rfl rfl rfl ?_
      refine gf_X2_19 (pn := 17) dX2_countAground_14 rfl ?_
      refine mb_iload_n (pn := 18) 2 dX2_countAground_17 rfl rfl rfl ?_
      refine mb_aald11 (pn := 19) dX2_countAground_18 rfl hr (fun hr => ?_)
      refine cl_X2_139 (pn := 22) hst hg (Nat.le_of_ble_eq_true rfl) (Nat.le_of_ble_eq_true rfl) dX2_countAground_19 rfl hr (fun y102 h101 hr => ?_)
      refine mb_if_eq (tgt := 28) (pn := 25) dX2_countAground_22 (by decide) rfl hr (fun hr => ?_) (fun hr => ?_)
      · refine mb_nmx hr (fun y103 qy103 hr => ?_)
        refine mb_iinc (v := y103) (pn := 31) (lv2 := [(2, .inl y103), (0, mb_F 1 av0 0), (1, .inl v1)]) 2 dX2_countAground_28 rfl (by rw [qy103]; rfl) (by decide) rfl rfl ?_
        refine mb_goto (tgt := 4) dX2_countAground_31 (by decide) ?_
        exact mb_lvs [1, 2, 0] rfl (ih _ _ _ _ hr)
      · refine mb_nmx hr (fun y104 qy104 hr => ?_)
        refine mb_iinc (v := y104) (pn := 28) (lv2 := [(1, .inl y104), (0, mb_F 1 av0 0), (2, .inl v2)]) 1 dX2_countAground_25 rfl (by rw [qy104]; rfl) (by decide) rfl rfl ?_
        refine mb_nmx hr (fun y105 qy105 hr => ?_)
        refine mb_iinc (v := y105) (pn := 31) (lv2 := [(2, .inl y105), (1, .inl y104), (0, mb_F 1 av0 0)]) 2 dX2_countAground_28 rfl (by rw [qy105]; rfl) (by decide) rfl rfl ?_
        refine mb_goto (tgt := 4) dX2_countAground_31 (by decide) ?_
        exact mb_lvs [2, 1, 0] rfl (ih _ _ _ _ hr)
def F_X2_countAground (a0 : Nat) (h : mb_AH) : Option mb_RS := (B_X2_countAground_4  mb_fu a0 0 0 h)
set_option maxRecDepth 100000 in
set_option maxHeartbeats 4000000 in
theorem C_X2_countAground {l : Launch} {G : mb_G} (hst : l.stackTraces = false) (hg : mb_gok G) {a0 : Nat} {h : mb_AH} {res : mb_RS} (hr : F_X2_countAground a0 h = some res) : mb_Mt l G yX2_countAground cX2_countAground 3 (some .int) 3 [mb_F 1 a0 0] h res := by
  refine mb_entry (own := RX2) (lv := [(0, mb_F 1 a0 0)]) (by decide +kernel) rfl (Nat.le_of_ble_eq_true rfl) rfl rfl (fun _ => ?_) hst hg
  unfold F_X2_countAground at hr
  refine mb_iconst (v := 0) (pn := 1) dX2_countAground_0 (by decide) rfl ?_
  refine mb_istore_n (pn := 2) (lv2 := [(1, .inl 0), (0, mb_F 1 a0 0)]) dX2_countAground_1 rfl (by decide) rfl rfl ?_
  refine mb_iconst (v := 0) (pn := 3) dX2_countAground_2 (by decide) rfl ?_
  refine mb_istore_n (pn := 4) (lv2 := [(2, .inl 0), (1, .inl 0), (0, mb_F 1 a0 0)]) dX2_countAground_3 rfl (by decide) rfl rfl ?_
  exact mb_lvs [2, 1, 0] rfl (T_X2_countAground_4 hst hg  mb_fu _ _ _ _ hr)
def B_X2_daysUntilAground_2  : Nat → Nat → Nat → Nat → Int32 → mb_AH → Option mb_RS
  | 0, _, _, _, _, _ => none
  | n + 1, av0, av1, bv1, v2, h => (if (h.1 1 av0 0 5) ≤ v2 then (some (.inl (some (.inl (-1))), h)) else (mb_cI (F_X2_isAgroundOn av0 av1 bv1 ((h.1 1 av0 0 11) + v2) h) fun y102 h101 => (if y102 = 0 then (mb_lI (v2 + 1) fun y103 => ((B_X2_daysUntilAground_2  n) av0 av1 bv1 y103 h101)) else (some (.inl (some (.inl v2)), h101)))))
set_option maxRecDepth 100000 in
set_option maxHeartbeats 4000000 in
theorem T_X2_daysUntilAground_2 {l : Launch} {G : mb_G} {res : mb_RS} (hst : l.stackTraces = false) (hg : mb_gok G)   : ∀ (n : Nat) (av0 : Nat) (av1 : Nat) (bv1 : Nat) (v2 : Int32) (h : mb_AH), B_X2_daysUntilAground_2  n av0 av1 bv1 v2 h = some res → mb_Ev l G RX2 cX2_daysUntilAground 3 (some .int) 2 2 [(0, mb_F 1 av0 0), (1, mb_F 3 av1 bv1), (2, .inl v2)] [] h res := by
  intro n
  induction n with
  | zero => intro av0 av1 bv1 v2 h hr; cases hr
  | succ n ih =>
    intro av0 av1 bv1 v2 h hr
    rw [B_X2_daysUntilAground_2] at hr
    refine mb_iload_n (pn := 3) 2 dX2_daysUntilAground_2 rfl rfl rfl ?_
    refine mb_aload_n (pn := 4) 0 dX2_daysUntilAground_3 rfl rfl rfl ?_
    refine gf_X2_27 (pn := 7) dX2_daysUntilAground_4 rfl ?_
    refine mb_ic_ge (tgt := 32) (pn := 10) dX2_daysUntilAground_7 (by decide) rfl hr (fun hr => ?_) (fun hr => ?_)
    · refine mb_iconst (v := (-1)) (pn := 33) dX2_daysUntilAground_32 (by decide) rfl ?_
      cases hr
      exact mb_iret dX2_daysUntilAground_33
    · refine mb_aload_n (pn := 11) 0 dX2_daysUntilAground_10 rfl rfl rfl ?_
      refine mb_aload_n (pn := 12) 1 dX2_daysUntilAground_11 rfl rfl rfl ?_
      refine mb_aload_n (pn := 13) 0 dX2_daysUntilAground_12 rfl rfl rfl ?_
      refine gf_X2_61 (pn := 16) dX2_daysUntilAground_13 rfl ?_
      refine mb_iload_n (pn := 17) 2 dX2_daysUntilAground_16 rfl rfl rfl ?_
      refine mb_iadd (pn := 18) dX2_daysUntilAground_17 rfl ?_
      refine cl_X2_132 (pn := 21) hst hg (Nat.le_of_ble_eq_true rfl) (Nat.le_of_ble_eq_true rfl) dX2_daysUntilAground_18 rfl hr (fun y102 h101 hr => ?_)
      refine mb_if_eq (tgt := 26) (pn := 24) dX2_daysUntilAground_21 (by decide) rfl hr (fun hr => ?_) (fun hr => ?_)
      · refine mb_nmx hr (fun y103 qy103 hr => ?_)
        refine mb_iinc (v := y103) (pn := 29) (lv2 := [(2, .inl y103), (0, mb_F 1 av0 0), (1, mb_F 3 av1 bv1)]) 2 dX2_daysUntilAground_26 rfl (by rw [qy103]; rfl) (by decide) rfl rfl ?_
        refine mb_goto (tgt := 2) dX2_daysUntilAground_29 (by decide) ?_
        exact mb_lvs [1, 2, 0] rfl (ih _ _ _ _ _ hr)
      · refine mb_iload_n (pn := 25) 2 dX2_daysUntilAground_24 rfl rfl rfl ?_
        cases hr
        exact mb_iret dX2_daysUntilAground_25
def F_X2_daysUntilAground (a0 : Nat) (a1 : Nat) (b1 : Nat) (h : mb_AH) : Option mb_RS := (B_X2_daysUntilAground_2  mb_fu a0 a1 b1 0 h)
set_option maxRecDepth 100000 in
set_option maxHeartbeats 4000000 in
theorem C_X2_daysUntilAground {l : Launch} {G : mb_G} (hst : l.stackTraces = false) (hg : mb_gok G) {a0 : Nat} {a1 : Nat} {b1 : Nat} {h : mb_AH} {res : mb_RS} (hr : F_X2_daysUntilAground a0 a1 b1 h = some res) : mb_Mt l G yX2_daysUntilAground cX2_daysUntilAground 3 (some .int) 2 [mb_F 1 a0 0, mb_F 3 a1 b1] h res := by
  refine mb_entry (own := RX2) (lv := [(0, mb_F 1 a0 0), (1, mb_F 3 a1 b1)]) (by decide +kernel) rfl (Nat.le_of_ble_eq_true rfl) rfl rfl (fun _ => ?_) hst hg
  unfold F_X2_daysUntilAground at hr
  refine mb_iconst (v := 0) (pn := 1) dX2_daysUntilAground_0 (by decide) rfl ?_
  refine mb_istore_n (pn := 2) (lv2 := [(2, .inl 0), (0, mb_F 1 a0 0), (1, mb_F 3 a1 b1)]) dX2_daysUntilAground_1 rfl (by decide) rfl rfl ?_
  exact mb_lvs [1, 2, 0] rfl (T_X2_daysUntilAground_2 hst hg  mb_fu _ _ _ _ _ hr)
def B_X2_clearanceForAll_5  : Nat → Nat → Int32 → Int32 → mb_AH → Option mb_RS
  | 0, _, _, _, _ => none
  | n + 1, av0, v1, v2, h => (if (h.1 1 av0 0 3) ≤ v2 then (if 0 ≤ v1 then (some (.inl (some (.inl v1)), h)) else (some (.inl (some (.inl (-1))), h))) else (mb_gB v2 20 (mb_cR 2 (F_X2_berthOf av0 av0 v2.toNatClampNeg h) (fun h101 => (mb_lI (v2 + 1) fun y104 => ((B_X2_clearanceForAll_5  n) av0 v1 y104 h101))) (fun a102 b103 h101 => (mb_gB v2 20 (mb_lI (if (((h101.1 2 a102 b103 0) + (h101.1 1 av0 0 6)) - (h101.1 3 av0 v2.toNatClampNeg 1)) < v1 then (((h101.1 2 a102 b103 0) + (h101.1 1 av0 0 6)) - (h101.1 3 av0 v2.toNatClampNeg 1)) else v1) fun y105 => (mb_lI (v2 + 1) fun y106 => ((B_X2_clearanceForAll_5  n) av0 y105 y106 h101))))))))
set_option maxRecDepth 100000 in
set_option maxHeartbeats 4000000 in
theorem T_X2_clearanceForAll_5 {l : Launch} {G : mb_G} {res : mb_RS} (hst : l.stackTraces = false) (hg : mb_gok G)   : ∀ (n : Nat) (av0 : Nat) (v1 : Int32) (v2 : Int32) (h : mb_AH), B_X2_clearanceForAll_5  n av0 v1 v2 h = some res → mb_Ev l G RX2 cX2_clearanceForAll 4 (some .int) 1 5 [(0, mb_F 1 av0 0), (1, .inl v1), (2, .inl v2)] [] h res := by
  intro n
  induction n with
  | zero => intro av0 v1 v2 h hr; cases hr
  | succ n ih =>
    intro av0 v1 v2 h hr
    rw [B_X2_clearanceForAll_5] at hr
    refine mb_iload_n (pn := 6) 2 dX2_clearanceForAll_5 rfl rfl rfl ?_
    refine mb_aload_n (pn := 7) 0 dX2_clearanceForAll_6 rfl rfl rfl ?_
    refine gf_X2_49 (pn := 10) dX2_clearanceForAll_7 rfl ?_
    refine mb_ic_ge (tgt := 58) (pn := 13) dX2_clearanceForAll_10 (by decide) rfl hr (fun hr => ?_) (fun hr => ?_)
    · refine mb_iload_n (pn := 59) 1 dX2_clearanceForAll_58 rfl rfl rfl ?_
      refine mb_if_ge (tgt := 66) (pn := 62) dX2_clearanceForAll_59 (by decide) rfl hr (fun hr => ?_) (fun hr => ?_)
      · refine mb_iload_n (pn := 67) 1 dX2_clearanceForAll_66 rfl rfl rfl ?_
        cases hr
        exact mb_iret dX2_clearanceForAll_67
      · refine mb_iconst (v := (-1)) (pn := 63) dX2_clearanceForAll_62 (by decide) rfl ?_
        refine mb_goto (tgt := 67) dX2_clearanceForAll_63 (by decide) ?_
        cases hr
        exact mb_iret dX2_clearanceForAll_67
    · refine mb_aload_n (pn := 14) 0 dX2_clearanceForAll_13 rfl rfl rfl ?_
      refine mb_aload_n (pn := 15) 0 dX2_clearanceForAll_14 rfl rfl rfl ?_
      refine gf_X2_19 (pn := 18) dX2_clearanceForAll_15 rfl ?_
      refine mb_iload_n (pn := 19) 2 dX2_clearanceForAll_18 rfl rfl rfl ?_
      refine mb_aald11 (pn := 20) dX2_clearanceForAll_19 rfl hr (fun hr => ?_)
      refine cl_X2_103 (pn := 23) hst hg (Nat.le_of_ble_eq_true rfl) (Nat.le_of_ble_eq_true rfl) dX2_clearanceForAll_20 rfl hr (fun h101 hr => ?_) (fun a102 b103 h101 hr => ?_)
      · refine mb_astore_nN (pn := 24) (lv2 := [(3, mb_N), (0, mb_F 1 av0 0), (1, .inl v1), (2, .inl v2)]) dX2_clearanceForAll_23 rfl (by decide) rfl rfl ?_
        refine mb_aload_nN (pn := 25) 0 dX2_clearanceForAll_24 rfl rfl rfl ?_
        refine mb_ifnullN (tgt := 52) dX2_clearanceForAll_25 (by decide) ?_
        refine mb_nmx hr (fun y104 qy104 hr => ?_)
        refine mb_iinc (v := y104) (pn := 55) (lv2 := [(2, .inl y104), (3, mb_N), (0, mb_F 1 av0 0), (1, .inl v1)]) 3 dX2_clearanceForAll_52 rfl (by rw [qy104]; rfl) (by decide) rfl rfl ?_
        refine mb_goto (tgt := 5) dX2_clearanceForAll_55 (by decide) ?_
        exact mb_lvs [2, 3, 0] rfl (ih _ _ _ _ hr)
      · refine mb_astore_n (pn := 24) (lv2 := [(3, mb_F 2 a102 b103), (0, mb_F 1 av0 0), (1, .inl v1), (2, .inl v2)]) dX2_clearanceForAll_23 rfl (by decide) rfl rfl ?_
        refine mb_aload_n (pn := 25) 0 dX2_clearanceForAll_24 rfl rfl rfl ?_
        refine mb_ifnull (pn := 28) _ _ _ dX2_clearanceForAll_25 rfl ?_
        refine mb_iload_n (pn := 29) 2 dX2_clearanceForAll_28 rfl rfl rfl ?_
        refine mb_aload_n (pn := 30) 0 dX2_clearanceForAll_29 rfl rfl rfl ?_
        refine gf_X2_92 (pn := 33) dX2_clearanceForAll_30 rfl ?_
        refine mb_aload_n (pn := 34) 1 dX2_clearanceForAll_33 rfl rfl rfl ?_
        refine gf_X2_55 (pn := 37) dX2_clearanceForAll_34 rfl ?_
        refine mb_iadd (pn := 38) dX2_clearanceForAll_37 rfl ?_
        refine mb_aload_n (pn := 39) 1 dX2_clearanceForAll_38 rfl rfl rfl ?_
        refine gf_X2_19 (pn := 42) dX2_clearanceForAll_39 rfl ?_
        refine mb_iload_n (pn := 43) 3 dX2_clearanceForAll_42 rfl rfl rfl ?_
        refine mb_aald11 (pn := 44) dX2_clearanceForAll_43 rfl hr (fun hr => ?_)
        refine gf_X2_89 (pn := 47) dX2_clearanceForAll_44 rfl ?_
        refine mb_isub (pn := 48) dX2_clearanceForAll_47 rfl ?_
        refine mb_min (pn := 51) wl_X2_83 mM_min_s mM_i mM_min_c (Nat.le_of_ble_eq_true rfl) dX2_clearanceForAll_48 rfl ?_
        refine mb_nmI hr (fun y105 hr => ?_)
        refine mb_istore_n (pn := 52) (lv2 := [(1, .inl y105), (3, mb_F 2 a102 b103), (0, mb_F 1 av0 0), (2, .inl v2)]) dX2_clearanceForAll_51 rfl (by decide) rfl rfl ?_
        refine mb_nmx hr (fun y106 qy106 hr => ?_)
        refine mb_iinc (v := y106) (pn := 55) (lv2 := [(2, .inl y106), (1, .inl y105), (3, mb_F 2 a102 b103), (0, mb_F 1 av0 0)]) 3 dX2_clearanceForAll_52 rfl (by rw [qy106]; rfl) (by decide) rfl rfl ?_
        refine mb_goto (tgt := 5) dX2_clearanceForAll_55 (by decide) ?_
        exact mb_lvs [3, 1, 0] rfl (ih _ _ _ _ hr)
def F_X2_clearanceForAll (a0 : Nat) (h : mb_AH) : Option mb_RS := (B_X2_clearanceForAll_5  mb_fu a0 100 0 h)
set_option maxRecDepth 100000 in
set_option maxHeartbeats 4000000 in
theorem C_X2_clearanceForAll {l : Launch} {G : mb_G} (hst : l.stackTraces = false) (hg : mb_gok G) {a0 : Nat} {h : mb_AH} {res : mb_RS} (hr : F_X2_clearanceForAll a0 h = some res) : mb_Mt l G yX2_clearanceForAll cX2_clearanceForAll 4 (some .int) 1 [mb_F 1 a0 0] h res := by
  refine mb_entry (own := RX2) (lv := [(0, mb_F 1 a0 0)]) (by decide +kernel) rfl (Nat.le_of_ble_eq_true rfl) rfl rfl (fun _ => ?_) hst hg
  unfold F_X2_clearanceForAll at hr
  refine mb_bipush (v := 100) (pn := 2) dX2_clearanceForAll_0 (by decide) rfl ?_
  refine mb_istore_n (pn := 3) (lv2 := [(1, .inl 100), (0, mb_F 1 a0 0)]) dX2_clearanceForAll_2 rfl (by decide) rfl rfl ?_
  refine mb_iconst (v := 0) (pn := 4) dX2_clearanceForAll_3 (by decide) rfl ?_
  refine mb_istore_n (pn := 5) (lv2 := [(2, .inl 0), (1, .inl 100), (0, mb_F 1 a0 0)]) dX2_clearanceForAll_4 rfl (by decide) rfl rfl ?_
  exact mb_lvs [2, 1, 0] rfl (T_X2_clearanceForAll_5 hst hg  mb_fu _ _ _ _ hr)
set_option maxRecDepth 100000 in
set_option maxHeartbeats 4000000 in
theorem cl_X2_143 {l : Launch} {G : mb_G} {cc : ByteArray} {nL : Nat} {ret : Option FieldType} {d pc pn : Nat} {lv : List (Nat × mb_AV)} {st : List mb_AV} {h : mb_AH} {res : mb_RS} (hst : l.stackTraces = false) (hg : mb_gok G) {a0 : Nat} {b0 : Nat} {x1 : Int32} {x2 : Int32} {K : mb_AH → Option mb_RS} (hd2 : 1 + 1 ≤ d) (hs4 : st.length ≤ 4) (dg : decode cc pc = .ok (.invokevirtual 143, 3)) (hn : pc + 3 = pn) (hr : mb_cV (F_X1_moveForGood a0 b0 x1 x2 h) K = some res) (kk : ∀ (h2 : mb_AH), K h2 = some res → mb_Ev l G RX2 cc nL ret d pn lv st h2 res) : mb_Ev l G RX2 cc nL ret d pc lv (.inl x2 :: .inl x1 :: mb_F 3 a0 b0 :: st) h res := mb_kVV (as := [.inl x1, .inl x2]) (n := 2) (d2 := 1) (ci := 1) (fun _ hf => C_X1_moveForGood hst hg hf) (mb_gV wl_X2_143 mi_X1_moveForGood ms_X1_moveForGood mn_X1 mc_X1_moveForGood) (by decide +kernel) rfl rfl rfl hd2 (by decide) hs4 rfl dg hn hr kk
def F_X2_beginToWait (a0 : Nat) (a1 : Nat) (b1 : Nat) (h : mb_AH) : Option mb_RS := (mb_cV (F_X1_moveForGood a1 b1 (2 : Int32) ((-1) : Int32) h) fun h101 => (mb_up (mb_sI h101 3 a1 b1 7 (h101.1 1 a0 0 11)) fun h102 => (mb_up (mb_sI h102 3 a1 b1 8 (h102.1 1 a0 0 14)) fun h103 => (mb_up (mb_sI h103 1 a0 0 14 ((h103.1 1 a0 0 14) + 1)) fun h104 => (some (.inl none, h104))))))
set_option maxRecDepth 100000 in
set_option maxHeartbeats 4000000 in
theorem C_X2_beginToWait {l : Launch} {G : mb_G} (hst : l.stackTraces = false) (hg : mb_gok G) {a0 : Nat} {a1 : Nat} {b1 : Nat} {h : mb_AH} {res : mb_RS} (hr : F_X2_beginToWait a0 a1 b1 h = some res) : mb_Mt l G yX2_beginToWait cX2_beginToWait 2 none 2 [mb_F 1 a0 0, mb_F 3 a1 b1] h res := by
  refine mb_entry (own := RX2) (lv := [(0, mb_F 1 a0 0), (1, mb_F 3 a1 b1)]) (by decide +kernel) rfl (Nat.le_of_ble_eq_true rfl) rfl rfl (fun _ => ?_) hst hg
  unfold F_X2_beginToWait at hr
  refine mb_aload_n (pn := 1) 1 dX2_beginToWait_0 rfl rfl rfl ?_
  refine mb_iconst (v := 2) (pn := 2) dX2_beginToWait_1 (by decide) rfl ?_
  refine mb_iconst (v := (-1)) (pn := 3) dX2_beginToWait_2 (by decide) rfl ?_
  refine cl_X2_143 (pn := 6) hst hg (Nat.le_of_ble_eq_true rfl) (Nat.le_of_ble_eq_true rfl) dX2_beginToWait_3 rfl hr (fun h101 hr => ?_)
  refine mb_aload_n (pn := 7) 1 dX2_beginToWait_6 rfl rfl rfl ?_
  refine mb_aload_n (pn := 8) 0 dX2_beginToWait_7 rfl rfl rfl ?_
  refine gf_X2_61 (pn := 11) dX2_beginToWait_8 rfl ?_
  refine pf_X2_147 (pn := 14) dX2_beginToWait_11 rfl hr (fun h102 hr => ?_)
  refine mb_aload_n (pn := 15) 1 dX2_beginToWait_14 rfl rfl rfl ?_
  refine mb_aload_n (pn := 16) 0 dX2_beginToWait_15 rfl rfl rfl ?_
  refine gf_X2_72 (pn := 19) dX2_beginToWait_16 rfl ?_
  refine pf_X2_150 (pn := 22) dX2_beginToWait_19 rfl hr (fun h103 hr => ?_)
  refine mb_aload_n (pn := 23) 0 dX2_beginToWait_22 rfl rfl rfl ?_
  refine mb_dup (pn := 24) rfl dX2_beginToWait_23 rfl ?_
  refine gf_X2_72 (pn := 27) dX2_beginToWait_24 rfl ?_
  refine mb_iconst (v := 1) (pn := 28) dX2_beginToWait_27 (by decide) rfl ?_
  refine mb_iadd (pn := 29) dX2_beginToWait_28 rfl ?_
  refine pf_X2_72 (pn := 32) dX2_beginToWait_29 rfl hr (fun h104 hr => ?_)
  cases hr
  exact mb_vret dX2_beginToWait_32
def F_X2_points (a0 : Nat) (a1 : Nat) (b1 : Nat) (h : mb_AH) : Option mb_RS := (some (.inl (some (.inl (((h.1 1 a0 0 11) - (h.1 3 a1 b1 7)) + (h.1 3 a1 b1 2)))), h))
set_option maxRecDepth 100000 in
set_option maxHeartbeats 4000000 in
theorem C_X2_points {l : Launch} {G : mb_G} (hst : l.stackTraces = false) (hg : mb_gok G) {a0 : Nat} {a1 : Nat} {b1 : Nat} {h : mb_AH} {res : mb_RS} (hr : F_X2_points a0 a1 b1 h = some res) : mb_Mt l G yX2_points cX2_points 2 (some .int) 0 [mb_F 1 a0 0, mb_F 3 a1 b1] h res := by
  refine mb_entry (own := RX2) (lv := [(0, mb_F 1 a0 0), (1, mb_F 3 a1 b1)]) (by decide +kernel) rfl (Nat.le_of_ble_eq_true rfl) rfl rfl (fun _ => ?_) hst hg
  unfold F_X2_points at hr
  refine mb_aload_n (pn := 1) 0 dX2_points_0 rfl rfl rfl ?_
  refine gf_X2_61 (pn := 4) dX2_points_1 rfl ?_
  refine mb_aload_n (pn := 5) 1 dX2_points_4 rfl rfl rfl ?_
  refine gf_X2_147 (pn := 8) dX2_points_5 rfl ?_
  refine mb_isub (pn := 9) dX2_points_8 rfl ?_
  refine mb_aload_n (pn := 10) 1 dX2_points_9 rfl rfl rfl ?_
  refine gf_X2_153 (pn := 13) dX2_points_10 rfl ?_
  refine mb_iadd (pn := 14) dX2_points_13 rfl ?_
  cases hr
  exact mb_iret dX2_points_14
set_option maxRecDepth 100000 in
set_option maxHeartbeats 4000000 in
theorem cl_X2_156 {l : Launch} {G : mb_G} {cc : ByteArray} {nL : Nat} {ret : Option FieldType} {d pc pn : Nat} {lv : List (Nat × mb_AV)} {st : List mb_AV} {h : mb_AH} {res : mb_RS} (hst : l.stackTraces = false) (hg : mb_gok G) {a0 : Nat} {a1 : Nat} {b1 : Nat} {K : Int32 → mb_AH → Option mb_RS} (hd2 : 0 + 1 ≤ d) (hs4 : st.length ≤ 4) (dg : decode cc pc = .ok (.invokevirtual 156, 3)) (hn : pc + 3 = pn) (hr : mb_cI (F_X2_points a0 a1 b1 h) K = some res) (kk : ∀ (x : Int32) (h2 : mb_AH), K x h2 = some res → mb_Ev l G RX2 cc nL ret d pn lv (.inl x :: st) h2 res) : mb_Ev l G RX2 cc nL ret d pc lv (mb_F 3 a1 b1 :: mb_F 1 a0 0 :: st) h res := mb_kVI (as := [mb_F 3 a1 b1]) (n := 1) (d2 := 0) (ci := 2) (fun _ hf => C_X2_points hst hg hf) (mb_gV wl_X2_156 mi_X2_points ms_X2_points mn_X2 mc_X2_points) (by decide +kernel) rfl rfl rfl hd2 (by decide) hs4 rfl dg hn hr kk
def F_X2_isAhead (a0 : Nat) (a1 : Nat) (b1 : Nat) (a2 : Nat) (b2 : Nat) (h : mb_AH) : Option mb_RS := (mb_cI (F_X2_points a0 a1 b1 h) fun y102 h101 => (mb_cI (F_X2_points a0 a2 b2 h101) fun y104 h103 => (mb_lI (y102 - y104) fun y105 => (if 0 < y105 then (some (.inl (some (.inl 1)), h103)) else (if y105 = 0 then (if (h103.1 3 a2 b2 8) ≤ (h103.1 3 a1 b1 8) then (some (.inl (some (.inl 0)), h103)) else (some (.inl (some (.inl 1)), h103))) else (some (.inl (some (.inl 0)), h103)))))))
set_option maxRecDepth 100000 in
set_option maxHeartbeats 4000000 in
theorem C_X2_isAhead {l : Launch} {G : mb_G} (hst : l.stackTraces = false) (hg : mb_gok G) {a0 : Nat} {a1 : Nat} {b1 : Nat} {a2 : Nat} {b2 : Nat} {h : mb_AH} {res : mb_RS} (hr : F_X2_isAhead a0 a1 b1 a2 b2 h = some res) : mb_Mt l G yX2_isAhead cX2_isAhead 4 (some .boolean) 1 [mb_F 1 a0 0, mb_F 3 a1 b1, mb_F 3 a2 b2] h res := by
  refine mb_entry (own := RX2) (lv := [(0, mb_F 1 a0 0), (1, mb_F 3 a1 b1), (2, mb_F 3 a2 b2)]) (by decide +kernel) rfl (Nat.le_of_ble_eq_true rfl) rfl rfl (fun _ => ?_) hst hg
  unfold F_X2_isAhead at hr
  refine mb_aload_n (pn := 1) 0 dX2_isAhead_0 rfl rfl rfl ?_
  refine mb_aload_n (pn := 2) 1 dX2_isAhead_1 rfl rfl rfl ?_
  refine cl_X2_156 (pn := 5) hst hg (Nat.le_of_ble_eq_true rfl) (Nat.le_of_ble_eq_true rfl) dX2_isAhead_2 rfl hr (fun y102 h101 hr => ?_)
  refine mb_aload_n (pn := 6) 0 dX2_isAhead_5 rfl rfl rfl ?_
  refine mb_aload_n (pn := 7) 2 dX2_isAhead_6 rfl rfl rfl ?_
  refine cl_X2_156 (pn := 10) hst hg (Nat.le_of_ble_eq_true rfl) (Nat.le_of_ble_eq_true rfl) dX2_isAhead_7 rfl hr (fun y104 h103 hr => ?_)
  refine mb_isub (pn := 11) dX2_isAhead_10 rfl ?_
  refine mb_nmI hr (fun y105 hr => ?_)
  refine mb_istore_n (pn := 12) (lv2 := [(3, .inl y105), (0, mb_F 1 a0 0), (1, mb_F 3 a1 b1), (2, mb_F 3 a2 b2)]) dX2_isAhead_11 rfl (by decide) rfl rfl ?_
  refine mb_iload_n (pn := 13) 0 dX2_isAhead_12 rfl rfl rfl ?_
  refine mb_if_gt (tgt := 31) (pn := 16) dX2_isAhead_13 (by decide) rfl hr (fun hr => ?_) (fun hr => ?_)
  · refine mb_iconst (v := 1) (pn := 32) dX2_isAhead_31 (by decide) rfl ?_
    refine mb_goto (tgt := 36) dX2_isAhead_32 (by decide) ?_
    cases hr
    exact mb_zret1 dX2_isAhead_36
  · refine mb_iload_n (pn := 17) 0 dX2_isAhead_16 rfl rfl rfl ?_
    refine mb_if_ne (tgt := 35) (pn := 20) dX2_isAhead_17 (by decide) rfl hr (fun hr => ?_) (fun hr => ?_)
    · refine mb_iconst (v := 0) (pn := 36) dX2_isAhead_35 (by decide) rfl ?_
      cases hr
      exact mb_zret0 dX2_isAhead_36
    · refine mb_aload_n (pn := 21) 2 dX2_isAhead_20 rfl rfl rfl ?_
      refine gf_X2_150 (pn := 24) dX2_isAhead_21 rfl ?_
      refine mb_aload_n (pn := 25) 3 dX2_isAhead_24 rfl rfl rfl ?_
      refine gf_X2_150 (pn := 28) dX2_isAhead_25 rfl ?_
      refine mb_ic_ge (tgt := 35) (pn := 31) dX2_isAhead_28 (by decide) rfl hr (fun hr => ?_) (fun hr => ?_)
      · refine mb_iconst (v := 0) (pn := 36) dX2_isAhead_35 (by decide) rfl ?_
        cases hr
        exact mb_zret0 dX2_isAhead_36
      · refine mb_iconst (v := 1) (pn := 32) dX2_isAhead_31 (by decide) rfl ?_
        refine mb_goto (tgt := 36) dX2_isAhead_32 (by decide) ?_
        cases hr
        exact mb_zret1 dX2_isAhead_36
set_option maxRecDepth 100000 in
set_option maxHeartbeats 4000000 in
theorem cl_X2_160 {l : Launch} {G : mb_G} {cc : ByteArray} {nL : Nat} {ret : Option FieldType} {d pc pn : Nat} {lv : List (Nat × mb_AV)} {st : List mb_AV} {h : mb_AH} {res : mb_RS} (hst : l.stackTraces = false) (hg : mb_gok G) {a0 : Nat} {a1 : Nat} {b1 : Nat} {a2 : Nat} {b2 : Nat} {K : Int32 → mb_AH → Option mb_RS} (hd2 : 1 + 1 ≤ d) (hs4 : st.length ≤ 4) (dg : decode cc pc = .ok (.invokevirtual 160, 3)) (hn : pc + 3 = pn) (hr : mb_cI (F_X2_isAhead a0 a1 b1 a2 b2 h) K = some res) (kk : ∀ (x : Int32) (h2 : mb_AH), K x h2 = some res → mb_Ev l G RX2 cc nL ret d pn lv (.inl x :: st) h2 res) : mb_Ev l G RX2 cc nL ret d pc lv (mb_F 3 a2 b2 :: mb_F 3 a1 b1 :: mb_F 1 a0 0 :: st) h res := mb_kVI (as := [mb_F 3 a1 b1, mb_F 3 a2 b2]) (n := 2) (d2 := 1) (ci := 2) (fun _ hf => C_X2_isAhead hst hg hf) (mb_gV wl_X2_160 mi_X2_isAhead ms_X2_isAhead mn_X2 mc_X2_isAhead) (by decide +kernel) rfl rfl rfl hd2 (by decide) hs4 rfl dg hn hr kk
def B_X2_countAheadOf_4  : Nat → Nat → Nat → Nat → Int32 → Int32 → mb_AH → Option mb_RS
  | 0, _, _, _, _, _, _ => none
  | n + 1, av0, av1, bv1, v2, v3, h => (if (h.1 1 av0 0 3) ≤ v3 then (some (.inl (some (.inl v2)), h)) else (mb_gB v3 20 (if (h.1 3 av0 v3.toNatClampNeg 3) = 2 then (mb_gB v3 20 (mb_cI (F_X2_isAhead av0 av0 v3.toNatClampNeg av1 bv1 h) fun y103 h102 => (if y103 = 0 then (mb_lI (v3 + 1) fun y104 => ((B_X2_countAheadOf_4  n) av0 av1 bv1 v2 y104 h102)) else (mb_lI (v2 + 1) fun y105 => (mb_lI (v3 + 1) fun y106 => ((B_X2_countAheadOf_4  n) av0 av1 bv1 y105 y106 h102)))))) else (mb_lI (v3 + 1) fun y101 => ((B_X2_countAheadOf_4  n) av0 av1 bv1 v2 y101 h)))))
set_option maxRecDepth 100000 in
set_option maxHeartbeats 4000000 in
theorem T_X2_countAheadOf_4 {l : Launch} {G : mb_G} {res : mb_RS} (hst : l.stackTraces = false) (hg : mb_gok G)   : ∀ (n : Nat) (av0 : Nat) (av1 : Nat) (bv1 : Nat) (v2 : Int32) (v3 : Int32) (h : mb_AH), B_X2_countAheadOf_4  n av0 av1 bv1 v2 v3 h = some res → mb_Ev l G RX2 cX2_countAheadOf 4 (some .int) 2 4 [(0, mb_F 1 av0 0), (1, mb_F 3 av1 bv1), (2, .inl v2), (3, .inl v3)] [] h res := by
  intro n
  induction n with
  | zero => intro av0 av1 bv1 v2 v3 h hr; cases hr
  | succ n ih =>
    intro av0 av1 bv1 v2 v3 h hr
    rw [B_X2_countAheadOf_4] at hr
    refine mb_iload_n (pn := 5) 3 dX2_countAheadOf_4 rfl rfl rfl ?_
    refine mb_aload_n (pn := 6) 0 dX2_countAheadOf_5 rfl rfl rfl ?_
    refine gf_X2_49 (pn := 9) dX2_countAheadOf_6 rfl ?_
    refine mb_ic_ge (tgt := 48) (pn := 12) dX2_countAheadOf_9 (by decide) rfl hr (fun hr => ?_) (fun hr => ?_)
    · refine mb_iload_n (pn := 49) 2 dX2_countAheadOf_48 rfl rfl rfl ?_
      cases hr
      exact mb_iret dX2_countAheadOf_49
    · refine mb_aload_n (pn := 13) 0 dX2_countAheadOf_12 rfl rfl rfl ?_
      refine gf_X2_19 (pn := 16) dX2_countAheadOf_13 rfl ?_
      refine mb_iload_n (pn := 17) 3 dX2_countAheadOf_16 rfl rfl rfl ?_
      refine mb_aald11 (pn := 18) dX2_countAheadOf_17 rfl hr (fun hr => ?_)
      refine gf_X2_121 (pn := 21) dX2_countAheadOf_18 rfl ?_
      refine mb_iconst (v := 2) (pn := 22) dX2_countAheadOf_21 (by decide) rfl ?_
      refine mb_ic_ne (tgt := 42) (pn := 25) dX2_countAheadOf_22 (by decide) rfl hr (fun hr => ?_) (fun hr => ?_)
      · refine mb_nmx hr (fun y101 qy101 hr => ?_)
        refine mb_iinc (v := y101) (pn := 45) (lv2 := [(3, .inl y101), (0, mb_F 1 av0 0), (1, mb_F 3 av1 bv1), (2, .inl v2)]) 3 dX2_countAheadOf_42 rfl (by rw [qy101]; rfl) (by decide) rfl rfl ?_
        refine mb_goto (tgt := 4) dX2_countAheadOf_45 (by decide) ?_
        exact mb_lvs [1, 2, 3, 0] rfl (ih _ _ _ _ _ _ hr)
      · refine mb_aload_n (pn := 26) 0 dX2_countAheadOf_25 rfl rfl rfl ?_
        refine mb_aload_n (pn := 27) 0 dX2_countAheadOf_26 rfl rfl rfl ?_
        refine gf_X2_19 (pn := 30) dX2_countAheadOf_27 rfl ?_
        refine mb_iload_n (pn := 31) 3 dX2_countAheadOf_30 rfl rfl rfl ?_
        refine mb_aald11 (pn := 32) dX2_countAheadOf_31 rfl hr (fun hr => ?_)
        refine mb_aload_n (pn := 33) 1 dX2_countAheadOf_32 rfl rfl rfl ?_
        refine cl_X2_160 (pn := 36) hst hg (Nat.le_of_ble_eq_true rfl) (Nat.le_of_ble_eq_true rfl) dX2_countAheadOf_33 rfl hr (fun y103 h102 hr => ?_)
        refine mb_if_eq (tgt := 42) (pn := 39) dX2_countAheadOf_36 (by decide) rfl hr (fun hr => ?_) (fun hr => ?_)
        · refine mb_nmx hr (fun y104 qy104 hr => ?_)
          refine mb_iinc (v := y104) (pn := 45) (lv2 := [(3, .inl y104), (0, mb_F 1 av0 0), (1, mb_F 3 av1 bv1), (2, .inl v2)]) 3 dX2_countAheadOf_42 rfl (by rw [qy104]; rfl) (by decide) rfl rfl ?_
          refine mb_goto (tgt := 4) dX2_countAheadOf_45 (by decide) ?_
          exact mb_lvs [1, 2, 3, 0] rfl (ih _ _ _ _ _ _ hr)
        · refine mb_nmx hr (fun y105 qy105 hr => ?_)
          refine mb_iinc (v := y105) (pn := 42) (lv2 := [(2, .inl y105), (0, mb_F 1 av0 0), (1, mb_F 3 av1 bv1), (3, .inl v3)]) 2 dX2_countAheadOf_39 rfl (by rw [qy105]; rfl) (by decide) rfl rfl ?_
          refine mb_nmx hr (fun y106 qy106 hr => ?_)
          refine mb_iinc (v := y106) (pn := 45) (lv2 := [(3, .inl y106), (2, .inl y105), (0, mb_F 1 av0 0), (1, mb_F 3 av1 bv1)]) 3 dX2_countAheadOf_42 rfl (by rw [qy106]; rfl) (by decide) rfl rfl ?_
          refine mb_goto (tgt := 4) dX2_countAheadOf_45 (by decide) ?_
          exact mb_lvs [2, 3, 1, 0] rfl (ih _ _ _ _ _ _ hr)
def F_X2_countAheadOf (a0 : Nat) (a1 : Nat) (b1 : Nat) (h : mb_AH) : Option mb_RS := (B_X2_countAheadOf_4  mb_fu a0 a1 b1 0 0 h)
set_option maxRecDepth 100000 in
set_option maxHeartbeats 4000000 in
theorem C_X2_countAheadOf {l : Launch} {G : mb_G} (hst : l.stackTraces = false) (hg : mb_gok G) {a0 : Nat} {a1 : Nat} {b1 : Nat} {h : mb_AH} {res : mb_RS} (hr : F_X2_countAheadOf a0 a1 b1 h = some res) : mb_Mt l G yX2_countAheadOf cX2_countAheadOf 4 (some .int) 2 [mb_F 1 a0 0, mb_F 3 a1 b1] h res := by
  refine mb_entry (own := RX2) (lv := [(0, mb_F 1 a0 0), (1, mb_F 3 a1 b1)]) (by decide +kernel) rfl (Nat.le_of_ble_eq_true rfl) rfl rfl (fun _ => ?_) hst hg
  unfold F_X2_countAheadOf at hr
  refine mb_iconst (v := 0) (pn := 1) dX2_countAheadOf_0 (by decide) rfl ?_
  refine mb_istore_n (pn := 2) (lv2 := [(2, .inl 0), (0, mb_F 1 a0 0), (1, mb_F 3 a1 b1)]) dX2_countAheadOf_1 rfl (by decide) rfl rfl ?_
  refine mb_iconst (v := 0) (pn := 3) dX2_countAheadOf_2 (by decide) rfl ?_
  refine mb_istore_n (pn := 4) (lv2 := [(3, .inl 0), (2, .inl 0), (0, mb_F 1 a0 0), (1, mb_F 3 a1 b1)]) dX2_countAheadOf_3 rfl (by decide) rfl rfl ?_
  exact mb_lvs [2, 3, 1, 0] rfl (T_X2_countAheadOf_4 hst hg  mb_fu _ _ _ _ _ _ hr)
set_option maxRecDepth 100000 in
set_option maxHeartbeats 4000000 in
theorem cl_X2_164 {l : Launch} {G : mb_G} {cc : ByteArray} {nL : Nat} {ret : Option FieldType} {d pc pn : Nat} {lv : List (Nat × mb_AV)} {st : List mb_AV} {h : mb_AH} {res : mb_RS} (hst : l.stackTraces = false) (hg : mb_gok G) {a0 : Nat} {a1 : Nat} {b1 : Nat} {K : Int32 → mb_AH → Option mb_RS} (hd2 : 2 + 1 ≤ d) (hs4 : st.length ≤ 4) (dg : decode cc pc = .ok (.invokevirtual 164, 3)) (hn : pc + 3 = pn) (hr : mb_cI (F_X2_countAheadOf a0 a1 b1 h) K = some res) (kk : ∀ (x : Int32) (h2 : mb_AH), K x h2 = some res → mb_Ev l G RX2 cc nL ret d pn lv (.inl x :: st) h2 res) : mb_Ev l G RX2 cc nL ret d pc lv (mb_F 3 a1 b1 :: mb_F 1 a0 0 :: st) h res := mb_kVI (as := [mb_F 3 a1 b1]) (n := 1) (d2 := 2) (ci := 2) (fun _ hf => C_X2_countAheadOf hst hg hf) (mb_gV wl_X2_164 mi_X2_countAheadOf ms_X2_countAheadOf mn_X2 mc_X2_countAheadOf) (by decide +kernel) rfl rfl rfl hd2 (by decide) hs4 rfl dg hn hr kk
def B_X2_waitingAt_2  : Nat → Nat → Int32 → Int32 → mb_AH → Option mb_RS
  | 0, _, _, _, _ => none
  | n + 1, av0, v1, v2, h => (if (h.1 1 av0 0 3) ≤ v2 then (some (.inl (some (.inl (-1))), h)) else (mb_gB v2 20 (if (h.1 3 av0 v2.toNatClampNeg 3) = 2 then (mb_gB v2 20 (mb_cI (F_X2_countAheadOf av0 av0 v2.toNatClampNeg h) fun y103 h102 => (if y103 = v1 then (some (.inl (some (.inl v2)), h102)) else (mb_lI (v2 + 1) fun y104 => ((B_X2_waitingAt_2  n) av0 v1 y104 h102))))) else (mb_lI (v2 + 1) fun y101 => ((B_X2_waitingAt_2  n) av0 v1 y101 h)))))
set_option maxRecDepth 100000 in
set_option maxHeartbeats 4000000 in
theorem T_X2_waitingAt_2 {l : Launch} {G : mb_G} {res : mb_RS} (hst : l.stackTraces = false) (hg : mb_gok G)   : ∀ (n : Nat) (av0 : Nat) (v1 : Int32) (v2 : Int32) (h : mb_AH), B_X2_waitingAt_2  n av0 v1 v2 h = some res → mb_Ev l G RX2 cX2_waitingAt 3 (some .int) 3 2 [(0, mb_F 1 av0 0), (1, .inl v1), (2, .inl v2)] [] h res := by
  intro n
  induction n with
  | zero => intro av0 v1 v2 h hr; cases hr
  | succ n ih =>
    intro av0 v1 v2 h hr
    rw [B_X2_waitingAt_2] at hr
    refine mb_iload_n (pn := 3) 2 dX2_waitingAt_2 rfl rfl rfl ?_
    refine mb_aload_n (pn := 4) 0 dX2_waitingAt_3 rfl rfl rfl ?_
    refine gf_X2_49 (pn := 7) dX2_waitingAt_4 rfl ?_
    refine mb_ic_ge (tgt := 45) (pn := 10) dX2_waitingAt_7 (by decide) rfl hr (fun hr => ?_) (fun hr => ?_)
    · refine mb_iconst (v := (-1)) (pn := 46) dX2_waitingAt_45 (by decide) rfl ?_
      cases hr
      exact mb_iret dX2_waitingAt_46
    · refine mb_aload_n (pn := 11) 0 dX2_waitingAt_10 rfl rfl rfl ?_
      refine gf_X2_19 (pn := 14) dX2_waitingAt_11 rfl ?_
      refine mb_iload_n (pn := 15) 2 dX2_waitingAt_14 rfl rfl rfl ?_
      refine mb_aald11 (pn := 16) dX2_waitingAt_15 rfl hr (fun hr => ?_)
      refine gf_X2_121 (pn := 19) dX2_waitingAt_16 rfl ?_
      refine mb_iconst (v := 2) (pn := 20) dX2_waitingAt_19 (by decide) rfl ?_
      refine mb_ic_ne (tgt := 39) (pn := 23) dX2_waitingAt_20 (by decide) rfl hr (fun hr => ?_) (fun hr => ?_)
      · refine mb_nmx hr (fun y101 qy101 hr => ?_)
        refine mb_iinc (v := y101) (pn := 42) (lv2 := [(2, .inl y101), (0, mb_F 1 av0 0), (1, .inl v1)]) 2 dX2_waitingAt_39 rfl (by rw [qy101]; rfl) (by decide) rfl rfl ?_
        refine mb_goto (tgt := 2) dX2_waitingAt_42 (by decide) ?_
        exact mb_lvs [1, 2, 0] rfl (ih _ _ _ _ hr)
      · refine mb_aload_n (pn := 24) 0 dX2_waitingAt_23 rfl rfl rfl ?_
        refine mb_aload_n (pn := 25) 0 dX2_waitingAt_24 rfl rfl rfl ?_
        refine gf_X2_19 (pn := 28) dX2_waitingAt_25 rfl ?_
        refine mb_iload_n (pn := 29) 2 dX2_waitingAt_28 rfl rfl rfl ?_
        refine mb_aald11 (pn := 30) dX2_waitingAt_29 rfl hr (fun hr => ?_)
        refine cl_X2_164 (pn := 33) hst hg (Nat.le_of_ble_eq_true rfl) (Nat.le_of_ble_eq_true rfl) dX2_waitingAt_30 rfl hr (fun y103 h102 hr => ?_)
        refine mb_iload_n (pn := 34) 1 dX2_waitingAt_33 rfl rfl rfl ?_
        refine mb_ic_ne (tgt := 39) (pn := 37) dX2_waitingAt_34 (by decide) rfl hr (fun hr => ?_) (fun hr => ?_)
        · refine mb_nmx hr (fun y104 qy104 hr => ?_)
          refine mb_iinc (v := y104) (pn := 42) (lv2 := [(2, .inl y104), (0, mb_F 1 av0 0), (1, .inl v1)]) 2 dX2_waitingAt_39 rfl (by rw [qy104]; rfl) (by decide) rfl rfl ?_
          refine mb_goto (tgt := 2) dX2_waitingAt_42 (by decide) ?_
          exact mb_lvs [1, 2, 0] rfl (ih _ _ _ _ hr)
        · refine mb_iload_n (pn := 38) 2 dX2_waitingAt_37 rfl rfl rfl ?_
          cases hr
          exact mb_iret dX2_waitingAt_38
def F_X2_waitingAt (a0 : Nat) (x1 : Int32) (h : mb_AH) : Option mb_RS := (B_X2_waitingAt_2  mb_fu a0 x1 0 h)
set_option maxRecDepth 100000 in
set_option maxHeartbeats 4000000 in
theorem C_X2_waitingAt {l : Launch} {G : mb_G} (hst : l.stackTraces = false) (hg : mb_gok G) {a0 : Nat} {x1 : Int32} {h : mb_AH} {res : mb_RS} (hr : F_X2_waitingAt a0 x1 h = some res) : mb_Mt l G yX2_waitingAt cX2_waitingAt 3 (some .int) 3 [mb_F 1 a0 0, .inl x1] h res := by
  refine mb_entry (own := RX2) (lv := [(0, mb_F 1 a0 0), (1, .inl x1)]) (by decide +kernel) rfl (Nat.le_of_ble_eq_true rfl) rfl rfl (fun _ => ?_) hst hg
  unfold F_X2_waitingAt at hr
  refine mb_iconst (v := 0) (pn := 1) dX2_waitingAt_0 (by decide) rfl ?_
  refine mb_istore_n (pn := 2) (lv2 := [(2, .inl 0), (0, mb_F 1 a0 0), (1, .inl x1)]) dX2_waitingAt_1 rfl (by decide) rfl rfl ?_
  exact mb_lvs [1, 2, 0] rfl (T_X2_waitingAt_2 hst hg  mb_fu _ _ _ _ hr)
def B_X2_firstWaitingFor_4  : Nat → Nat → Nat → Nat → Int32 → Int32 → mb_AH → Option mb_RS
  | 0, _, _, _, _, _, _ => none
  | n + 1, av0, av1, bv1, v2, v3, h => (if (h.1 1 av0 0 3) ≤ v3 then (some (.inl (some (.inl v2)), h)) else (mb_gB v3 20 (if (h.1 3 av0 v3.toNatClampNeg 3) = 2 then (mb_gB v3 20 (mb_cI (F_X2_suits av0 av0 v3.toNatClampNeg av1 bv1 h) fun y103 h102 => (if y103 = 0 then (mb_lI (v3 + 1) fun y104 => ((B_X2_firstWaitingFor_4  n) av0 av1 bv1 v2 y104 h102)) else (if v2 = (-1) then (mb_lI (v3 + 1) fun y105 => ((B_X2_firstWaitingFor_4  n) av0 av1 bv1 v3 y105 h102)) else (mb_gB v3 20 (mb_gB v2 20 (mb_cI (F_X2_isAhead av0 av0 v3.toNatClampNeg av0 v2.toNatClampNeg h102) fun y107 h106 => (if y107 = 0 then (mb_lI (v3 + 1) fun y108 => ((B_X2_firstWaitingFor_4  n) av0 av1 bv1 v2 y108 h106)) else (mb_lI (v3 + 1) fun y109 => ((B_X2_firstWaitingFor_4  n) av0 av1 bv1 v3 y109 h106)))))))))) else (mb_lI (v3 + 1) fun y101 => ((B_X2_firstWaitingFor_4  n) av0 av1 bv1 v2 y101 h)))))
set_option maxRecDepth 100000 in
set_option maxHeartbeats 4000000 in
theorem T_X2_firstWaitingFor_4 {l : Launch} {G : mb_G} {res : mb_RS} (hst : l.stackTraces = false) (hg : mb_gok G)   : ∀ (n : Nat) (av0 : Nat) (av1 : Nat) (bv1 : Nat) (v2 : Int32) (v3 : Int32) (h : mb_AH), B_X2_firstWaitingFor_4  n av0 av1 bv1 v2 v3 h = some res → mb_Ev l G RX2 cX2_firstWaitingFor 4 (some .int) 2 4 [(0, mb_F 1 av0 0), (1, mb_F 2 av1 bv1), (2, .inl v2), (3, .inl v3)] [] h res := by
  intro n
  induction n with
  | zero => intro av0 av1 bv1 v2 v3 h hr; cases hr
  | succ n ih =>
    intro av0 av1 bv1 v2 v3 h hr
    rw [B_X2_firstWaitingFor_4] at hr
    refine mb_iload_n (pn := 5) 3 dX2_firstWaitingFor_4 rfl rfl rfl ?_
    refine mb_aload_n (pn := 6) 0 dX2_firstWaitingFor_5 rfl rfl rfl ?_
    refine gf_X2_49 (pn := 9) dX2_firstWaitingFor_6 rfl ?_
    refine mb_ic_ge (tgt := 71) (pn := 12) dX2_firstWaitingFor_9 (by decide) rfl hr (fun hr => ?_) (fun hr => ?_)
    · refine mb_iload_n (pn := 72) 2 dX2_firstWaitingFor_71 rfl rfl rfl ?_
      cases hr
      exact mb_iret dX2_firstWaitingFor_72
    · refine mb_aload_n (pn := 13) 0 dX2_firstWaitingFor_12 rfl rfl rfl ?_
      refine gf_X2_19 (pn := 16) dX2_firstWaitingFor_13 rfl ?_
      refine mb_iload_n (pn := 17) 3 dX2_firstWaitingFor_16 rfl rfl rfl ?_
      refine mb_aald11 (pn := 18) dX2_firstWaitingFor_17 rfl hr (fun hr => ?_)
      refine gf_X2_121 (pn := 21) dX2_firstWaitingFor_18 rfl ?_
      refine mb_iconst (v := 2) (pn := 22) dX2_firstWaitingFor_21 (by decide) rfl ?_
      refine mb_ic_ne (tgt := 65) (pn := 25) dX2_firstWaitingFor_22 (by decide) rfl hr (fun hr => ?_) (fun hr => ?_)
      · refine mb_nmx hr (fun y101 qy101 hr => ?_)
        refine mb_iinc (v := y101) (pn := 68) (lv2 := [(3, .inl y101), (0, mb_F 1 av0 0), (1, mb_F 2 av1 bv1), (2, .inl v2)]) 3 dX2_firstWaitingFor_65 rfl (by rw [qy101]; rfl) (by decide) rfl rfl ?_
        refine mb_goto (tgt := 4) dX2_firstWaitingFor_68 (by decide) ?_
        exact mb_lvs [1, 2, 3, 0] rfl (ih _ _ _ _ _ _ hr)
      · refine mb_aload_n (pn := 26) 0 dX2_firstWaitingFor_25 rfl rfl rfl ?_
        refine mb_aload_n (pn := 27) 0 dX2_firstWaitingFor_26 rfl rfl rfl ?_
        refine gf_X2_19 (pn := 30) dX2_firstWaitingFor_27 rfl ?_
        refine mb_iload_n (pn := 31) 3 dX2_firstWaitingFor_30 rfl rfl rfl ?_
        refine mb_aald11 (pn := 32) dX2_firstWaitingFor_31 rfl hr (fun hr => ?_)
        refine mb_aload_n (pn := 33) 1 dX2_firstWaitingFor_32 rfl rfl rfl ?_
        refine cl_X2_107 (pn := 36) hst hg (Nat.le_of_ble_eq_true rfl) (Nat.le_of_ble_eq_true rfl) dX2_firstWaitingFor_33 rfl hr (fun y103 h102 hr => ?_)
        refine mb_if_eq (tgt := 65) (pn := 39) dX2_firstWaitingFor_36 (by decide) rfl hr (fun hr => ?_) (fun hr => ?_)
        · refine mb_nmx hr (fun y104 qy104 hr => ?_)
          refine mb_iinc (v := y104) (pn := 68) (lv2 := [(3, .inl y104), (0, mb_F 1 av0 0), (1, mb_F 2 av1 bv1), (2, .inl v2)]) 3 dX2_firstWaitingFor_65 rfl (by rw [qy104]; rfl) (by decide) rfl rfl ?_
          refine mb_goto (tgt := 4) dX2_firstWaitingFor_68 (by decide) ?_
          exact mb_lvs [1, 2, 3, 0] rfl (ih _ _ _ _ _ _ hr)
        · refine mb_iload_n (pn := 40) 2 dX2_firstWaitingFor_39 rfl rfl rfl ?_
          refine mb_iconst (v := (-1)) (pn := 41) dX2_firstWaitingFor_40 (by decide) rfl ?_
          refine mb_ic_eq (tgt := 63) (pn := 44) dX2_firstWaitingFor_41 (by decide) rfl hr (fun hr => ?_) (fun hr => ?_)
          · refine mb_iload_n (pn := 64) 3 dX2_firstWaitingFor_63 rfl rfl rfl ?_
            refine mb_istore_n (pn := 65) (lv2 := [(2, .inl v3), (0, mb_F 1 av0 0), (1, mb_F 2 av1 bv1), (3, .inl v3)]) dX2_firstWaitingFor_64 rfl (by decide) rfl rfl ?_
            refine mb_nmx hr (fun y105 qy105 hr => ?_)
            refine mb_iinc (v := y105) (pn := 68) (lv2 := [(3, .inl y105), (2, .inl v3), (0, mb_F 1 av0 0), (1, mb_F 2 av1 bv1)]) 3 dX2_firstWaitingFor_65 rfl (by rw [qy105]; rfl) (by decide) rfl rfl ?_
            refine mb_goto (tgt := 4) dX2_firstWaitingFor_68 (by decide) ?_
            exact mb_lvs [2, 3, 1, 0] rfl (ih _ _ _ _ _ _ hr)
          · refine mb_aload_n (pn := 45) 0 dX2_firstWaitingFor_44 rfl rfl rfl ?_
            refine mb_aload_n (pn := 46) 0 dX2_firstWaitingFor_45 rfl rfl rfl ?_
            refine gf_X2_19 (pn := 49) dX2_firstWaitingFor_46 rfl ?_
            refine mb_iload_n (pn := 50) 3 dX2_firstWaitingFor_49 rfl rfl rfl ?_
            refine mb_aald11 (pn := 51) dX2_firstWaitingFor_50 rfl hr (fun hr => ?_)
            refine mb_aload_n (pn := 52) 0 dX2_firstWaitingFor_51 rfl rfl rfl ?_
            refine gf_X2_19 (pn := 55) dX2_firstWaitingFor_52 rfl ?_
            refine mb_iload_n (pn := 56) 2 dX2_firstWaitingFor_55 rfl rfl rfl ?_
            refine mb_aald11 (pn := 57) dX2_firstWaitingFor_56 rfl hr (fun hr => ?_)
            refine cl_X2_160 (pn := 60) hst hg (Nat.le_of_ble_eq_true rfl) (Nat.le_of_ble_eq_true rfl) dX2_firstWaitingFor_57 rfl hr (fun y107 h106 hr => ?_)
            refine mb_if_eq (tgt := 65) (pn := 63) dX2_firstWaitingFor_60 (by decide) rfl hr (fun hr => ?_) (fun hr => ?_)
            · refine mb_nmx hr (fun y108 qy108 hr => ?_)
              refine mb_iinc (v := y108) (pn := 68) (lv2 := [(3, .inl y108), (0, mb_F 1 av0 0), (1, mb_F 2 av1 bv1), (2, .inl v2)]) 3 dX2_firstWaitingFor_65 rfl (by rw [qy108]; rfl) (by decide) rfl rfl ?_
              refine mb_goto (tgt := 4) dX2_firstWaitingFor_68 (by decide) ?_
              exact mb_lvs [1, 2, 3, 0] rfl (ih _ _ _ _ _ _ hr)
            · refine mb_iload_n (pn := 64) 3 dX2_firstWaitingFor_63 rfl rfl rfl ?_
              refine mb_istore_n (pn := 65) (lv2 := [(2, .inl v3), (0, mb_F 1 av0 0), (1, mb_F 2 av1 bv1), (3, .inl v3)]) dX2_firstWaitingFor_64 rfl (by decide) rfl rfl ?_
              refine mb_nmx hr (fun y109 qy109 hr => ?_)
              refine mb_iinc (v := y109) (pn := 68) (lv2 := [(3, .inl y109), (2, .inl v3), (0, mb_F 1 av0 0), (1, mb_F 2 av1 bv1)]) 3 dX2_firstWaitingFor_65 rfl (by rw [qy109]; rfl) (by decide) rfl rfl ?_
              refine mb_goto (tgt := 4) dX2_firstWaitingFor_68 (by decide) ?_
              exact mb_lvs [2, 3, 1, 0] rfl (ih _ _ _ _ _ _ hr)
def F_X2_firstWaitingFor (a0 : Nat) (a1 : Nat) (b1 : Nat) (h : mb_AH) : Option mb_RS := (B_X2_firstWaitingFor_4  mb_fu a0 a1 b1 (-1) 0 h)
set_option maxRecDepth 100000 in
set_option maxHeartbeats 4000000 in
theorem C_X2_firstWaitingFor {l : Launch} {G : mb_G} (hst : l.stackTraces = false) (hg : mb_gok G) {a0 : Nat} {a1 : Nat} {b1 : Nat} {h : mb_AH} {res : mb_RS} (hr : F_X2_firstWaitingFor a0 a1 b1 h = some res) : mb_Mt l G yX2_firstWaitingFor cX2_firstWaitingFor 4 (some .int) 2 [mb_F 1 a0 0, mb_F 2 a1 b1] h res := by
  refine mb_entry (own := RX2) (lv := [(0, mb_F 1 a0 0), (1, mb_F 2 a1 b1)]) (by decide +kernel) rfl (Nat.le_of_ble_eq_true rfl) rfl rfl (fun _ => ?_) hst hg
  unfold F_X2_firstWaitingFor at hr
  refine mb_iconst (v := (-1)) (pn := 1) dX2_firstWaitingFor_0 (by decide) rfl ?_
  refine mb_istore_n (pn := 2) (lv2 := [(2, .inl (-1)), (0, mb_F 1 a0 0), (1, mb_F 2 a1 b1)]) dX2_firstWaitingFor_1 rfl (by decide) rfl rfl ?_
  refine mb_iconst (v := 0) (pn := 3) dX2_firstWaitingFor_2 (by decide) rfl ?_
  refine mb_istore_n (pn := 4) (lv2 := [(3, .inl 0), (2, .inl (-1)), (0, mb_F 1 a0 0), (1, mb_F 2 a1 b1)]) dX2_firstWaitingFor_3 rfl (by decide) rfl rfl ?_
  exact mb_lvs [2, 3, 1, 0] rfl (T_X2_firstWaitingFor_4 hst hg  mb_fu _ _ _ _ _ _ hr)
def B_X2_owedInAll_4  : Nat → Nat → Int64 → Int32 → mb_AH → Option mb_RS
  | 0, _, _, _, _ => none
  | n + 1, av0, v1, v3, h => (if (h.1 1 av0 0 3) ≤ v3 then (some (.inl (some (.inr (.inl v1))), h)) else (mb_gB v3 20 (mb_lL (v1 + ((h.1 3 av0 v3.toNatClampNeg 6).toInt64)) fun y101 => (mb_lI (v3 + 1) fun y102 => ((B_X2_owedInAll_4  n) av0 y101 y102 h)))))
set_option maxRecDepth 100000 in
set_option maxHeartbeats 4000000 in
theorem T_X2_owedInAll_4 {l : Launch} {G : mb_G} {res : mb_RS} (hst : l.stackTraces = false) (hg : mb_gok G)   : ∀ (n : Nat) (av0 : Nat) (v1 : Int64) (v3 : Int32) (h : mb_AH), B_X2_owedInAll_4  n av0 v1 v3 h = some res → mb_Ev l G RX2 cX2_owedInAll 4 (some .long) 0 4 [(0, mb_F 1 av0 0), (1, .inr (.inl v1)), (3, .inl v3)] [] h res := by
  intro n
  induction n with
  | zero => intro av0 v1 v3 h hr; cases hr
  | succ n ih =>
    intro av0 v1 v3 h hr
    rw [B_X2_owedInAll_4] at hr
    refine mb_iload_n (pn := 5) 2 dX2_owedInAll_4 rfl rfl rfl ?_
    refine mb_aload_n (pn := 6) 0 dX2_owedInAll_5 rfl rfl rfl ?_
    refine gf_X2_49 (pn := 9) dX2_owedInAll_6 rfl ?_
    refine mb_ic_ge (tgt := 31) (pn := 12) dX2_owedInAll_9 (by decide) rfl hr (fun hr => ?_) (fun hr => ?_)
    · refine mb_lload_n (pn := 32) 1 dX2_owedInAll_31 rfl rfl rfl ?_
      cases hr
      exact mb_lret dX2_owedInAll_32
    · refine mb_lload_n (pn := 13) 1 dX2_owedInAll_12 rfl rfl rfl ?_
      refine mb_aload_n (pn := 14) 0 dX2_owedInAll_13 rfl rfl rfl ?_
      refine gf_X2_19 (pn := 17) dX2_owedInAll_14 rfl ?_
      refine mb_iload_n (pn := 18) 2 dX2_owedInAll_17 rfl rfl rfl ?_
      refine mb_aald11 (pn := 19) dX2_owedInAll_18 rfl hr (fun hr => ?_)
      refine gf_X2_167 (pn := 22) dX2_owedInAll_19 rfl ?_
      refine mb_i2l (pn := 23) dX2_owedInAll_22 rfl ?_
      refine mb_ladd (pn := 24) dX2_owedInAll_23 rfl ?_
      refine mb_nmL hr (fun y101 hr => ?_)
      refine mb_lstore_n (pn := 25) (lv2 := [(1, .inr (.inl y101)), (0, mb_F 1 av0 0), (3, .inl v3)]) dX2_owedInAll_24 rfl (by decide) rfl rfl ?_
      refine mb_nmx hr (fun y102 qy102 hr => ?_)
      refine mb_iinc (v := y102) (pn := 28) (lv2 := [(3, .inl y102), (1, .inr (.inl y101)), (0, mb_F 1 av0 0)]) 2 dX2_owedInAll_25 rfl (by rw [qy102]; rfl) (by decide) rfl rfl ?_
      refine mb_goto (tgt := 4) dX2_owedInAll_28 (by decide) ?_
      exact mb_lvs [2, 1, 0] rfl (ih _ _ _ _ hr)
def F_X2_owedInAll (a0 : Nat) (h : mb_AH) : Option mb_RS := (B_X2_owedInAll_4  mb_fu a0 0 0 h)
set_option maxRecDepth 100000 in
set_option maxHeartbeats 4000000 in
theorem C_X2_owedInAll {l : Launch} {G : mb_G} (hst : l.stackTraces = false) (hg : mb_gok G) {a0 : Nat} {h : mb_AH} {res : mb_RS} (hr : F_X2_owedInAll a0 h = some res) : mb_Mt l G yX2_owedInAll cX2_owedInAll 4 (some .long) 0 [mb_F 1 a0 0] h res := by
  refine mb_entry (own := RX2) (lv := [(0, mb_F 1 a0 0)]) (by decide +kernel) rfl (Nat.le_of_ble_eq_true rfl) rfl rfl (fun _ => ?_) hst hg
  unfold F_X2_owedInAll at hr
  refine mb_lconst (v := 0) (pn := 1) dX2_owedInAll_0 (by decide) rfl ?_
  refine mb_lstore_n (pn := 2) (lv2 := [(1, .inr (.inl 0)), (0, mb_F 1 a0 0)]) dX2_owedInAll_1 rfl (by decide) rfl rfl ?_
  refine mb_iconst (v := 0) (pn := 3) dX2_owedInAll_2 (by decide) rfl ?_
  refine mb_istore_n (pn := 4) (lv2 := [(3, .inl 0), (1, .inr (.inl 0)), (0, mb_F 1 a0 0)]) dX2_owedInAll_3 rfl (by decide) rfl rfl ?_
  exact mb_lvs [2, 1, 0] rfl (T_X2_owedInAll_4 hst hg  mb_fu _ _ _ _ hr)
def F_X2_feeOfDay (a0 : Nat) (a1 : Nat) (b1 : Nat) (h : mb_AH) : Option mb_RS := (mb_cR 2 (F_X2_berthOf a0 a1 b1 h) (fun h101 => (if (h101.1 3 a1 b1 3) = 3 then (mb_gL 10 (some (.inl (some (.inr (.inl ((((h101.1 3 a1 b1 0).toInt64) * ((h101.1 1 a0 0 8).toInt64)) / 10)))), h101))) else (some (.inl (some (.inr (.inl 0))), h101)))) (fun a102 b103 h101 => (mb_gL 10 (some (.inl (some (.inr (.inl ((((h101.1 3 a1 b1 0).toInt64) * ((h101.1 2 a102 b103 3).toInt64)) / 10)))), h101)))))
set_option maxRecDepth 100000 in
set_option maxHeartbeats 4000000 in
theorem C_X2_feeOfDay {l : Launch} {G : mb_G} (hst : l.stackTraces = false) (hg : mb_gok G) {a0 : Nat} {a1 : Nat} {b1 : Nat} {h : mb_AH} {res : mb_RS} (hr : F_X2_feeOfDay a0 a1 b1 h = some res) : mb_Mt l G yX2_feeOfDay cX2_feeOfDay 3 (some .long) 1 [mb_F 1 a0 0, mb_F 3 a1 b1] h res := by
  refine mb_entry (own := RX2) (lv := [(0, mb_F 1 a0 0), (1, mb_F 3 a1 b1)]) (by decide +kernel) rfl (Nat.le_of_ble_eq_true rfl) rfl rfl (fun _ => ?_) hst hg
  unfold F_X2_feeOfDay at hr
  refine mb_aload_n (pn := 1) 0 dX2_feeOfDay_0 rfl rfl rfl ?_
  refine mb_aload_n (pn := 2) 1 dX2_feeOfDay_1 rfl rfl rfl ?_
  refine cl_X2_103 (pn := 5) hst hg (Nat.le_of_ble_eq_true rfl) (Nat.le_of_ble_eq_true rfl) dX2_feeOfDay_2 rfl hr (fun h101 hr => ?_) (fun a102 b103 h101 hr => ?_)
  · refine mb_astore_nN (pn := 6) (lv2 := [(2, mb_N), (0, mb_F 1 a0 0), (1, mb_F 3 a1 b1)]) dX2_feeOfDay_5 rfl (by decide) rfl rfl ?_
    refine mb_aload_nN (pn := 7) 0 dX2_feeOfDay_6 rfl rfl rfl ?_
    refine mb_ifnullN (tgt := 26) dX2_feeOfDay_7 (by decide) ?_
    refine mb_aload_n (pn := 27) 2 dX2_feeOfDay_26 rfl rfl rfl ?_
    refine gf_X2_121 (pn := 30) dX2_feeOfDay_27 rfl ?_
    refine mb_iconst (v := 3) (pn := 31) dX2_feeOfDay_30 (by decide) rfl ?_
    refine mb_ic_ne (tgt := 52) (pn := 34) dX2_feeOfDay_31 (by decide) rfl hr (fun hr => ?_) (fun hr => ?_)
    · refine mb_lconst (v := 0) (pn := 53) dX2_feeOfDay_52 (by decide) rfl ?_
      cases hr
      exact mb_lret dX2_feeOfDay_53
    · refine mb_aload_n (pn := 35) 2 dX2_feeOfDay_34 rfl rfl rfl ?_
      refine gf_X2_95 (pn := 38) dX2_feeOfDay_35 rfl ?_
      refine mb_i2l (pn := 39) dX2_feeOfDay_38 rfl ?_
      refine mb_aload_n (pn := 40) 1 dX2_feeOfDay_39 rfl rfl rfl ?_
      refine gf_X2_58 (pn := 43) dX2_feeOfDay_40 rfl ?_
      refine mb_i2l (pn := 44) dX2_feeOfDay_43 rfl ?_
      refine mb_lmul (pn := 45) dX2_feeOfDay_44 rfl ?_
      refine mb_ldc2 (v := 10) (pn := 48) wk_X2_192 dX2_feeOfDay_45 rfl ?_
      refine mb_ldiv (pn := 49) dX2_feeOfDay_48 rfl hr (fun hr => ?_)
      refine mb_goto (tgt := 53) dX2_feeOfDay_49 (by decide) ?_
      cases hr
      exact mb_lret dX2_feeOfDay_53
  · refine mb_astore_n (pn := 6) (lv2 := [(2, mb_F 2 a102 b103), (0, mb_F 1 a0 0), (1, mb_F 3 a1 b1)]) dX2_feeOfDay_5 rfl (by decide) rfl rfl ?_
    refine mb_aload_n (pn := 7) 0 dX2_feeOfDay_6 rfl rfl rfl ?_
    refine mb_ifnull (pn := 10) _ _ _ dX2_feeOfDay_7 rfl ?_
    refine mb_aload_n (pn := 11) 2 dX2_feeOfDay_10 rfl rfl rfl ?_
    refine gf_X2_95 (pn := 14) dX2_feeOfDay_11 rfl ?_
    refine mb_i2l (pn := 15) dX2_feeOfDay_14 rfl ?_
    refine mb_aload_n (pn := 16) 0 dX2_feeOfDay_15 rfl rfl rfl ?_
    refine gf_X2_189 (pn := 19) dX2_feeOfDay_16 rfl ?_
    refine mb_i2l (pn := 20) dX2_feeOfDay_19 rfl ?_
    refine mb_lmul (pn := 21) dX2_feeOfDay_20 rfl ?_
    refine mb_ldc2 (v := 10) (pn := 24) wk_X2_192 dX2_feeOfDay_21 rfl ?_
    refine mb_ldiv (pn := 25) dX2_feeOfDay_24 rfl hr (fun hr => ?_)
    cases hr
    exact mb_lret dX2_feeOfDay_25
set_option maxRecDepth 100000 in
set_option maxHeartbeats 4000000 in
theorem cl_X2_181 {l : Launch} {G : mb_G} {cc : ByteArray} {nL : Nat} {ret : Option FieldType} {d pc pn : Nat} {lv : List (Nat × mb_AV)} {st : List mb_AV} {h : mb_AH} {res : mb_RS} (hst : l.stackTraces = false) (hg : mb_gok G) {a0 : Nat} {a1 : Nat} {b1 : Nat} {K : Int64 → mb_AH → Option mb_RS} (hd2 : 1 + 1 ≤ d) (hs4 : st.length ≤ 4) (dg : decode cc pc = .ok (.invokevirtual 181, 3)) (hn : pc + 3 = pn) (hr : mb_cL (F_X2_feeOfDay a0 a1 b1 h) K = some res) (kk : ∀ (x : Int64) (h2 : mb_AH), K x h2 = some res → mb_Ev l G RX2 cc nL ret d pn lv (.inr (.inl x) :: st) h2 res) : mb_Ev l G RX2 cc nL ret d pc lv (mb_F 3 a1 b1 :: mb_F 1 a0 0 :: st) h res := mb_kVL (as := [mb_F 3 a1 b1]) (n := 1) (d2 := 1) (ci := 2) (fun _ hf => C_X2_feeOfDay hst hg hf) (mb_gV wl_X2_181 mi_X2_feeOfDay ms_X2_feeOfDay mn_X2 mc_X2_feeOfDay) (by decide +kernel) rfl rfl rfl hd2 (by decide) hs4 rfl dg hn hr kk
set_option maxRecDepth 100000 in
set_option maxHeartbeats 4000000 in
theorem cl_X2_185 {l : Launch} {G : mb_G} {cc : ByteArray} {nL : Nat} {ret : Option FieldType} {d pc pn : Nat} {lv : List (Nat × mb_AV)} {st : List mb_AV} {h : mb_AH} {res : mb_RS} (hst : l.stackTraces = false) (hg : mb_gok G) {a0 : Nat} {b0 : Nat} {x1 : Int64} {K : Int32 → mb_AH → Option mb_RS} (hd2 : 0 + 1 ≤ d) (hs4 : st.length ≤ 4) (dg : decode cc pc = .ok (.invokevirtual 185, 3)) (hn : pc + 3 = pn) (hr : mb_cI (F_X1_canOweMore a0 b0 x1 h) K = some res) (kk : ∀ (x : Int32) (h2 : mb_AH), K x h2 = some res → mb_Ev l G RX2 cc nL ret d pn lv (.inl x :: st) h2 res) : mb_Ev l G RX2 cc nL ret d pc lv (.inr (.inl x1) :: mb_F 3 a0 b0 :: st) h res := mb_kVI (as := [.inr (.inl x1)]) (n := 1) (d2 := 0) (ci := 1) (fun _ hf => C_X1_canOweMore hst hg hf) (mb_gV wl_X2_185 mi_X1_canOweMore ms_X1_canOweMore mn_X1 mc_X1_canOweMore) (by decide +kernel) rfl rfl rfl hd2 (by decide) hs4 rfl dg hn hr kk
def B_X2_chargeAll_2  : Nat → Nat → Int32 → mb_AH → Option mb_RS
  | 0, _, _, _ => none
  | n + 1, av0, v1, h => (if (h.1 1 av0 0 3) ≤ v1 then (some (.inl (some (.inl 1)), h)) else (mb_gB v1 20 (mb_cL (F_X2_feeOfDay av0 av0 v1.toNatClampNeg h) fun y102 h101 => (mb_gB v1 20 (mb_cI (F_X1_canOweMore av0 v1.toNatClampNeg y102 h101) fun y104 h103 => (if y104 = 0 then (some (.inl (some (.inl 0)), h103)) else (mb_gB v1 20 (mb_up (mb_sI h103 3 av0 v1.toNatClampNeg 6 ((h103.1 3 av0 v1.toNatClampNeg 6) + y102.toInt32)) fun h105 => (mb_lI (v1 + 1) fun y106 => ((B_X2_chargeAll_2  n) av0 y106 h105))))))))))
set_option maxRecDepth 100000 in
set_option maxHeartbeats 4000000 in
theorem T_X2_chargeAll_2 {l : Launch} {G : mb_G} {res : mb_RS} (hst : l.stackTraces = false) (hg : mb_gok G)   : ∀ (n : Nat) (av0 : Nat) (v1 : Int32) (h : mb_AH), B_X2_chargeAll_2  n av0 v1 h = some res → mb_Ev l G RX2 cX2_chargeAll 4 (some .boolean) 2 2 [(0, mb_F 1 av0 0), (1, .inl v1)] [] h res := by
  intro n
  induction n with
  | zero => intro av0 v1 h hr; cases hr
  | succ n ih =>
    intro av0 v1 h hr
    rw [B_X2_chargeAll_2] at hr
    refine mb_iload_n (pn := 3) 1 dX2_chargeAll_2 rfl rfl rfl ?_
    refine mb_aload_n (pn := 4) 0 dX2_chargeAll_3 rfl rfl rfl ?_
    refine gf_X2_49 (pn := 7) dX2_chargeAll_4 rfl ?_
    refine mb_ic_ge (tgt := 58) (pn := 10) dX2_chargeAll_7 (by decide) rfl hr (fun hr => ?_) (fun hr => ?_)
    · refine mb_iconst (v := 1) (pn := 59) dX2_chargeAll_58 (by decide) rfl ?_
      cases hr
      exact mb_zret1 dX2_chargeAll_59
    · refine mb_aload_n (pn := 11) 0 dX2_chargeAll_10 rfl rfl rfl ?_
      refine mb_aload_n (pn := 12) 0 dX2_chargeAll_11 rfl rfl rfl ?_
      refine gf_X2_19 (pn := 15) dX2_chargeAll_12 rfl ?_
      refine mb_iload_n (pn := 16) 1 dX2_chargeAll_15 rfl rfl rfl ?_
      refine mb_aald11 (pn := 17) dX2_chargeAll_16 rfl hr (fun hr => ?_)
      refine cl_X2_181 (pn := 20) hst hg (Nat.le_of_ble_eq_true rfl) (Nat.le_of_ble_eq_true rfl) dX2_chargeAll_17 rfl hr (fun y102 h101 hr => ?_)
      refine mb_lstore_n (pn := 21) (lv2 := [(2, .inr (.inl y102)), (0, mb_F 1 av0 0), (1, .inl v1)]) dX2_chargeAll_20 rfl (by decide) rfl rfl ?_
      refine mb_aload_n (pn := 22) 1 dX2_chargeAll_21 rfl rfl rfl ?_
      refine gf_X2_19 (pn := 25) dX2_chargeAll_22 rfl ?_
      refine mb_iload_n (pn := 26) 2 dX2_chargeAll_25 rfl rfl rfl ?_
      refine mb_aald11 (pn := 27) dX2_chargeAll_26 rfl hr (fun hr => ?_)
      refine mb_lload_n (pn := 28) 0 dX2_chargeAll_27 rfl rfl rfl ?_
      refine cl_X2_185 (pn := 31) hst hg (Nat.le_of_ble_eq_true rfl) (Nat.le_of_ble_eq_true rfl) dX2_chargeAll_28 rfl hr (fun y104 h103 hr => ?_)
      refine mb_if_ne (tgt := 36) (pn := 34) dX2_chargeAll_31 (by decide) rfl hr (fun hr => ?_) (fun hr => ?_)
      · refine mb_aload_n (pn := 37) 1 dX2_chargeAll_36 rfl rfl rfl ?_
        refine gf_X2_19 (pn := 40) dX2_chargeAll_37 rfl ?_
        refine mb_iload_n (pn := 41) 2 dX2_chargeAll_40 rfl rfl rfl ?_
        refine mb_aald11 (pn := 42) dX2_chargeAll_41 rfl hr (fun hr => ?_)
        refine mb_dup (pn := 43) rfl dX2_chargeAll_42 rfl ?_
        refine gf_X2_167 (pn := 46) dX2_chargeAll_43 rfl ?_
        refine mb_lload_n (pn := 47) 0 dX2_chargeAll_46 rfl rfl rfl ?_
        refine mb_l2i (pn := 48) dX2_chargeAll_47 rfl ?_
        refine mb_iadd (pn := 49) dX2_chargeAll_48 rfl ?_
        refine pf_X2_167 (pn := 52) dX2_chargeAll_49 rfl hr (fun h105 hr => ?_)
        refine mb_nmx hr (fun y106 qy106 hr => ?_)
        refine mb_iinc (v := y106) (pn := 55) (lv2 := [(1, .inl y106), (2, .inr (.inl y102)), (0, mb_F 1 av0 0)]) 2 dX2_chargeAll_52 rfl (by rw [qy106]; rfl) (by decide) rfl rfl ?_
        refine mb_goto (tgt := 2) dX2_chargeAll_55 (by decide) ?_
        exact mb_lvs [2, 0] rfl (ih _ _ _ hr)
      · refine mb_iconst (v := 0) (pn := 35) dX2_chargeAll_34 (by decide) rfl ?_
        cases hr
        exact mb_zret0 dX2_chargeAll_35
def F_X2_chargeAll (a0 : Nat) (h : mb_AH) : Option mb_RS := (B_X2_chargeAll_2  mb_fu a0 0 h)
set_option maxRecDepth 100000 in
set_option maxHeartbeats 4000000 in
theorem C_X2_chargeAll {l : Launch} {G : mb_G} (hst : l.stackTraces = false) (hg : mb_gok G) {a0 : Nat} {h : mb_AH} {res : mb_RS} (hr : F_X2_chargeAll a0 h = some res) : mb_Mt l G yX2_chargeAll cX2_chargeAll 4 (some .boolean) 2 [mb_F 1 a0 0] h res := by
  refine mb_entry (own := RX2) (lv := [(0, mb_F 1 a0 0)]) (by decide +kernel) rfl (Nat.le_of_ble_eq_true rfl) rfl rfl (fun _ => ?_) hst hg
  unfold F_X2_chargeAll at hr
  refine mb_iconst (v := 0) (pn := 1) dX2_chargeAll_0 (by decide) rfl ?_
  refine mb_istore_n (pn := 2) (lv2 := [(1, .inl 0), (0, mb_F 1 a0 0)]) dX2_chargeAll_1 rfl (by decide) rfl rfl ?_
  exact mb_lvs [1, 0] rfl (T_X2_chargeAll_2 hst hg  mb_fu _ _ _ hr)
set_option maxRecDepth 100000 in
set_option maxHeartbeats 4000000 in
theorem cl_X2_170 {l : Launch} {G : mb_G} {cc : ByteArray} {nL : Nat} {ret : Option FieldType} {d pc pn : Nat} {lv : List (Nat × mb_AV)} {st : List mb_AV} {h : mb_AH} {res : mb_RS} (hst : l.stackTraces = false) (hg : mb_gok G) {a0 : Nat} {K : Int32 → mb_AH → Option mb_RS} (hd2 : 2 + 1 ≤ d) (hs4 : st.length ≤ 4) (dg : decode cc pc = .ok (.invokevirtual 170, 3)) (hn : pc + 3 = pn) (hr : mb_cI (F_X2_chargeAll a0 h) K = some res) (kk : ∀ (x : Int32) (h2 : mb_AH), K x h2 = some res → mb_Ev l G RX2 cc nL ret d pn lv (.inl x :: st) h2 res) : mb_Ev l G RX2 cc nL ret d pc lv (mb_F 1 a0 0 :: st) h res := mb_kVI (as := []) (n := 0) (d2 := 2) (ci := 2) (fun _ hf => C_X2_chargeAll hst hg hf) (mb_gV wl_X2_170 mi_X2_chargeAll ms_X2_chargeAll mn_X2 mc_X2_chargeAll) (by decide +kernel) rfl rfl rfl hd2 (by decide) hs4 rfl dg hn hr kk
def B_X2_beginSpring_87 (K7 : Nat → Int32 → mb_AH → Option mb_RS) (av0 : Nat) (v1 : Int32) (av2 : Nat) (bv2 : Nat) (h : mb_AH) : Option mb_RS := (mb_up (mb_sI h 3 av2 bv2 5 (-1)) fun h106 => (mb_lI (v1 + 1) fun y107 => (K7 av0 y107 h106)))
set_option maxRecDepth 100000 in
set_option maxHeartbeats 4000000 in
theorem T_X2_beginSpring_87 {l : Launch} {G : mb_G} {res : mb_RS} (hst : l.stackTraces = false) (hg : mb_gok G) {K7 : Nat → Int32 → mb_AH → Option mb_RS} (hK7 : ∀ (av0z : Nat) (v1z : Int32) (hz : mb_AH), K7 av0z v1z hz = some res → mb_Ev l G RX2 cX2_beginSpring 4 none 3 7 [(0, mb_F 1 av0z 0), (1, .inl v1z)] [] hz res) {av0 : Nat} {v1 : Int32} {av2 : Nat} {bv2 : Nat} {h : mb_AH} (hr : B_X2_beginSpring_87 K7 av0 v1 av2 bv2 h = some res) : mb_Ev l G RX2 cX2_beginSpring 4 none 3 87 [(0, mb_F 1 av0 0), (1, .inl v1), (2, mb_F 3 av2 bv2)] [] h res := by
  unfold B_X2_beginSpring_87 at hr
  refine mb_aload_n (pn := 88) 2 dX2_beginSpring_87 rfl rfl rfl ?_
  refine mb_iconst (v := (-1)) (pn := 89) dX2_beginSpring_88 (by decide) rfl ?_
  refine pf_X2_199 (pn := 92) dX2_beginSpring_89 rfl hr (fun h106 hr => ?_)
  refine mb_nmx hr (fun y107 qy107 hr => ?_)
  refine mb_iinc (v := y107) (pn := 95) (lv2 := [(1, .inl y107), (0, mb_F 1 av0 0), (2, mb_F 3 av2 bv2)]) 1 dX2_beginSpring_92 rfl (by rw [qy107]; rfl) (by decide) rfl rfl ?_
  refine mb_goto (tgt := 7) dX2_beginSpring_95 (by decide) ?_
  exact mb_lvs [1, 0] rfl (hK7 _ _ _ hr)
set_option maxRecDepth 100000 in
set_option maxHeartbeats 4000000 in
theorem cl_X2_214 {l : Launch} {G : mb_G} {cc : ByteArray} {nL : Nat} {ret : Option FieldType} {d pc pn : Nat} {lv : List (Nat × mb_AV)} {st : List mb_AV} {h : mb_AH} {res : mb_RS} (hst : l.stackTraces = false) (hg : mb_gok G) {a0 : Nat} {a1 : Nat} {b1 : Nat} {K : mb_AH → Option mb_RS} (hd2 : 2 + 1 ≤ d) (hs4 : st.length ≤ 4) (dg : decode cc pc = .ok (.invokevirtual 214, 3)) (hn : pc + 3 = pn) (hr : mb_cV (F_X2_beginToWait a0 a1 b1 h) K = some res) (kk : ∀ (h2 : mb_AH), K h2 = some res → mb_Ev l G RX2 cc nL ret d pn lv st h2 res) : mb_Ev l G RX2 cc nL ret d pc lv (mb_F 3 a1 b1 :: mb_F 1 a0 0 :: st) h res := mb_kVV (as := [mb_F 3 a1 b1]) (n := 1) (d2 := 2) (ci := 2) (fun _ hf => C_X2_beginToWait hst hg hf) (mb_gV wl_X2_214 mi_X2_beginToWait ms_X2_beginToWait mn_X2 mc_X2_beginToWait) (by decide +kernel) rfl rfl rfl hd2 (by decide) hs4 rfl dg hn hr kk
def B_X2_beginSpring_74 (K7 : Nat → Int32 → mb_AH → Option mb_RS) (av0 : Nat) (v1 : Int32) (av2 : Nat) (bv2 : Nat) (h : mb_AH) : Option mb_RS := (if (h.1 3 av2 bv2 3) = 3 then (mb_cV (F_X2_beginToWait av0 av2 bv2 h) fun h108 => (B_X2_beginSpring_87 K7 av0 v1 av2 bv2 h108)) else (B_X2_beginSpring_87 K7 av0 v1 av2 bv2 h))
set_option maxRecDepth 100000 in
set_option maxHeartbeats 4000000 in
theorem T_X2_beginSpring_74 {l : Launch} {G : mb_G} {res : mb_RS} (hst : l.stackTraces = false) (hg : mb_gok G) {K7 : Nat → Int32 → mb_AH → Option mb_RS} (hK7 : ∀ (av0z : Nat) (v1z : Int32) (hz : mb_AH), K7 av0z v1z hz = some res → mb_Ev l G RX2 cX2_beginSpring 4 none 3 7 [(0, mb_F 1 av0z 0), (1, .inl v1z)] [] hz res) {av0 : Nat} {v1 : Int32} {av2 : Nat} {bv2 : Nat} {h : mb_AH} (hr : B_X2_beginSpring_74 K7 av0 v1 av2 bv2 h = some res) : mb_Ev l G RX2 cX2_beginSpring 4 none 3 74 [(0, mb_F 1 av0 0), (1, .inl v1), (2, mb_F 3 av2 bv2)] [] h res := by
  unfold B_X2_beginSpring_74 at hr
  refine mb_aload_n (pn := 75) 2 dX2_beginSpring_74 rfl rfl rfl ?_
  refine gf_X2_121 (pn := 78) dX2_beginSpring_75 rfl ?_
  refine mb_iconst (v := 3) (pn := 79) dX2_beginSpring_78 (by decide) rfl ?_
  refine mb_ic_ne (tgt := 87) (pn := 82) dX2_beginSpring_79 (by decide) rfl hr (fun hr => ?_) (fun hr => ?_)
  · exact mb_lvs [0, 1, 2] rfl (T_X2_beginSpring_87 hst hg hK7 hr)
  · refine mb_aload_n (pn := 83) 0 dX2_beginSpring_82 rfl rfl rfl ?_
    refine mb_aload_n (pn := 84) 2 dX2_beginSpring_83 rfl rfl rfl ?_
    refine cl_X2_214 (pn := 87) hst hg (Nat.le_of_ble_eq_true rfl) (Nat.le_of_ble_eq_true rfl) dX2_beginSpring_84 rfl hr (fun h108 hr => ?_)
    exact mb_lvs [0, 1, 2] rfl (T_X2_beginSpring_87 hst hg hK7 hr)
set_option maxRecDepth 100000 in
set_option maxHeartbeats 4000000 in
theorem cl_X2_202 {l : Launch} {G : mb_G} {cc : ByteArray} {nL : Nat} {ret : Option FieldType} {d pc pn : Nat} {lv : List (Nat × mb_AV)} {st : List mb_AV} {h : mb_AH} {res : mb_RS} (hst : l.stackTraces = false) (hg : mb_gok G) {a0 : Nat} {b0 : Nat} {x1 : Int32} {x2 : Int32} {K : mb_AH → Option mb_RS} (hd2 : 0 + 1 ≤ d) (hs4 : st.length ≤ 4) (dg : decode cc pc = .ok (.invokevirtual 202, 3)) (hn : pc + 3 = pn) (hr : mb_cV (F_X1_move a0 b0 x1 x2 h) K = some res) (kk : ∀ (h2 : mb_AH), K h2 = some res → mb_Ev l G RX2 cc nL ret d pn lv st h2 res) : mb_Ev l G RX2 cc nL ret d pc lv (.inl x2 :: .inl x1 :: mb_F 3 a0 b0 :: st) h res := mb_kVV (as := [.inl x1, .inl x2]) (n := 2) (d2 := 0) (ci := 1) (fun _ hf => C_X1_move hst hg hf) (mb_gV wl_X2_202 mi_X1_move ms_X1_move mn_X1 mc_X1_move) (by decide +kernel) rfl rfl rfl hd2 (by decide) hs4 rfl dg hn hr kk
def B_X2_beginSpring_7  : Nat → Nat → Int32 → mb_AH → Option mb_RS
  | 0, _, _, _ => none
  | n + 1, av0, v1, h => (if (h.1 1 av0 0 3) ≤ v1 then (some (.inl none, h)) else (mb_gB v1 20 (mb_lI (h.1 3 av0 v1.toNatClampNeg 5) fun y102 => (if y102 < 0 then (mb_lI (v1 + 1) fun y103 => ((B_X2_beginSpring_7  n) av0 y103 h)) else (if y102 < (h.1 1 av0 0 1) then (mb_cI (F_X2_boatIn av0 y102 h) fun y105 h104 => (if y105 = (-1) then (mb_gB y102 16 (mb_cI (F_X2_suits av0 av0 v1.toNatClampNeg av0 y102.toNatClampNeg h104) fun y110 h109 => (if y110 = 0 then (B_X2_beginSpring_74 (B_X2_beginSpring_7  n) av0 v1 av0 v1.toNatClampNeg h109) else (mb_cV (F_X1_move av0 v1.toNatClampNeg (1 : Int32) y102 h109) fun h111 => (B_X2_beginSpring_87 (B_X2_beginSpring_7  n) av0 v1 av0 v1.toNatClampNeg h111))))) else (B_X2_beginSpring_74 (B_X2_beginSpring_7  n) av0 v1 av0 v1.toNatClampNeg h104))) else (mb_lI (v1 + 1) fun y112 => ((B_X2_beginSpring_7  n) av0 y112 h)))))))
set_option maxRecDepth 100000 in
set_option maxHeartbeats 4000000 in
theorem T_X2_beginSpring_7 {l : Launch} {G : mb_G} {res : mb_RS} (hst : l.stackTraces = false) (hg : mb_gok G)   : ∀ (n : Nat) (av0 : Nat) (v1 : Int32) (h : mb_AH), B_X2_beginSpring_7  n av0 v1 h = some res → mb_Ev l G RX2 cX2_beginSpring 4 none 3 7 [(0, mb_F 1 av0 0), (1, .inl v1)] [] h res := by
  intro n
  induction n with
  | zero => intro av0 v1 h hr; cases hr
  | succ n ih =>
    intro av0 v1 h hr
    rw [B_X2_beginSpring_7] at hr
    refine mb_iload_n (pn := 8) 1 dX2_beginSpring_7 rfl rfl rfl ?_
    refine mb_aload_n (pn := 9) 0 dX2_beginSpring_8 rfl rfl rfl ?_
    refine gf_X2_49 (pn := 12) dX2_beginSpring_9 rfl ?_
    refine mb_ic_ge (tgt := 98) (pn := 15) dX2_beginSpring_12 (by decide) rfl hr (fun hr => ?_) (fun hr => ?_)
    · cases hr
      exact mb_vret dX2_beginSpring_98
    · refine mb_aload_n (pn := 16) 0 dX2_beginSpring_15 rfl rfl rfl ?_
      refine gf_X2_19 (pn := 19) dX2_beginSpring_16 rfl ?_
      refine mb_iload_n (pn := 20) 1 dX2_beginSpring_19 rfl rfl rfl ?_
      refine mb_aald11 (pn := 21) dX2_beginSpring_20 rfl hr (fun hr => ?_)
      refine mb_astore_n (pn := 22) (lv2 := [(2, mb_F 3 av0 v1.toNatClampNeg), (0, mb_F 1 av0 0), (1, .inl v1)]) dX2_beginSpring_21 rfl (by decide) rfl rfl ?_
      refine mb_aload_n (pn := 23) 0 dX2_beginSpring_22 rfl rfl rfl ?_
      refine gf_X2_199 (pn := 26) dX2_beginSpring_23 rfl ?_
      refine mb_nmI hr (fun y102 hr => ?_)
      refine mb_istore_n (pn := 27) (lv2 := [(3, .inl y102), (2, mb_F 3 av0 v1.toNatClampNeg), (0, mb_F 1 av0 0), (1, .inl v1)]) dX2_beginSpring_26 rfl (by decide) rfl rfl ?_
      refine mb_iload_n (pn := 28) 0 dX2_beginSpring_27 rfl rfl rfl ?_
      refine mb_if_lt (tgt := 92) (pn := 31) dX2_beginSpring_28 (by decide) rfl hr (fun hr => ?_) (fun hr => ?_)
      · refine mb_nmx hr (fun y103 qy103 hr => ?_)
        refine mb_iinc (v := y103) (pn := 95) (lv2 := [(1, .inl y103), (3, .inl y102), (2, mb_F 3 av0 v1.toNatClampNeg), (0, mb_F 1 av0 0)]) 3 dX2_beginSpring_92 rfl (by rw [qy103]; rfl) (by decide) rfl rfl ?_
        refine mb_goto (tgt := 7) dX2_beginSpring_95 (by decide) ?_
        exact mb_lvs [3, 0] rfl (ih _ _ _ hr)
      · refine mb_iload_n (pn := 32) 0 dX2_beginSpring_31 rfl rfl rfl ?_
        refine mb_aload_n (pn := 33) 2 dX2_beginSpring_32 rfl rfl rfl ?_
        refine gf_X2_42 (pn := 36) dX2_beginSpring_33 rfl ?_
        refine mb_ic_lt (tgt := 42) (pn := 39) dX2_beginSpring_36 (by decide) rfl hr (fun hr => ?_) (fun hr => ?_)
        · refine mb_aload_n (pn := 43) 2 dX2_beginSpring_42 rfl rfl rfl ?_
          refine mb_iload_n (pn := 44) 0 dX2_beginSpring_43 rfl rfl rfl ?_
          refine cl_X2_114 (pn := 47) hst hg (Nat.le_of_ble_eq_true rfl) (Nat.le_of_ble_eq_true rfl) dX2_beginSpring_44 rfl hr (fun y105 h104 hr => ?_)
          refine mb_iconst (v := (-1)) (pn := 48) dX2_beginSpring_47 (by decide) rfl ?_
          refine mb_ic_ne (tgt := 74) (pn := 51) dX2_beginSpring_48 (by decide) rfl hr (fun hr => ?_) (fun hr => ?_)
          · exact mb_lvs [2, 3, 1] rfl (T_X2_beginSpring_74 hst hg ih hr)
          · refine mb_aload_n (pn := 52) 2 dX2_beginSpring_51 rfl rfl rfl ?_
            refine mb_aload_n (pn := 53) 1 dX2_beginSpring_52 rfl rfl rfl ?_
            refine mb_aload_n (pn := 54) 2 dX2_beginSpring_53 rfl rfl rfl ?_
            refine gf_X2_11 (pn := 57) dX2_beginSpring_54 rfl ?_
            refine mb_iload_n (pn := 58) 0 dX2_beginSpring_57 rfl rfl rfl ?_
            refine mb_aald10 (pn := 59) dX2_beginSpring_58 rfl hr (fun hr => ?_)
            refine cl_X2_107 (pn := 62) hst hg (Nat.le_of_ble_eq_true rfl) (Nat.le_of_ble_eq_true rfl) dX2_beginSpring_59 rfl hr (fun y110 h109 hr => ?_)
            refine mb_if_eq (tgt := 74) (pn := 65) dX2_beginSpring_62 (by decide) rfl hr (fun hr => ?_) (fun hr => ?_)
            · exact mb_lvs [2, 3, 1] rfl (T_X2_beginSpring_74 hst hg ih hr)
            · refine mb_aload_n (pn := 66) 1 dX2_beginSpring_65 rfl rfl rfl ?_
              refine mb_iconst (v := 1) (pn := 67) dX2_beginSpring_66 (by decide) rfl ?_
              refine mb_iload_n (pn := 68) 0 dX2_beginSpring_67 rfl rfl rfl ?_
              refine cl_X2_202 (pn := 71) hst hg (Nat.le_of_ble_eq_true rfl) (Nat.le_of_ble_eq_true rfl) dX2_beginSpring_68 rfl hr (fun h111 hr => ?_)
              refine mb_goto (tgt := 87) dX2_beginSpring_71 (by decide) ?_
              exact mb_lvs [2, 3, 1] rfl (T_X2_beginSpring_87 hst hg ih hr)
        · refine mb_goto (tgt := 92) dX2_beginSpring_39 (by decide) ?_
          refine mb_nmx hr (fun y112 qy112 hr => ?_)
          refine mb_iinc (v := y112) (pn := 95) (lv2 := [(1, .inl y112), (3, .inl y102), (2, mb_F 3 av0 v1.toNatClampNeg), (0, mb_F 1 av0 0)]) 3 dX2_beginSpring_92 rfl (by rw [qy112]; rfl) (by decide) rfl rfl ?_
          refine mb_goto (tgt := 7) dX2_beginSpring_95 (by decide) ?_
          exact mb_lvs [3, 0] rfl (ih _ _ _ hr)
def F_X2_beginSpring (a0 : Nat) (h : mb_AH) : Option mb_RS := (mb_gZ 0 (mb_up (mb_sI h 1 a0 0 12 0) fun h101 => (B_X2_beginSpring_7  mb_fu a0 0 h101)))
set_option maxRecDepth 100000 in
set_option maxHeartbeats 4000000 in
theorem C_X2_beginSpring {l : Launch} {G : mb_G} (hst : l.stackTraces = false) (hg : mb_gok G) {a0 : Nat} {h : mb_AH} {res : mb_RS} (hr : F_X2_beginSpring a0 h = some res) : mb_Mt l G yX2_beginSpring cX2_beginSpring 4 none 3 [mb_F 1 a0 0] h res := by
  refine mb_entry (own := RX2) (lv := [(0, mb_F 1 a0 0)]) (by decide +kernel) rfl (Nat.le_of_ble_eq_true rfl) rfl rfl (fun _ => ?_) hst hg
  unfold F_X2_beginSpring at hr
  refine mb_aload_n (pn := 1) 0 dX2_beginSpring_0 rfl rfl rfl ?_
  refine mb_iconst (v := 0) (pn := 2) dX2_beginSpring_1 (by decide) rfl ?_
  refine pf_X2_64 (pn := 5) dX2_beginSpring_2 rfl hr (fun h101 hr => ?_)
  refine mb_iconst (v := 0) (pn := 6) dX2_beginSpring_5 (by decide) rfl ?_
  refine mb_istore_n (pn := 7) (lv2 := [(1, .inl 0), (0, mb_F 1 a0 0)]) dX2_beginSpring_6 rfl (by decide) rfl rfl ?_
  exact mb_lvs [1, 0] rfl (T_X2_beginSpring_7 hst hg  mb_fu _ _ _ hr)
set_option maxRecDepth 100000 in
set_option maxHeartbeats 4000000 in
theorem cl_X2_178 {l : Launch} {G : mb_G} {cc : ByteArray} {nL : Nat} {ret : Option FieldType} {d pc pn : Nat} {lv : List (Nat × mb_AV)} {st : List mb_AV} {h : mb_AH} {res : mb_RS} (hst : l.stackTraces = false) (hg : mb_gok G) {a0 : Nat} {K : mb_AH → Option mb_RS} (hd2 : 3 + 1 ≤ d) (hs4 : st.length ≤ 4) (dg : decode cc pc = .ok (.invokevirtual 178, 3)) (hn : pc + 3 = pn) (hr : mb_cV (F_X2_beginSpring a0 h) K = some res) (kk : ∀ (h2 : mb_AH), K h2 = some res → mb_Ev l G RX2 cc nL ret d pn lv st h2 res) : mb_Ev l G RX2 cc nL ret d pc lv (mb_F 1 a0 0 :: st) h res := mb_kVV (as := []) (n := 0) (d2 := 3) (ci := 2) (fun _ hf => C_X2_beginSpring hst hg hf) (mb_gV wl_X2_178 mi_X2_beginSpring ms_X2_beginSpring mn_X2 mc_X2_beginSpring) (by decide +kernel) rfl rfl rfl hd2 (by decide) hs4 rfl dg hn hr kk
def B_X2_letPass_67 (K5 : Nat → Int32 → Int32 → Int32 → mb_AH → Option mb_RS) (av0 : Nat) (v1 : Int32) (v3 : Int32) (v4 : Int32) (v5 : Int32) (h : mb_AH) : Option mb_RS := (if (h.1 1 av0 0 12) = 0 then (mb_lI (v4 + 1) fun y105 => (K5 av0 v1 v3 y105 h)) else (if v5 = (h.1 1 av0 0 10) then (mb_cV (F_X2_beginSpring av0 h) fun h107 => (mb_lI (v3 + 1) fun y108 => (mb_lI (v4 + 1) fun y109 => (K5 av0 v1 y108 y109 h107)))) else (mb_lI (v4 + 1) fun y106 => (K5 av0 v1 v3 y106 h))))
set_option maxRecDepth 100000 in
set_option maxHeartbeats 4000000 in
theorem T_X2_letPass_67 {l : Launch} {G : mb_G} {res : mb_RS} (hst : l.stackTraces = false) (hg : mb_gok G) {K5 : Nat → Int32 → Int32 → Int32 → mb_AH → Option mb_RS} (hK5 : ∀ (av0z : Nat) (v1z : Int32) (v3z : Int32) (v4z : Int32) (hz : mb_AH), K5 av0z v1z v3z v4z hz = some res → mb_Ev l G RX2 cX2_letPass 6 (some .int) 24 5 [(0, mb_F 1 av0z 0), (1, .inl v1z), (2, mb_F 4 0 0), (3, .inl v3z), (4, .inl v4z)] [] hz res) {av0 : Nat} {v1 : Int32} {v3 : Int32} {v4 : Int32} {v5 : Int32} {h : mb_AH} (hr : B_X2_letPass_67 K5 av0 v1 v3 v4 v5 h = some res) : mb_Ev l G RX2 cX2_letPass 6 (some .int) 24 67 [(0, mb_F 1 av0 0), (1, .inl v1), (2, mb_F 4 0 0), (3, .inl v3), (4, .inl v4), (5, .inl v5)] [] h res := by
  unfold B_X2_letPass_67 at hr
  refine mb_aload_n (pn := 68) 0 dX2_letPass_67 rfl rfl rfl ?_
  refine gf_X2_64 (pn := 71) dX2_letPass_68 rfl ?_
  refine mb_if_eq (tgt := 90) (pn := 74) dX2_letPass_71 (by decide) rfl hr (fun hr => ?_) (fun hr => ?_)
  · refine mb_nmx hr (fun y105 qy105 hr => ?_)
    refine mb_iinc (v := y105) (pn := 93) (lv2 := [(4, .inl y105), (0, mb_F 1 av0 0), (1, .inl v1), (2, mb_F 4 0 0), (3, .inl v3), (5, .inl v5)]) 4 dX2_letPass_90 rfl (by rw [qy105]; rfl) (by decide) rfl rfl ?_
    refine mb_goto (tgt := 5) dX2_letPass_93 (by decide) ?_
    exact mb_lvs [1, 2, 3, 4, 0] rfl (hK5 _ _ _ _ _ hr)
  · refine mb_iload (pn := 76) 5 dX2_letPass_74 rfl rfl ?_
    refine mb_aload_n (pn := 77) 0 dX2_letPass_76 rfl rfl rfl ?_
    refine gf_X2_37 (pn := 80) dX2_letPass_77 rfl ?_
    refine mb_ic_ne (tgt := 90) (pn := 83) dX2_letPass_80 (by decide) rfl hr (fun hr => ?_) (fun hr => ?_)
    · refine mb_nmx hr (fun y106 qy106 hr => ?_)
      refine mb_iinc (v := y106) (pn := 93) (lv2 := [(4, .inl y106), (0, mb_F 1 av0 0), (1, .inl v1), (2, mb_F 4 0 0), (3, .inl v3), (5, .inl v5)]) 4 dX2_letPass_90 rfl (by rw [qy106]; rfl) (by decide) rfl rfl ?_
      refine mb_goto (tgt := 5) dX2_letPass_93 (by decide) ?_
      exact mb_lvs [1, 2, 3, 4, 0] rfl (hK5 _ _ _ _ _ hr)
    · refine mb_aload_n (pn := 84) 0 dX2_letPass_83 rfl rfl rfl ?_
      refine cl_X2_178 (pn := 87) hst hg (Nat.le_of_ble_eq_true rfl) (Nat.le_of_ble_eq_true rfl) dX2_letPass_84 rfl hr (fun h107 hr => ?_)
      refine mb_nmx hr (fun y108 qy108 hr => ?_)
      refine mb_iinc (v := y108) (pn := 90) (lv2 := [(3, .inl y108), (0, mb_F 1 av0 0), (1, .inl v1), (2, mb_F 4 0 0), (4, .inl v4), (5, .inl v5)]) 3 dX2_letPass_87 rfl (by rw [qy108]; rfl) (by decide) rfl rfl ?_
      refine mb_nmx hr (fun y109 qy109 hr => ?_)
      refine mb_iinc (v := y109) (pn := 93) (lv2 := [(4, .inl y109), (3, .inl y108), (0, mb_F 1 av0 0), (1, .inl v1), (2, mb_F 4 0 0), (5, .inl v5)]) 4 dX2_letPass_90 rfl (by rw [qy109]; rfl) (by decide) rfl rfl ?_
      refine mb_goto (tgt := 5) dX2_letPass_93 (by decide) ?_
      exact mb_lvs [2, 3, 4, 1, 0] rfl (hK5 _ _ _ _ _ hr)
set_option maxRecDepth 100000 in
set_option maxHeartbeats 4000000 in
theorem cl_X2_194 {l : Launch} {G : mb_G} {cc : ByteArray} {nL : Nat} {ret : Option FieldType} {d pc pn : Nat} {lv : List (Nat × mb_AV)} {st : List mb_AV} {h : mb_AH} {res : mb_RS} (hst : l.stackTraces = false) (hg : mb_gok G)  {K : mb_AH → Option mb_RS} (hd2 : 0 + 1 ≤ d) (hs4 : st.length ≤ 4) (dg : decode cc pc = .ok (.invokevirtual 194, 3)) (hn : pc + 3 = pn) (hr : mb_cV (F_X4_clear  h) K = some res) (kk : ∀ (h2 : mb_AH), K h2 = some res → mb_Ev l G RX2 cc nL ret d pn lv st h2 res) : mb_Ev l G RX2 cc nL ret d pc lv (mb_F 4 0 0 :: st) h res := mb_kVV (as := []) (n := 0) (d2 := 0) (ci := 4) (fun _ hf => C_X4_clear hst hg hf) (mb_gV wl_X2_194 mi_X4_clear ms_X4_clear mn_X4 mc_X4_clear) (by decide +kernel) rfl rfl rfl hd2 (by decide) hs4 rfl dg hn hr kk
set_option maxRecDepth 100000 in
set_option maxHeartbeats 4000000 in
theorem cl_X2_211 {l : Launch} {G : mb_G} {cc : ByteArray} {nL : Nat} {ret : Option FieldType} {d pc pn : Nat} {lv : List (Nat × mb_AV)} {st : List mb_AV} {h : mb_AH} {res : mb_RS} (hst : l.stackTraces = false) (hg : mb_gok G) {x1 : Int32} {K : Int32 → mb_AH → Option mb_RS} (hd2 : 22 + 1 ≤ d) (hs4 : st.length ≤ 4) (dg : decode cc pc = .ok (.invokevirtual 211, 3)) (hn : pc + 3 = pn) (hr : mb_cI (F_X4_giveTo x1 h) K = some res) (kk : ∀ (x : Int32) (h2 : mb_AH), K x h2 = some res → mb_Ev l G RX2 cc nL ret d pn lv (.inl x :: st) h2 res) : mb_Ev l G RX2 cc nL ret d pc lv (.inl x1 :: mb_F 4 0 0 :: st) h res := mb_kVI (as := [.inl x1]) (n := 1) (d2 := 22) (ci := 4) (fun _ hf => C_X4_giveTo hst hg hf) (mb_gV wl_X2_211 mi_X4_giveTo ms_X4_giveTo mn_X4 mc_X4_giveTo) (by decide +kernel) rfl rfl rfl hd2 (by decide) hs4 rfl dg hn hr kk
def B_X2_beginWinter_93  : Nat → Nat → Int32 → mb_AH → Option mb_RS
  | 0, _, _, _ => none
  | n + 1, av0, v2, h => (if (h.1 1 av0 0 3) ≤ v2 then (some (.inl none, h)) else (mb_cI (F_X4_giveTo v2 h) fun y104 h103 => (if y104 = (-1) then (mb_lI (v2 + 1) fun y105 => ((B_X2_beginWinter_93  n) av0 y105 h103)) else (mb_gB v2 20 (mb_cV (F_X1_move av0 v2.toNatClampNeg (1 : Int32) y104 h103) fun h106 => (mb_lI (v2 + 1) fun y107 => ((B_X2_beginWinter_93  n) av0 y107 h106)))))))
set_option maxRecDepth 100000 in
set_option maxHeartbeats 4000000 in
theorem T_X2_beginWinter_93 {l : Launch} {G : mb_G} {res : mb_RS} (hst : l.stackTraces = false) (hg : mb_gok G)   : ∀ (n : Nat) (av0 : Nat) (v2 : Int32) (h : mb_AH), B_X2_beginWinter_93  n av0 v2 h = some res → mb_Ev l G RX2 cX2_beginWinter 4 none 23 93 [(0, mb_F 1 av0 0), (1, mb_F 4 0 0), (2, .inl v2)] [] h res := by
  intro n
  induction n with
  | zero => intro av0 v2 h hr; cases hr
  | succ n ih =>
    intro av0 v2 h hr
    rw [B_X2_beginWinter_93] at hr
    refine mb_iload_n (pn := 94) 2 dX2_beginWinter_93 rfl rfl rfl ?_
    refine mb_aload_n (pn := 95) 0 dX2_beginWinter_94 rfl rfl rfl ?_
    refine gf_X2_49 (pn := 98) dX2_beginWinter_95 rfl ?_
    refine mb_ic_ge (tgt := 129) (pn := 101) dX2_beginWinter_98 (by decide) rfl hr (fun hr => ?_) (fun hr => ?_)
    · cases hr
      exact mb_vret dX2_beginWinter_129
    · refine mb_aload_n (pn := 102) 1 dX2_beginWinter_101 rfl rfl rfl ?_
      refine mb_iload_n (pn := 103) 2 dX2_beginWinter_102 rfl rfl rfl ?_
      refine cl_X2_211 (pn := 106) hst hg (Nat.le_of_ble_eq_true rfl) (Nat.le_of_ble_eq_true rfl) dX2_beginWinter_103 rfl hr (fun y104 h103 hr => ?_)
      refine mb_istore_n (pn := 107) (lv2 := [(3, .inl y104), (0, mb_F 1 av0 0), (1, mb_F 4 0 0), (2, .inl v2)]) dX2_beginWinter_106 rfl (by decide) rfl rfl ?_
      refine mb_iload_n (pn := 108) 0 dX2_beginWinter_107 rfl rfl rfl ?_
      refine mb_iconst (v := (-1)) (pn := 109) dX2_beginWinter_108 (by decide) rfl ?_
      refine mb_ic_eq (tgt := 123) (pn := 112) dX2_beginWinter_109 (by decide) rfl hr (fun hr => ?_) (fun hr => ?_)
      · refine mb_nmx hr (fun y105 qy105 hr => ?_)
        refine mb_iinc (v := y105) (pn := 126) (lv2 := [(2, .inl y105), (3, .inl y104), (0, mb_F 1 av0 0), (1, mb_F 4 0 0)]) 3 dX2_beginWinter_123 rfl (by rw [qy105]; rfl) (by decide) rfl rfl ?_
        refine mb_goto (tgt := 93) dX2_beginWinter_126 (by decide) ?_
        exact mb_lvs [2, 3, 0] rfl (ih _ _ _ hr)
      · refine mb_aload_n (pn := 113) 1 dX2_beginWinter_112 rfl rfl rfl ?_
        refine gf_X2_19 (pn := 116) dX2_beginWinter_113 rfl ?_
        refine mb_iload_n (pn := 117) 3 dX2_beginWinter_116 rfl rfl rfl ?_
        refine mb_aald11 (pn := 118) dX2_beginWinter_117 rfl hr (fun hr => ?_)
        refine mb_iconst (v := 1) (pn := 119) dX2_beginWinter_118 (by decide) rfl ?_
        refine mb_iload_n (pn := 120) 0 dX2_beginWinter_119 rfl rfl rfl ?_
        refine cl_X2_202 (pn := 123) hst hg (Nat.le_of_ble_eq_true rfl) (Nat.le_of_ble_eq_true rfl) dX2_beginWinter_120 rfl hr (fun h106 hr => ?_)
        refine mb_nmx hr (fun y107 qy107 hr => ?_)
        refine mb_iinc (v := y107) (pn := 126) (lv2 := [(2, .inl y107), (3, .inl y104), (0, mb_F 1 av0 0), (1, mb_F 4 0 0)]) 3 dX2_beginWinter_123 rfl (by rw [qy107]; rfl) (by decide) rfl rfl ?_
        refine mb_goto (tgt := 93) dX2_beginWinter_126 (by decide) ?_
        exact mb_lvs [2, 3, 0] rfl (ih _ _ _ hr)
def B_X2_shelterFor_4  : Nat → Nat → Nat → Nat → Int32 → Int32 → mb_AH → Option mb_RS
  | 0, _, _, _, _, _, _ => none
  | n + 1, av0, av1, bv1, v2, v3, h => (if (h.1 1 av0 0 1) ≤ v3 then (some (.inl (some (.inl v2)), h)) else (mb_gB v3 16 (if (h.1 2 av0 v3.toNatClampNeg 2) = 0 then (mb_cI (F_X2_boatIn av0 v3 h) fun y103 h102 => (if y103 = (-1) then (mb_gB v3 16 (mb_cI (F_X2_suits av0 av1 bv1 av0 v3.toNatClampNeg h102) fun y106 h105 => (if y106 = 0 then (mb_lI (v3 + 1) fun y107 => ((B_X2_shelterFor_4  n) av0 av1 bv1 v2 y107 h105)) else (mb_lI (v2 ||| ((1 : Int32) <<< (v3 &&& 31))) fun y108 => (mb_lI (v3 + 1) fun y109 => ((B_X2_shelterFor_4  n) av0 av1 bv1 y108 y109 h105)))))) else (mb_lI (v3 + 1) fun y104 => ((B_X2_shelterFor_4  n) av0 av1 bv1 v2 y104 h102)))) else (mb_lI (v3 + 1) fun y101 => ((B_X2_shelterFor_4  n) av0 av1 bv1 v2 y101 h)))))
set_option maxRecDepth 100000 in
set_option maxHeartbeats 4000000 in
theorem T_X2_shelterFor_4 {l : Launch} {G : mb_G} {res : mb_RS} (hst : l.stackTraces = false) (hg : mb_gok G)   : ∀ (n : Nat) (av0 : Nat) (av1 : Nat) (bv1 : Nat) (v2 : Int32) (v3 : Int32) (h : mb_AH), B_X2_shelterFor_4  n av0 av1 bv1 v2 v3 h = some res → mb_Ev l G RX2 cX2_shelterFor 4 (some .int) 2 4 [(0, mb_F 1 av0 0), (1, mb_F 3 av1 bv1), (2, .inl v2), (3, .inl v3)] [] h res := by
  intro n
  induction n with
  | zero => intro av0 av1 bv1 v2 v3 h hr; cases hr
  | succ n ih =>
    intro av0 av1 bv1 v2 v3 h hr
    rw [B_X2_shelterFor_4] at hr
    refine mb_iload_n (pn := 5) 3 dX2_shelterFor_4 rfl rfl rfl ?_
    refine mb_aload_n (pn := 6) 0 dX2_shelterFor_5 rfl rfl rfl ?_
    refine gf_X2_42 (pn := 9) dX2_shelterFor_6 rfl ?_
    refine mb_ic_ge (tgt := 59) (pn := 12) dX2_shelterFor_9 (by decide) rfl hr (fun hr => ?_) (fun hr => ?_)
    · refine mb_iload_n (pn := 60) 2 dX2_shelterFor_59 rfl rfl rfl ?_
      cases hr
      exact mb_iret dX2_shelterFor_60
    · refine mb_aload_n (pn := 13) 0 dX2_shelterFor_12 rfl rfl rfl ?_
      refine gf_X2_11 (pn := 16) dX2_shelterFor_13 rfl ?_
      refine mb_iload_n (pn := 17) 3 dX2_shelterFor_16 rfl rfl rfl ?_
      refine mb_aald10 (pn := 18) dX2_shelterFor_17 rfl hr (fun hr => ?_)
      refine gf_X2_118 (pn := 21) dX2_shelterFor_18 rfl ?_
      refine mb_if_ne (tgt := 53) (pn := 24) dX2_shelterFor_21 (by decide) rfl hr (fun hr => ?_) (fun hr => ?_)
      · refine mb_nmx hr (fun y101 qy101 hr => ?_)
        refine mb_iinc (v := y101) (pn := 56) (lv2 := [(3, .inl y101), (0, mb_F 1 av0 0), (1, mb_F 3 av1 bv1), (2, .inl v2)]) 3 dX2_shelterFor_53 rfl (by rw [qy101]; rfl) (by decide) rfl rfl ?_
        refine mb_goto (tgt := 4) dX2_shelterFor_56 (by decide) ?_
        exact mb_lvs [1, 2, 3, 0] rfl (ih _ _ _ _ _ _ hr)
      · refine mb_aload_n (pn := 25) 0 dX2_shelterFor_24 rfl rfl rfl ?_
        refine mb_iload_n (pn := 26) 3 dX2_shelterFor_25 rfl rfl rfl ?_
        refine cl_X2_114 (pn := 29) hst hg (Nat.le_of_ble_eq_true rfl) (Nat.le_of_ble_eq_true rfl) dX2_shelterFor_26 rfl hr (fun y103 h102 hr => ?_)
        refine mb_iconst (v := (-1)) (pn := 30) dX2_shelterFor_29 (by decide) rfl ?_
        refine mb_ic_ne (tgt := 53) (pn := 33) dX2_shelterFor_30 (by decide) rfl hr (fun hr => ?_) (fun hr => ?_)
        · refine mb_nmx hr (fun y104 qy104 hr => ?_)
          refine mb_iinc (v := y104) (pn := 56) (lv2 := [(3, .inl y104), (0, mb_F 1 av0 0), (1, mb_F 3 av1 bv1), (2, .inl v2)]) 3 dX2_shelterFor_53 rfl (by rw [qy104]; rfl) (by decide) rfl rfl ?_
          refine mb_goto (tgt := 4) dX2_shelterFor_56 (by decide) ?_
          exact mb_lvs [1, 2, 3, 0] rfl (ih _ _ _ _ _ _ hr)
        · refine mb_aload_n (pn := 34) 0 dX2_shelterFor_33 rfl rfl rfl ?_
          refine mb_aload_n (pn := 35) 1 dX2_shelterFor_34 rfl rfl rfl ?_
          refine mb_aload_n (pn := 36) 0 dX2_shelterFor_35 rfl rfl rfl ?_
          refine gf_X2_11 (pn := 39) dX2_shelterFor_36 rfl ?_
          refine mb_iload_n (pn := 40) 3 dX2_shelterFor_39 rfl rfl rfl ?_
          refine mb_aald10 (pn := 41) dX2_shelterFor_40 rfl hr (fun hr => ?_)
          refine cl_X2_107 (pn := 44) hst hg (Nat.le_of_ble_eq_true rfl) (Nat.le_of_ble_eq_true rfl) dX2_shelterFor_41 rfl hr (fun y106 h105 hr => ?_)
          refine mb_if_eq (tgt := 53) (pn := 47) dX2_shelterFor_44 (by decide) rfl hr (fun hr => ?_) (fun hr => ?_)
          · refine mb_nmx hr (fun y107 qy107 hr => ?_)
            refine mb_iinc (v := y107) (pn := 56) (lv2 := [(3, .inl y107), (0, mb_F 1 av0 0), (1, mb_F 3 av1 bv1), (2, .inl v2)]) 3 dX2_shelterFor_53 rfl (by rw [qy107]; rfl) (by decide) rfl rfl ?_
            refine mb_goto (tgt := 4) dX2_shelterFor_56 (by decide) ?_
            exact mb_lvs [1, 2, 3, 0] rfl (ih _ _ _ _ _ _ hr)
          · refine mb_iload_n (pn := 48) 2 dX2_shelterFor_47 rfl rfl rfl ?_
            refine mb_iconst (v := 1) (pn := 49) dX2_shelterFor_48 (by decide) rfl ?_
            refine mb_iload_n (pn := 50) 3 dX2_shelterFor_49 rfl rfl rfl ?_
            refine mb_ishl (pn := 51) dX2_shelterFor_50 rfl ?_
            refine mb_ior (pn := 52) dX2_shelterFor_51 rfl ?_
            refine mb_nmI hr (fun y108 hr => ?_)
            refine mb_istore_n (pn := 53) (lv2 := [(2, .inl y108), (0, mb_F 1 av0 0), (1, mb_F 3 av1 bv1), (3, .inl v3)]) dX2_shelterFor_52 rfl (by decide) rfl rfl ?_
            refine mb_nmx hr (fun y109 qy109 hr => ?_)
            refine mb_iinc (v := y109) (pn := 56) (lv2 := [(3, .inl y109), (2, .inl y108), (0, mb_F 1 av0 0), (1, mb_F 3 av1 bv1)]) 3 dX2_shelterFor_53 rfl (by rw [qy109]; rfl) (by decide) rfl rfl ?_
            refine mb_goto (tgt := 4) dX2_shelterFor_56 (by decide) ?_
            exact mb_lvs [2, 3, 1, 0] rfl (ih _ _ _ _ _ _ hr)
def F_X2_shelterFor (a0 : Nat) (a1 : Nat) (b1 : Nat) (h : mb_AH) : Option mb_RS := (B_X2_shelterFor_4  mb_fu a0 a1 b1 0 0 h)
set_option maxRecDepth 100000 in
set_option maxHeartbeats 4000000 in
theorem C_X2_shelterFor {l : Launch} {G : mb_G} (hst : l.stackTraces = false) (hg : mb_gok G) {a0 : Nat} {a1 : Nat} {b1 : Nat} {h : mb_AH} {res : mb_RS} (hr : F_X2_shelterFor a0 a1 b1 h = some res) : mb_Mt l G yX2_shelterFor cX2_shelterFor 4 (some .int) 2 [mb_F 1 a0 0, mb_F 3 a1 b1] h res := by
  refine mb_entry (own := RX2) (lv := [(0, mb_F 1 a0 0), (1, mb_F 3 a1 b1)]) (by decide +kernel) rfl (Nat.le_of_ble_eq_true rfl) rfl rfl (fun _ => ?_) hst hg
  unfold F_X2_shelterFor at hr
  refine mb_iconst (v := 0) (pn := 1) dX2_shelterFor_0 (by decide) rfl ?_
  refine mb_istore_n (pn := 2) (lv2 := [(2, .inl 0), (0, mb_F 1 a0 0), (1, mb_F 3 a1 b1)]) dX2_shelterFor_1 rfl (by decide) rfl rfl ?_
  refine mb_iconst (v := 0) (pn := 3) dX2_shelterFor_2 (by decide) rfl ?_
  refine mb_istore_n (pn := 4) (lv2 := [(3, .inl 0), (2, .inl 0), (0, mb_F 1 a0 0), (1, mb_F 3 a1 b1)]) dX2_shelterFor_3 rfl (by decide) rfl rfl ?_
  exact mb_lvs [2, 3, 1, 0] rfl (T_X2_shelterFor_4 hst hg  mb_fu _ _ _ _ _ _ hr)
set_option maxRecDepth 100000 in
set_option maxHeartbeats 4000000 in
theorem cl_X2_205 {l : Launch} {G : mb_G} {cc : ByteArray} {nL : Nat} {ret : Option FieldType} {d pc pn : Nat} {lv : List (Nat × mb_AV)} {st : List mb_AV} {h : mb_AH} {res : mb_RS} (hst : l.stackTraces = false) (hg : mb_gok G) {a0 : Nat} {a1 : Nat} {b1 : Nat} {K : Int32 → mb_AH → Option mb_RS} (hd2 : 2 + 1 ≤ d) (hs4 : st.length ≤ 4) (dg : decode cc pc = .ok (.invokevirtual 205, 3)) (hn : pc + 3 = pn) (hr : mb_cI (F_X2_shelterFor a0 a1 b1 h) K = some res) (kk : ∀ (x : Int32) (h2 : mb_AH), K x h2 = some res → mb_Ev l G RX2 cc nL ret d pn lv (.inl x :: st) h2 res) : mb_Ev l G RX2 cc nL ret d pc lv (mb_F 3 a1 b1 :: mb_F 1 a0 0 :: st) h res := mb_kVI (as := [mb_F 3 a1 b1]) (n := 1) (d2 := 2) (ci := 2) (fun _ hf => C_X2_shelterFor hst hg hf) (mb_gV wl_X2_205 mi_X2_shelterFor ms_X2_shelterFor mn_X2 mc_X2_shelterFor) (by decide +kernel) rfl rfl rfl hd2 (by decide) hs4 rfl dg hn hr kk
set_option maxRecDepth 100000 in
set_option maxHeartbeats 4000000 in
theorem cl_X2_208 {l : Launch} {G : mb_G} {cc : ByteArray} {nL : Nat} {ret : Option FieldType} {d pc pn : Nat} {lv : List (Nat × mb_AV)} {st : List mb_AV} {h : mb_AH} {res : mb_RS} (hst : l.stackTraces = false) (hg : mb_gok G) {x1 : Int32} {x2 : Int32} {K : mb_AH → Option mb_RS} (hd2 : 0 + 1 ≤ d) (hs4 : st.length ≤ 4) (dg : decode cc pc = .ok (.invokevirtual 208, 3)) (hn : pc + 3 = pn) (hr : mb_cV (F_X4_ask x1 x2 h) K = some res) (kk : ∀ (h2 : mb_AH), K h2 = some res → mb_Ev l G RX2 cc nL ret d pn lv st h2 res) : mb_Ev l G RX2 cc nL ret d pc lv (.inl x2 :: .inl x1 :: mb_F 4 0 0 :: st) h res := mb_kVV (as := [.inl x1, .inl x2]) (n := 2) (d2 := 0) (ci := 4) (fun _ hf => C_X4_ask hst hg hf) (mb_gV wl_X2_208 mi_X4_ask ms_X4_ask mn_X4 mc_X4_ask) (by decide +kernel) rfl rfl rfl hd2 (by decide) hs4 rfl dg hn hr kk
def B_X2_beginWinter_11  : Nat → Nat → Int32 → mb_AH → Option mb_RS
  | 0, _, _, _ => none
  | n + 1, av0, v2, h => (if (h.1 1 av0 0 3) ≤ v2 then (B_X2_beginWinter_93  mb_fu av0 0 h) else (mb_gB v2 20 (mb_cR 2 (F_X2_berthOf av0 av0 v2.toNatClampNeg h) (fun h108 => (mb_lI (v2 + 1) fun y111 => ((B_X2_beginWinter_11  n) av0 y111 h108))) (fun a109 b110 h108 => (if (h108.1 2 a109 b110 2) = 0 then (mb_lI (v2 + 1) fun y112 => ((B_X2_beginWinter_11  n) av0 y112 h108)) else (mb_gB v2 20 (mb_gB v2 20 (mb_up (mb_sI h108 3 av0 v2.toNatClampNeg 5 (h108.1 3 av0 v2.toNatClampNeg 4)) fun h113 => (mb_gB v2 20 (mb_cV (F_X1_move av0 v2.toNatClampNeg (3 : Int32) ((-1) : Int32) h113) fun h114 => (mb_gB v2 20 (mb_cI (F_X2_shelterFor av0 av0 v2.toNatClampNeg h114) fun y116 h115 => (mb_cV (F_X4_ask v2 y116 h115) fun h117 => (mb_lI (v2 + 1) fun y118 => ((B_X2_beginWinter_11  n) av0 y118 h117)))))))))))))))
set_option maxRecDepth 100000 in
set_option maxHeartbeats 4000000 in
theorem T_X2_beginWinter_11 {l : Launch} {G : mb_G} {res : mb_RS} (hst : l.stackTraces = false) (hg : mb_gok G)   : ∀ (n : Nat) (av0 : Nat) (v2 : Int32) (h : mb_AH), B_X2_beginWinter_11  n av0 v2 h = some res → mb_Ev l G RX2 cX2_beginWinter 4 none 23 11 [(0, mb_F 1 av0 0), (1, mb_F 4 0 0), (2, .inl v2)] [] h res := by
  intro n
  induction n with
  | zero => intro av0 v2 h hr; cases hr
  | succ n ih =>
    intro av0 v2 h hr
    rw [B_X2_beginWinter_11] at hr
    refine mb_iload_n (pn := 12) 2 dX2_beginWinter_11 rfl rfl rfl ?_
    refine mb_aload_n (pn := 13) 0 dX2_beginWinter_12 rfl rfl rfl ?_
    refine gf_X2_49 (pn := 16) dX2_beginWinter_13 rfl ?_
    refine mb_ic_ge (tgt := 91) (pn := 19) dX2_beginWinter_16 (by decide) rfl hr (fun hr => ?_) (fun hr => ?_)
    · refine mb_iconst (v := 0) (pn := 92) dX2_beginWinter_91 (by decide) rfl ?_
      refine mb_istore_n (pn := 93) (lv2 := [(2, .inl 0), (0, mb_F 1 av0 0), (1, mb_F 4 0 0)]) dX2_beginWinter_92 rfl (by decide) rfl rfl ?_
      exact mb_lvs [1, 2, 0] rfl (T_X2_beginWinter_93 hst hg  mb_fu _ _ _ hr)
    · refine mb_aload_n (pn := 20) 0 dX2_beginWinter_19 rfl rfl rfl ?_
      refine mb_aload_n (pn := 21) 0 dX2_beginWinter_20 rfl rfl rfl ?_
      refine gf_X2_19 (pn := 24) dX2_beginWinter_21 rfl ?_
      refine mb_iload_n (pn := 25) 2 dX2_beginWinter_24 rfl rfl rfl ?_
      refine mb_aald11 (pn := 26) dX2_beginWinter_25 rfl hr (fun hr => ?_)
      refine cl_X2_103 (pn := 29) hst hg (Nat.le_of_ble_eq_true rfl) (Nat.le_of_ble_eq_true rfl) dX2_beginWinter_26 rfl hr (fun h108 hr => ?_) (fun a109 b110 h108 hr => ?_)
      · refine mb_astore_nN (pn := 30) (lv2 := [(3, mb_N), (0, mb_F 1 av0 0), (1, mb_F 4 0 0), (2, .inl v2)]) dX2_beginWinter_29 rfl (by decide) rfl rfl ?_
        refine mb_aload_nN (pn := 31) 0 dX2_beginWinter_30 rfl rfl rfl ?_
        refine mb_ifnullN (tgt := 85) dX2_beginWinter_31 (by decide) ?_
        refine mb_nmx hr (fun y111 qy111 hr => ?_)
        refine mb_iinc (v := y111) (pn := 88) (lv2 := [(2, .inl y111), (3, mb_N), (0, mb_F 1 av0 0), (1, mb_F 4 0 0)]) 3 dX2_beginWinter_85 rfl (by rw [qy111]; rfl) (by decide) rfl rfl ?_
        refine mb_goto (tgt := 11) dX2_beginWinter_88 (by decide) ?_
        exact mb_lvs [2, 3, 0] rfl (ih _ _ _ hr)
      · refine mb_astore_n (pn := 30) (lv2 := [(3, mb_F 2 a109 b110), (0, mb_F 1 av0 0), (1, mb_F 4 0 0), (2, .inl v2)]) dX2_beginWinter_29 rfl (by decide) rfl rfl ?_
        refine mb_aload_n (pn := 31) 0 dX2_beginWinter_30 rfl rfl rfl ?_
        refine mb_ifnull (pn := 34) _ _ _ dX2_beginWinter_31 rfl ?_
        refine mb_aload_n (pn := 35) 0 dX2_beginWinter_34 rfl rfl rfl ?_
        refine gf_X2_118 (pn := 38) dX2_beginWinter_35 rfl ?_
        refine mb_if_eq (tgt := 85) (pn := 41) dX2_beginWinter_38 (by decide) rfl hr (fun hr => ?_) (fun hr => ?_)
        · refine mb_nmx hr (fun y112 qy112 hr => ?_)
          refine mb_iinc (v := y112) (pn := 88) (lv2 := [(2, .inl y112), (3, mb_F 2 a109 b110), (0, mb_F 1 av0 0), (1, mb_F 4 0 0)]) 3 dX2_beginWinter_85 rfl (by rw [qy112]; rfl) (by decide) rfl rfl ?_
          refine mb_goto (tgt := 11) dX2_beginWinter_88 (by decide) ?_
          exact mb_lvs [2, 3, 0] rfl (ih _ _ _ hr)
        · refine mb_aload_n (pn := 42) 1 dX2_beginWinter_41 rfl rfl rfl ?_
          refine gf_X2_19 (pn := 45) dX2_beginWinter_42 rfl ?_
          refine mb_iload_n (pn := 46) 3 dX2_beginWinter_45 rfl rfl rfl ?_
          refine mb_aald11 (pn := 47) dX2_beginWinter_46 rfl hr (fun hr => ?_)
          refine mb_aload_n (pn := 48) 1 dX2_beginWinter_47 rfl rfl rfl ?_
          refine gf_X2_19 (pn := 51) dX2_beginWinter_48 rfl ?_
          refine mb_iload_n (pn := 52) 3 dX2_beginWinter_51 rfl rfl rfl ?_
          refine mb_aald11 (pn := 53) dX2_beginWinter_52 rfl hr (fun hr => ?_)
          refine gf_X2_111 (pn := 56) dX2_beginWinter_53 rfl ?_
          refine pf_X2_199 (pn := 59) dX2_beginWinter_56 rfl hr (fun h113 hr => ?_)
          refine mb_aload_n (pn := 60) 1 dX2_beginWinter_59 rfl rfl rfl ?_
          refine gf_X2_19 (pn := 63) dX2_beginWinter_60 rfl ?_
          refine mb_iload_n (pn := 64) 3 dX2_beginWinter_63 rfl rfl rfl ?_
          refine mb_aald11 (pn := 65) dX2_beginWinter_64 rfl hr (fun hr => ?_)
          refine mb_iconst (v := 3) (pn := 66) dX2_beginWinter_65 (by decide) rfl ?_
          refine mb_iconst (v := (-1)) (pn := 67) dX2_beginWinter_66 (by decide) rfl ?_
          refine cl_X2_202 (pn := 70) hst hg (Nat.le_of_ble_eq_true rfl) (Nat.le_of_ble_eq_true rfl) dX2_beginWinter_67 rfl hr (fun h114 hr => ?_)
          refine mb_aload_n (pn := 71) 2 dX2_beginWinter_70 rfl rfl rfl ?_
          refine mb_iload_n (pn := 72) 3 dX2_beginWinter_71 rfl rfl rfl ?_
          refine mb_aload_n (pn := 73) 1 dX2_beginWinter_72 rfl rfl rfl ?_
          refine mb_aload_n (pn := 74) 1 dX2_beginWinter_73 rfl rfl rfl ?_
          refine gf_X2_19 (pn := 77) dX2_beginWinter_74 rfl ?_
          refine mb_iload_n (pn := 78) 3 dX2_beginWinter_77 rfl rfl rfl ?_
          refine mb_aald11 (pn := 79) dX2_beginWinter_78 rfl hr (fun hr => ?_)
          refine cl_X2_205 (pn := 82) hst hg (Nat.le_of_ble_eq_true rfl) (Nat.le_of_ble_eq_true rfl) dX2_beginWinter_79 rfl hr (fun y116 h115 hr => ?_)
          refine cl_X2_208 (pn := 85) hst hg (Nat.le_of_ble_eq_true rfl) (Nat.le_of_ble_eq_true rfl) dX2_beginWinter_82 rfl hr (fun h117 hr => ?_)
          refine mb_nmx hr (fun y118 qy118 hr => ?_)
          refine mb_iinc (v := y118) (pn := 88) (lv2 := [(2, .inl y118), (3, mb_F 2 a109 b110), (0, mb_F 1 av0 0), (1, mb_F 4 0 0)]) 3 dX2_beginWinter_85 rfl (by rw [qy118]; rfl) (by decide) rfl rfl ?_
          refine mb_goto (tgt := 11) dX2_beginWinter_88 (by decide) ?_
          exact mb_lvs [2, 3, 0] rfl (ih _ _ _ hr)
def F_X2_beginWinter (a0 : Nat) (h : mb_AH) : Option mb_RS := (mb_gZ 1 (mb_up (mb_sI h 1 a0 0 12 1) fun h101 => (mb_cV (F_X4_clear h101) fun h102 => (B_X2_beginWinter_11  mb_fu a0 0 h102))))
set_option maxRecDepth 100000 in
set_option maxHeartbeats 4000000 in
theorem C_X2_beginWinter {l : Launch} {G : mb_G} (hst : l.stackTraces = false) (hg : mb_gok G) {a0 : Nat} {h : mb_AH} {res : mb_RS} (hr : F_X2_beginWinter a0 h = some res) : mb_Mt l G yX2_beginWinter cX2_beginWinter 4 none 23 [mb_F 1 a0 0, mb_F 4 0 0] h res := by
  refine mb_entry (own := RX2) (lv := [(0, mb_F 1 a0 0), (1, mb_F 4 0 0)]) (by decide +kernel) rfl (Nat.le_of_ble_eq_true rfl) rfl rfl (fun _ => ?_) hst hg
  unfold F_X2_beginWinter at hr
  refine mb_aload_n (pn := 1) 0 dX2_beginWinter_0 rfl rfl rfl ?_
  refine mb_iconst (v := 1) (pn := 2) dX2_beginWinter_1 (by decide) rfl ?_
  refine pf_X2_64 (pn := 5) dX2_beginWinter_2 rfl hr (fun h101 hr => ?_)
  refine mb_aload_n (pn := 6) 1 dX2_beginWinter_5 rfl rfl rfl ?_
  refine cl_X2_194 (pn := 9) hst hg (Nat.le_of_ble_eq_true rfl) (Nat.le_of_ble_eq_true rfl) dX2_beginWinter_6 rfl hr (fun h102 hr => ?_)
  refine mb_iconst (v := 0) (pn := 10) dX2_beginWinter_9 (by decide) rfl ?_
  refine mb_istore_n (pn := 11) (lv2 := [(2, .inl 0), (0, mb_F 1 a0 0), (1, mb_F 4 0 0)]) dX2_beginWinter_10 rfl (by decide) rfl rfl ?_
  exact mb_lvs [1, 2, 0] rfl (T_X2_beginWinter_11 hst hg  mb_fu _ _ _ hr)
set_option maxRecDepth 100000 in
set_option maxHeartbeats 4000000 in
theorem cl_X2_174 {l : Launch} {G : mb_G} {cc : ByteArray} {nL : Nat} {ret : Option FieldType} {d pc pn : Nat} {lv : List (Nat × mb_AV)} {st : List mb_AV} {h : mb_AH} {res : mb_RS} (hst : l.stackTraces = false) (hg : mb_gok G) {a0 : Nat} {K : mb_AH → Option mb_RS} (hd2 : 23 + 1 ≤ d) (hs4 : st.length ≤ 4) (dg : decode cc pc = .ok (.invokevirtual 174, 3)) (hn : pc + 3 = pn) (hr : mb_cV (F_X2_beginWinter a0 h) K = some res) (kk : ∀ (h2 : mb_AH), K h2 = some res → mb_Ev l G RX2 cc nL ret d pn lv st h2 res) : mb_Ev l G RX2 cc nL ret d pc lv (mb_F 4 0 0 :: mb_F 1 a0 0 :: st) h res := mb_kVV (as := [mb_F 4 0 0]) (n := 1) (d2 := 23) (ci := 2) (fun _ hf => C_X2_beginWinter hst hg hf) (mb_gV wl_X2_174 mi_X2_beginWinter ms_X2_beginWinter mn_X2 mc_X2_beginWinter) (by decide +kernel) rfl rfl rfl hd2 (by decide) hs4 rfl dg hn hr kk
def B_X2_letPass_5  : Nat → Nat → Int32 → Int32 → Int32 → mb_AH → Option mb_RS
  | 0, _, _, _, _, _ => none
  | n + 1, av0, v1, v3, v4, h => (if v1 ≤ v4 then (some (.inl (some (.inl v3)), h)) else (mb_cI (F_X2_chargeAll av0 h) fun y102 h101 => (if y102 = 0 then (some (.inl (some (.inl (-1))), h101)) else (mb_up (mb_sI h101 1 av0 0 11 ((h101.1 1 av0 0 11) + 1)) fun h103 => (mb_g0 360 (mb_lI ((h103.1 1 av0 0 11) - (h103.1 1 av0 0 11) / 360 * 360) fun y104 => (if (h103.1 1 av0 0 12) = 0 then (if y104 = (h103.1 1 av0 0 9) then (mb_cV (F_X2_beginWinter av0 h103) fun h110 => (mb_lI (v3 + 1) fun y111 => (mb_lI (v4 + 1) fun y112 => ((B_X2_letPass_5  n) av0 v1 y111 y112 h110)))) else (B_X2_letPass_67 (B_X2_letPass_5  n) av0 v1 v3 v4 y104 h103)) else (B_X2_letPass_67 (B_X2_letPass_5  n) av0 v1 v3 v4 y104 h103))))))))
set_option maxRecDepth 100000 in
set_option maxHeartbeats 4000000 in
theorem T_X2_letPass_5 {l : Launch} {G : mb_G} {res : mb_RS} (hst : l.stackTraces = false) (hg : mb_gok G)   : ∀ (n : Nat) (av0 : Nat) (v1 : Int32) (v3 : Int32) (v4 : Int32) (h : mb_AH), B_X2_letPass_5  n av0 v1 v3 v4 h = some res → mb_Ev l G RX2 cX2_letPass 6 (some .int) 24 5 [(0, mb_F 1 av0 0), (1, .inl v1), (2, mb_F 4 0 0), (3, .inl v3), (4, .inl v4)] [] h res := by
  intro n
  induction n with
  | zero => intro av0 v1 v3 v4 h hr; cases hr
  | succ n ih =>
    intro av0 v1 v3 v4 h hr
    rw [B_X2_letPass_5] at hr
    refine mb_iload (pn := 7) 4 dX2_letPass_5 rfl rfl ?_
    refine mb_iload_n (pn := 8) 1 dX2_letPass_7 rfl rfl rfl ?_
    refine mb_ic_ge (tgt := 96) (pn := 11) dX2_letPass_8 (by decide) rfl hr (fun hr => ?_) (fun hr => ?_)
    · refine mb_iload_n (pn := 97) 3 dX2_letPass_96 rfl rfl rfl ?_
      cases hr
      exact mb_iret dX2_letPass_97
    · refine mb_aload_n (pn := 12) 0 dX2_letPass_11 rfl rfl rfl ?_
      refine cl_X2_170 (pn := 15) hst hg (Nat.le_of_ble_eq_true rfl) (Nat.le_of_ble_eq_true rfl) dX2_letPass_12 rfl hr (fun y102 h101 hr => ?_)
      refine mb_if_ne (tgt := 20) (pn := 18) dX2_letPass_15 (by decide) rfl hr (fun hr => ?_) (fun hr => ?_)
      · refine mb_aload_n (pn := 21) 0 dX2_letPass_20 rfl rfl rfl ?_
        refine mb_dup (pn := 22) rfl dX2_letPass_21 rfl ?_
        refine gf_X2_61 (pn := 25) dX2_letPass_22 rfl ?_
        refine mb_iconst (v := 1) (pn := 26) dX2_letPass_25 (by decide) rfl ?_
        refine mb_iadd (pn := 27) dX2_letPass_26 rfl ?_
        refine pf_X2_61 (pn := 30) dX2_letPass_27 rfl hr (fun h103 hr => ?_)
        refine mb_aload_n (pn := 31) 0 dX2_letPass_30 rfl rfl rfl ?_
        refine gf_X2_61 (pn := 34) dX2_letPass_31 rfl ?_
        refine mb_sipush (v := 360) (pn := 37) dX2_letPass_34 (by decide) rfl ?_
        refine mb_irem (pn := 38) dX2_letPass_37 rfl hr (fun hr => ?_)
        refine mb_nmI hr (fun y104 hr => ?_)
        refine mb_istore (pn := 40) (lv2 := [(5, .inl y104), (0, mb_F 1 av0 0), (1, .inl v1), (2, mb_F 4 0 0), (3, .inl v3), (4, .inl v4)]) dX2_letPass_38 (by decide) rfl rfl ?_
        refine mb_aload_n (pn := 41) 1 dX2_letPass_40 rfl rfl rfl ?_
        refine gf_X2_64 (pn := 44) dX2_letPass_41 rfl ?_
        refine mb_if_ne (tgt := 67) (pn := 47) dX2_letPass_44 (by decide) rfl hr (fun hr => ?_) (fun hr => ?_)
        · exact mb_lvs [1, 2, 3, 4, 5, 0] rfl (T_X2_letPass_67 hst hg ih hr)
        · refine mb_iload (pn := 49) 0 dX2_letPass_47 rfl rfl ?_
          refine mb_aload_n (pn := 50) 1 dX2_letPass_49 rfl rfl rfl ?_
          refine gf_X2_34 (pn := 53) dX2_letPass_50 rfl ?_
          refine mb_ic_ne (tgt := 67) (pn := 56) dX2_letPass_53 (by decide) rfl hr (fun hr => ?_) (fun hr => ?_)
          · exact mb_lvs [1, 2, 3, 4, 5, 0] rfl (T_X2_letPass_67 hst hg ih hr)
          · refine mb_aload_n (pn := 57) 1 dX2_letPass_56 rfl rfl rfl ?_
            refine mb_aload_n (pn := 58) 3 dX2_letPass_57 rfl rfl rfl ?_
            refine cl_X2_174 (pn := 61) hst hg (Nat.le_of_ble_eq_true rfl) (Nat.le_of_ble_eq_true rfl) dX2_letPass_58 rfl hr (fun h110 hr => ?_)
            refine mb_nmx hr (fun y111 qy111 hr => ?_)
            refine mb_iinc (v := y111) (pn := 64) (lv2 := [(3, .inl y111), (5, .inl y104), (0, mb_F 1 av0 0), (1, .inl v1), (2, mb_F 4 0 0), (4, .inl v4)]) 4 dX2_letPass_61 rfl (by rw [qy111]; rfl) (by decide) rfl rfl ?_
            refine mb_goto (tgt := 90) dX2_letPass_64 (by decide) ?_
            refine mb_nmx hr (fun y112 qy112 hr => ?_)
            refine mb_iinc (v := y112) (pn := 93) (lv2 := [(4, .inl y112), (3, .inl y111), (5, .inl y104), (0, mb_F 1 av0 0), (1, .inl v1), (2, mb_F 4 0 0)]) 5 dX2_letPass_90 rfl (by rw [qy112]; rfl) (by decide) rfl rfl ?_
            refine mb_goto (tgt := 5) dX2_letPass_93 (by decide) ?_
            exact mb_lvs [3, 4, 5, 1, 0] rfl (ih _ _ _ _ _ hr)
      · refine mb_iconst (v := (-1)) (pn := 19) dX2_letPass_18 (by decide) rfl ?_
        cases hr
        exact mb_iret dX2_letPass_19
def F_X2_letPass (a0 : Nat) (x1 : Int32) (h : mb_AH) : Option mb_RS := (B_X2_letPass_5  mb_fu a0 x1 0 0 h)
set_option maxRecDepth 100000 in
set_option maxHeartbeats 4000000 in
theorem C_X2_letPass {l : Launch} {G : mb_G} (hst : l.stackTraces = false) (hg : mb_gok G) {a0 : Nat} {x1 : Int32} {h : mb_AH} {res : mb_RS} (hr : F_X2_letPass a0 x1 h = some res) : mb_Mt l G yX2_letPass cX2_letPass 6 (some .int) 24 [mb_F 1 a0 0, .inl x1, mb_F 4 0 0] h res := by
  refine mb_entry (own := RX2) (lv := [(0, mb_F 1 a0 0), (1, .inl x1), (2, mb_F 4 0 0)]) (by decide +kernel) rfl (Nat.le_of_ble_eq_true rfl) rfl rfl (fun _ => ?_) hst hg
  unfold F_X2_letPass at hr
  refine mb_iconst (v := 0) (pn := 1) dX2_letPass_0 (by decide) rfl ?_
  refine mb_istore_n (pn := 2) (lv2 := [(3, .inl 0), (0, mb_F 1 a0 0), (1, .inl x1), (2, mb_F 4 0 0)]) dX2_letPass_1 rfl (by decide) rfl rfl ?_
  refine mb_iconst (v := 0) (pn := 3) dX2_letPass_2 (by decide) rfl ?_
  refine mb_istore (pn := 5) (lv2 := [(4, .inl 0), (3, .inl 0), (0, mb_F 1 a0 0), (1, .inl x1), (2, mb_F 4 0 0)]) dX2_letPass_3 (by decide) rfl rfl ?_
  exact mb_lvs [2, 3, 4, 1, 0] rfl (T_X2_letPass_5 hst hg  mb_fu _ _ _ _ _ hr)
