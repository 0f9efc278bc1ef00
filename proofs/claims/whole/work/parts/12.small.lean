def B_X4_clear_8  : Nat → Int32 → mb_AH → Option mb_RS
  | 0, _, _ => none
  | n + 1, v1, h => (if 20 ≤ v1 then (some (.inl none, h)) else (mb_gB v1 20 (mb_up (mb_sI h 14 0 0 v1.toNatClampNeg 0) fun h102 => (mb_lI (v1 + 1) fun y103 => ((B_X4_clear_8  n) y103 h102)))))
set_option maxRecDepth 100000 in
set_option maxHeartbeats 4000000 in
theorem T_X4_clear_8 {l : Launch} {G : mb_G} {res : mb_RS} (hst : l.stackTraces = false) (hg : mb_gok G)   : ∀ (n : Nat) (v1 : Int32) (h : mb_AH), B_X4_clear_8  n v1 h = some res → mb_Ev l G RX4 cX4_clear 2 none 0 8 [(0, mb_F 4 0 0), (1, .inl v1)] [] h res := by
  intro n
  induction n with
  | zero => intro v1 h hr; cases hr
  | succ n ih =>
    intro v1 h hr
    rw [B_X4_clear_8] at hr
    refine mb_iload_n (pn := 9) 1 dX4_clear_8 rfl rfl rfl ?_
    refine mb_bipush (v := 20) (pn := 11) dX4_clear_9 (by decide) rfl ?_
    refine mb_ic_ge (tgt := 27) (pn := 14) dX4_clear_11 (by decide) rfl hr (fun hr => ?_) (fun hr => ?_)
    · cases hr
      exact mb_vret dX4_clear_27
    · refine mb_aload_n (pn := 15) 0 dX4_clear_14 rfl rfl rfl ?_
      refine gf_X4_9 (pn := 18) dX4_clear_15 rfl ?_
      refine mb_iload_n (pn := 19) 1 dX4_clear_18 rfl rfl rfl ?_
      refine mb_iconst (v := 0) (pn := 20) dX4_clear_19 (by decide) rfl ?_
      refine mb_iast (pn := 21) (n := 20) rfl rfl dX4_clear_20 rfl hr (fun hr => ?_)
      refine mb_nmh hr (fun h102 hr => ?_)
      refine mb_nmx hr (fun y103 qy103 hr => ?_)
      refine mb_iinc (v := y103) (pn := 24) (lv2 := [(1, .inl y103), (0, mb_F 4 0 0)]) 1 dX4_clear_21 rfl (by rw [qy103]; rfl) (by decide) rfl rfl ?_
      refine mb_goto (tgt := 8) dX4_clear_24 (by decide) ?_
      exact mb_lvs [1, 0] rfl (ih _ _ hr)
def F_X4_clear  (h : mb_AH) : Option mb_RS := (mb_up (mb_sI h 4 0 0 2 65535) fun h101 => (B_X4_clear_8  mb_fu 0 h101))
set_option maxRecDepth 100000 in
set_option maxHeartbeats 4000000 in
theorem C_X4_clear {l : Launch} {G : mb_G} (hst : l.stackTraces = false) (hg : mb_gok G)  {h : mb_AH} {res : mb_RS} (hr : F_X4_clear  h = some res) : mb_Mt l G yX4_clear cX4_clear 2 none 0 [mb_F 4 0 0] h res := by
  refine mb_entry (own := RX4) (lv := [(0, mb_F 4 0 0)]) (by decide +kernel) rfl (Nat.le_of_ble_eq_true rfl) rfl rfl (fun _ => ?_) hst hg
  unfold F_X4_clear at hr
  refine mb_aload_n (pn := 1) 0 dX4_clear_0 rfl rfl rfl ?_
  refine mb_ldc (v := 65535) (pn := 3) wk_X4_18 dX4_clear_1 rfl ?_
  refine pf_X4_19 (pn := 6) dX4_clear_3 rfl hr (fun h101 hr => ?_)
  refine mb_iconst (v := 0) (pn := 7) dX4_clear_6 (by decide) rfl ?_
  refine mb_istore_n (pn := 8) (lv2 := [(1, .inl 0), (0, mb_F 4 0 0)]) dX4_clear_7 rfl (by decide) rfl rfl ?_
  exact mb_lvs [1, 0] rfl (T_X4_clear_8 hst hg  mb_fu _ _ hr)
def F_X4_ask (x1 : Int32) (x2 : Int32) (h : mb_AH) : Option mb_RS := (mb_gB x1 20 (mb_up (mb_sI h 14 0 0 x1.toNatClampNeg x2) fun h101 => (some (.inl none, h101))))
set_option maxRecDepth 100000 in
set_option maxHeartbeats 4000000 in
theorem C_X4_ask {l : Launch} {G : mb_G} (hst : l.stackTraces = false) (hg : mb_gok G) {x1 : Int32} {x2 : Int32} {h : mb_AH} {res : mb_RS} (hr : F_X4_ask x1 x2 h = some res) : mb_Mt l G yX4_ask cX4_ask 3 none 0 [mb_F 4 0 0, .inl x1, .inl x2] h res := by
  refine mb_entry (own := RX4) (lv := [(0, mb_F 4 0 0), (1, .inl x1), (2, .inl x2)]) (by decide +kernel) rfl (Nat.le_of_ble_eq_true rfl) rfl rfl (fun _ => ?_) hst hg
  unfold F_X4_ask at hr
  refine mb_aload_n (pn := 1) 0 dX4_ask_0 rfl rfl rfl ?_
  refine gf_X4_9 (pn := 4) dX4_ask_1 rfl ?_
  refine mb_iload_n (pn := 5) 1 dX4_ask_4 rfl rfl rfl ?_
  refine mb_iload_n (pn := 6) 2 dX4_ask_5 rfl rfl rfl ?_
  refine mb_iast (pn := 7) (n := 20) rfl rfl dX4_ask_6 rfl hr (fun hr => ?_)
  refine mb_nmh hr (fun h101 hr => ?_)
  cases hr
  exact mb_vret dX4_ask_7
def B_X4_findsBerth_95 (REC : Int32 → Int32 → mb_AH → Option mb_RS)  (v1 : Int32) (v3 : Int32) (h : mb_AH) : Option mb_RS := (mb_gB v3 16 (mb_up (mb_sI h 15 0 0 v3.toNatClampNeg v1) fun h103 => (some (.inl (some (.inl 1)), h103))))
set_option maxRecDepth 100000 in
set_option maxHeartbeats 4000000 in
theorem T_X4_findsBerth_95 {l : Launch} {G : mb_G} {res : mb_RS} {nd : Nat} {REC : Int32 → Int32 → mb_AH → Option mb_RS} (hst : l.stackTraces = false) (hg : mb_gok G) (hREC : ∀ {x2z : Int32} {x3z : Int32} {hz : mb_AH} {rz : mb_RS}, REC x2z x3z hz = some rz → mb_Mt l G yX4_findsBerth cX4_findsBerth 5 (some .boolean) nd [mb_F 4 0 0, .inl x2z, .inl x3z] hz rz)   {v1 : Int32} {v3 : Int32} {h : mb_AH} (hr : B_X4_findsBerth_95 REC  v1 v3 h = some res) : mb_Ev l G RX4 cX4_findsBerth 5 (some .boolean) (nd + 1) 95 [(0, mb_F 4 0 0), (1, .inl v1), (3, .inl v3)] [] h res := by
  unfold B_X4_findsBerth_95 at hr
  refine mb_aload_n (pn := 96) 0 dX4_findsBerth_95 rfl rfl rfl ?_
  refine gf_X4_15 (pn := 99) dX4_findsBerth_96 rfl ?_
  refine mb_iload_n (pn := 100) 2 dX4_findsBerth_99 rfl rfl rfl ?_
  refine mb_iload_n (pn := 101) 1 dX4_findsBerth_100 rfl rfl rfl ?_
  refine mb_iast (pn := 102) (n := 16) rfl rfl dX4_findsBerth_101 rfl hr (fun hr => ?_)
  refine mb_nmh hr (fun h103 hr => ?_)
  refine mb_iconst (v := 1) (pn := 103) dX4_findsBerth_102 (by decide) rfl ?_
  cases hr
  exact mb_zret1 dX4_findsBerth_103
def B_X4_findsBerth_20 (REC : Int32 → Int32 → mb_AH → Option mb_RS)  : Nat → Int32 → Int32 → Int32 → mb_AH → Option mb_RS
  | 0, _, _, _, _ => none
  | n + 1, v1, v2, v3, h => (if 16 ≤ v3 then (some (.inl (some (.inl 0)), h)) else (mb_lI ((1 : Int32) <<< (v3 &&& 31)) fun y101 => (mb_gB v1 20 (if ((((h.1 14 0 0 v1.toNatClampNeg) &&& (h.1 4 0 0 2)) &&& ((h.1 4 0 0 3) ^^^ (-1))) &&& y101) = 0 then (mb_lI (v3 + 1) fun y107 => ((B_X4_findsBerth_20 REC  n) v1 v2 y107 h)) else (mb_up (mb_sI h 4 0 0 3 ((h.1 4 0 0 3) ||| y101)) fun h102 => (mb_gB v3 16 (if (h102.1 15 0 0 v3.toNatClampNeg) = (-1) then (B_X4_findsBerth_95 REC  v1 v3 h102) else (mb_gB v3 16 (mb_cI (REC (h102.1 15 0 0 v3.toNatClampNeg) (v2 + 1) h102) fun y104 h105 => (if y104 = 0 then (mb_lI (v3 + 1) fun y106 => ((B_X4_findsBerth_20 REC  n) v1 v2 y106 h105)) else (B_X4_findsBerth_95 REC  v1 v3 h105)))))))))))
set_option maxRecDepth 100000 in
set_option maxHeartbeats 4000000 in
theorem T_X4_findsBerth_20 {l : Launch} {G : mb_G} {res : mb_RS} {nd : Nat} {REC : Int32 → Int32 → mb_AH → Option mb_RS} (hst : l.stackTraces = false) (hg : mb_gok G) (hREC : ∀ {x2z : Int32} {x3z : Int32} {hz : mb_AH} {rz : mb_RS}, REC x2z x3z hz = some rz → mb_Mt l G yX4_findsBerth cX4_findsBerth 5 (some .boolean) nd [mb_F 4 0 0, .inl x2z, .inl x3z] hz rz)   : ∀ (n : Nat) (v1 : Int32) (v2 : Int32) (v3 : Int32) (h : mb_AH), B_X4_findsBerth_20 REC  n v1 v2 v3 h = some res → mb_Ev l G RX4 cX4_findsBerth 5 (some .boolean) (nd + 1) 20 [(0, mb_F 4 0 0), (1, .inl v1), (2, .inl v2), (3, .inl v3)] [] h res := by
  intro n
  induction n with
  | zero => intro v1 v2 v3 h hr; cases hr
  | succ n ih =>
    intro v1 v2 v3 h hr
    rw [B_X4_findsBerth_20] at hr
    refine mb_iload_n (pn := 21) 3 dX4_findsBerth_20 rfl rfl rfl ?_
    refine mb_bipush (v := 16) (pn := 23) dX4_findsBerth_21 (by decide) rfl ?_
    refine mb_ic_ge (tgt := 110) (pn := 26) dX4_findsBerth_23 (by decide) rfl hr (fun hr => ?_) (fun hr => ?_)
    · refine mb_iconst (v := 0) (pn := 111) dX4_findsBerth_110 (by decide) rfl ?_
      cases hr
      exact mb_zret0 dX4_findsBerth_111
    · refine mb_iconst (v := 1) (pn := 27) dX4_findsBerth_26 (by decide) rfl ?_
      refine mb_iload_n (pn := 28) 3 dX4_findsBerth_27 rfl rfl rfl ?_
      refine mb_ishl (pn := 29) dX4_findsBerth_28 rfl ?_
      refine mb_nmI hr (fun y101 hr => ?_)
      refine mb_istore (pn := 31) (lv2 := [(4, .inl y101), (0, mb_F 4 0 0), (1, .inl v1), (2, .inl v2), (3, .inl v3)]) dX4_findsBerth_29 (by decide) rfl rfl ?_
      refine mb_aload_n (pn := 32) 1 dX4_findsBerth_31 rfl rfl rfl ?_
      refine gf_X4_9 (pn := 35) dX4_findsBerth_32 rfl ?_
      refine mb_iload_n (pn := 36) 2 dX4_findsBerth_35 rfl rfl rfl ?_
      refine mb_iald (pn := 37) (n := 20) rfl dX4_findsBerth_36 rfl hr (fun hr => ?_)
      refine mb_aload_n (pn := 38) 1 dX4_findsBerth_37 rfl rfl rfl ?_
      refine gf_X4_19 (pn := 41) dX4_findsBerth_38 rfl ?_
      refine mb_iand (pn := 42) dX4_findsBerth_41 rfl ?_
      refine mb_aload_n (pn := 43) 1 dX4_findsBerth_42 rfl rfl rfl ?_
      refine gf_X4_27 (pn := 46) dX4_findsBerth_43 rfl ?_
      refine mb_iconst (v := (-1)) (pn := 47) dX4_findsBerth_46 (by decide) rfl ?_
      refine mb_ixor (pn := 48) dX4_findsBerth_47 rfl ?_
      refine mb_iand (pn := 49) dX4_findsBerth_48 rfl ?_
      refine mb_iload (pn := 51) 0 dX4_findsBerth_49 rfl rfl ?_
      refine mb_iand (pn := 52) dX4_findsBerth_51 rfl ?_
      refine mb_if_ne (tgt := 58) (pn := 55) dX4_findsBerth_52 (by decide) rfl hr (fun hr => ?_) (fun hr => ?_)
      · refine mb_aload_n (pn := 59) 1 dX4_findsBerth_58 rfl rfl rfl ?_
        refine mb_dup (pn := 60) rfl dX4_findsBerth_59 rfl ?_
        refine gf_X4_27 (pn := 63) dX4_findsBerth_60 rfl ?_
        refine mb_iload (pn := 65) 0 dX4_findsBerth_63 rfl rfl ?_
        refine mb_ior (pn := 66) dX4_findsBerth_65 rfl ?_
        refine pf_X4_27 (pn := 69) dX4_findsBerth_66 rfl hr (fun h102 hr => ?_)
        refine mb_aload_n (pn := 70) 1 dX4_findsBerth_69 rfl rfl rfl ?_
        refine gf_X4_15 (pn := 73) dX4_findsBerth_70 rfl ?_
        refine mb_iload_n (pn := 74) 4 dX4_findsBerth_73 rfl rfl rfl ?_
        refine mb_iald (pn := 75) (n := 16) rfl dX4_findsBerth_74 rfl hr (fun hr => ?_)
        refine mb_iconst (v := (-1)) (pn := 76) dX4_findsBerth_75 (by decide) rfl ?_
        refine mb_ic_eq (tgt := 95) (pn := 79) dX4_findsBerth_76 (by decide) rfl hr (fun hr => ?_) (fun hr => ?_)
        · exact mb_lvs [1, 2, 4] rfl (T_X4_findsBerth_95 hst hg hREC  hr)
        · refine mb_aload_n (pn := 80) 1 dX4_findsBerth_79 rfl rfl rfl ?_
          refine mb_aload_n (pn := 81) 1 dX4_findsBerth_80 rfl rfl rfl ?_
          refine gf_X4_15 (pn := 84) dX4_findsBerth_81 rfl ?_
          refine mb_iload_n (pn := 85) 4 dX4_findsBerth_84 rfl rfl rfl ?_
          refine mb_iald (pn := 86) (n := 16) rfl dX4_findsBerth_85 rfl hr (fun hr => ?_)
          refine mb_iload_n (pn := 87) 3 dX4_findsBerth_86 rfl rfl rfl ?_
          refine mb_iconst (v := 1) (pn := 88) dX4_findsBerth_87 (by decide) rfl ?_
          refine mb_iadd (pn := 89) dX4_findsBerth_88 rfl ?_
          refine mb_kSI (as := [mb_F 4 0 0, .inl (h102.1 15 0 0 v3.toNatClampNeg), .inl (v2 + 1)]) (n := 3) (d2 := nd) (fun _ hf => hREC hf) (mb_gS wl_X4_30 mt_X4_findsBerth mn_X4 mc_X4_findsBerth) (by decide +kernel) rfl (Nat.le_refl _) (by decide) (Nat.le_of_ble_eq_true rfl) rfl dX4_findsBerth_89 rfl hr (fun y104 h105 hr => ?_)
          refine mb_if_eq (tgt := 104) (pn := 95) dX4_findsBerth_92 (by decide) rfl hr (fun hr => ?_) (fun hr => ?_)
          · refine mb_nmx hr (fun y106 qy106 hr => ?_)
            refine mb_iinc (v := y106) (pn := 107) (lv2 := [(3, .inl y106), (4, .inl y101), (0, mb_F 4 0 0), (1, .inl v1), (2, .inl v2)]) 4 dX4_findsBerth_104 rfl (by rw [qy106]; rfl) (by decide) rfl rfl ?_
            refine mb_goto (tgt := 20) dX4_findsBerth_107 (by decide) ?_
            exact mb_lvs [2, 3, 4, 0] rfl (ih _ _ _ _ hr)
          · exact mb_lvs [1, 2, 4] rfl (T_X4_findsBerth_95 hst hg hREC  hr)
      · refine mb_goto (tgt := 104) dX4_findsBerth_55 (by decide) ?_
        refine mb_nmx hr (fun y107 qy107 hr => ?_)
        refine mb_iinc (v := y107) (pn := 107) (lv2 := [(3, .inl y107), (4, .inl y101), (0, mb_F 4 0 0), (1, .inl v1), (2, .inl v2)]) 4 dX4_findsBerth_104 rfl (by rw [qy107]; rfl) (by decide) rfl rfl ?_
        refine mb_goto (tgt := 20) dX4_findsBerth_107 (by decide) ?_
        exact mb_lvs [2, 3, 4, 0] rfl (ih _ _ _ _ hr)
def E_X4_findsBerth (REC : Int32 → Int32 → mb_AH → Option mb_RS) (x2 : Int32) (x3 : Int32) (h : mb_AH) : Option mb_RS := (if x2 < 0 then (some (.inl (some (.inl 0)), h)) else (if 20 ≤ x2 then (some (.inl (some (.inl 0)), h)) else (if x3 ≤ 16 then (B_X4_findsBerth_20 REC  mb_fu x2 x3 0 h) else (some (.inl (some (.inl 0)), h)))))
def R_X4_findsBerth : Nat → Int32 → Int32 → mb_AH → Option mb_RS
  | 0 => fun _ _ _ => none
  | n + 1 => E_X4_findsBerth (R_X4_findsBerth n)
set_option maxRecDepth 100000 in
set_option maxHeartbeats 4000000 in
theorem CR_X4_findsBerth {l : Launch} {G : mb_G} (hst : l.stackTraces = false) (hg : mb_gok G) : ∀ (nd : Nat) {x2 : Int32} {x3 : Int32} {h : mb_AH} {res : mb_RS}, R_X4_findsBerth nd x2 x3 h = some res → mb_Mt l G yX4_findsBerth cX4_findsBerth 5 (some .boolean) nd [mb_F 4 0 0, .inl x2, .inl x3] h res := by
  intro nd
  induction nd with
  | zero => intro x2 x3 h res hr; cases hr
  | succ nd ih =>
    intro x2 x3 h res hr
    have hr : E_X4_findsBerth (R_X4_findsBerth nd) x2 x3 h = some res := hr
    unfold E_X4_findsBerth at hr
    have hREC : ∀ {x2z : Int32} {x3z : Int32} {hz : mb_AH} {rz : mb_RS}, R_X4_findsBerth nd x2z x3z hz = some rz → mb_Mt l G yX4_findsBerth cX4_findsBerth 5 (some .boolean) nd [mb_F 4 0 0, .inl x2z, .inl x3z] hz rz := fun hr9 => ih hr9
    generalize R_X4_findsBerth nd = REC at hr hREC
    refine mb_entry (own := RX4) (lv := [(0, mb_F 4 0 0), (1, .inl x2), (2, .inl x3)]) (by decide +kernel) rfl (Nat.le_of_ble_eq_true rfl) rfl rfl (fun _ => ?_) hst hg
    refine mb_iload_n (pn := 1) 1 dX4_findsBerth_0 rfl rfl rfl ?_
    refine mb_if_lt (tgt := 16) (pn := 4) dX4_findsBerth_1 (by decide) rfl hr (fun hr => ?_) (fun hr => ?_)
    · refine mb_iconst (v := 0) (pn := 17) dX4_findsBerth_16 (by decide) rfl ?_
      cases hr
      exact mb_zret0 dX4_findsBerth_17
    · refine mb_iload_n (pn := 5) 1 dX4_findsBerth_4 rfl rfl rfl ?_
      refine mb_bipush (v := 20) (pn := 7) dX4_findsBerth_5 (by decide) rfl ?_
      refine mb_ic_ge (tgt := 16) (pn := 10) dX4_findsBerth_7 (by decide) rfl hr (fun hr => ?_) (fun hr => ?_)
      · refine mb_iconst (v := 0) (pn := 17) dX4_findsBerth_16 (by decide) rfl ?_
        cases hr
        exact mb_zret0 dX4_findsBerth_17
      · refine mb_iload_n (pn := 11) 2 dX4_findsBerth_10 rfl rfl rfl ?_
        refine mb_bipush (v := 16) (pn := 13) dX4_findsBerth_11 (by decide) rfl ?_
        refine mb_ic_le (tgt := 18) (pn := 16) dX4_findsBerth_13 (by decide) rfl hr (fun hr => ?_) (fun hr => ?_)
        · refine mb_iconst (v := 0) (pn := 19) dX4_findsBerth_18 (by decide) rfl ?_
          refine mb_istore_n (pn := 20) (lv2 := [(3, .inl 0), (0, mb_F 4 0 0), (1, .inl x2), (2, .inl x3)]) dX4_findsBerth_19 rfl (by decide) rfl rfl ?_
          exact mb_lvs [1, 2, 3, 0] rfl (T_X4_findsBerth_20 hst hg hREC  mb_fu _ _ _ _ hr)
        · refine mb_iconst (v := 0) (pn := 17) dX4_findsBerth_16 (by decide) rfl ?_
          cases hr
          exact mb_zret0 dX4_findsBerth_17
def F_X4_findsBerth (x2 : Int32) (x3 : Int32) (h : mb_AH) : Option mb_RS := R_X4_findsBerth 20 x2 x3 h
set_option maxRecDepth 100000 in
set_option maxHeartbeats 4000000 in
theorem C_X4_findsBerth {l : Launch} {G : mb_G} (hst : l.stackTraces = false) (hg : mb_gok G) {x2 : Int32} {x3 : Int32} {h : mb_AH} {res : mb_RS} (hr : F_X4_findsBerth x2 x3 h = some res) : mb_Mt l G yX4_findsBerth cX4_findsBerth 5 (some .boolean) 20 [mb_F 4 0 0, .inl x2, .inl x3] h res := CR_X4_findsBerth hst hg 20 hr
set_option maxRecDepth 100000 in
set_option maxHeartbeats 4000000 in
theorem cl_X4_30 {l : Launch} {G : mb_G} {cc : ByteArray} {nL : Nat} {ret : Option FieldType} {d pc pn : Nat} {lv : List (Nat × mb_AV)} {st : List mb_AV} {h : mb_AH} {res : mb_RS} (hst : l.stackTraces = false) (hg : mb_gok G) {x2 : Int32} {x3 : Int32} {K : Int32 → mb_AH → Option mb_RS} (hd2 : 20 + 1 ≤ d) (hs4 : st.length ≤ 4) (dg : decode cc pc = .ok (.invokestatic 30, 3)) (hn : pc + 3 = pn) (hr : mb_cI (F_X4_findsBerth x2 x3 h) K = some res) (kk : ∀ (x : Int32) (h2 : mb_AH), K x h2 = some res → mb_Ev l G RX4 cc nL ret d pn lv (.inl x :: st) h2 res) : mb_Ev l G RX4 cc nL ret d pc lv (.inl x3 :: .inl x2 :: mb_F 4 0 0 :: st) h res := mb_kSI (as := [mb_F 4 0 0, .inl x2, .inl x3]) (n := 3) (d2 := 20) (fun _ hf => C_X4_findsBerth hst hg hf) (mb_gS wl_X4_30 mt_X4_findsBerth mn_X4 mc_X4_findsBerth) (by decide +kernel) rfl hd2 (by decide) hs4 rfl dg hn hr kk
def B_X4_mostFrom_25  : Nat → Int32 → Int32 → mb_AH → Option mb_RS
  | 0, _, _, _ => none
  | n + 1, v2, v3, h => (if 20 ≤ v3 then (some (.inl (some (.inl v2)), h)) else (mb_up (mb_sI h 4 0 0 3 0) fun h101 => (mb_cI (F_X4_findsBerth v3 (0 : Int32) h101) fun y103 h102 => (if y103 = 0 then (mb_lI (v3 + 1) fun y104 => ((B_X4_mostFrom_25  n) v2 y104 h102)) else (mb_lI (v2 + 1) fun y105 => (mb_lI (v3 + 1) fun y106 => ((B_X4_mostFrom_25  n) y105 y106 h102)))))))
set_option maxRecDepth 100000 in
set_option maxHeartbeats 4000000 in
theorem T_X4_mostFrom_25 {l : Launch} {G : mb_G} {res : mb_RS} (hst : l.stackTraces = false) (hg : mb_gok G)   : ∀ (n : Nat) (v2 : Int32) (v3 : Int32) (h : mb_AH), B_X4_mostFrom_25  n v2 v3 h = some res → mb_Ev l G RX4 cX4_mostFrom 4 (some .int) 21 25 [(0, mb_F 4 0 0), (2, .inl v2), (3, .inl v3)] [] h res := by
  intro n
  induction n with
  | zero => intro v2 v3 h hr; cases hr
  | succ n ih =>
    intro v2 v3 h hr
    rw [B_X4_mostFrom_25] at hr
    refine mb_iload_n (pn := 26) 2 dX4_mostFrom_25 rfl rfl rfl ?_
    refine mb_bipush (v := 20) (pn := 28) dX4_mostFrom_26 (by decide) rfl ?_
    refine mb_ic_ge (tgt := 54) (pn := 31) dX4_mostFrom_28 (by decide) rfl hr (fun hr => ?_) (fun hr => ?_)
    · refine mb_iload_n (pn := 55) 1 dX4_mostFrom_54 rfl rfl rfl ?_
      cases hr
      exact mb_iret dX4_mostFrom_55
    · refine mb_aload_n (pn := 32) 0 dX4_mostFrom_31 rfl rfl rfl ?_
      refine mb_iconst (v := 0) (pn := 33) dX4_mostFrom_32 (by decide) rfl ?_
      refine pf_X4_27 (pn := 36) dX4_mostFrom_33 rfl hr (fun h101 hr => ?_)
      refine mb_aload_n (pn := 37) 0 dX4_mostFrom_36 rfl rfl rfl ?_
      refine mb_iload_n (pn := 38) 2 dX4_mostFrom_37 rfl rfl rfl ?_
      refine mb_iconst (v := 0) (pn := 39) dX4_mostFrom_38 (by decide) rfl ?_
      refine cl_X4_30 (pn := 42) hst hg (Nat.le_of_ble_eq_true rfl) (Nat.le_of_ble_eq_true rfl) dX4_mostFrom_39 rfl hr (fun y103 h102 hr => ?_)
      refine mb_if_eq (tgt := 48) (pn := 45) dX4_mostFrom_42 (by decide) rfl hr (fun hr => ?_) (fun hr => ?_)
      · refine mb_nmx hr (fun y104 qy104 hr => ?_)
        refine mb_iinc (v := y104) (pn := 51) (lv2 := [(3, .inl y104), (0, mb_F 4 0 0), (2, .inl v2)]) 2 dX4_mostFrom_48 rfl (by rw [qy104]; rfl) (by decide) rfl rfl ?_
        refine mb_goto (tgt := 25) dX4_mostFrom_51 (by decide) ?_
        exact mb_lvs [1, 2, 0] rfl (ih _ _ _ hr)
      · refine mb_nmx hr (fun y105 qy105 hr => ?_)
        refine mb_iinc (v := y105) (pn := 48) (lv2 := [(2, .inl y105), (0, mb_F 4 0 0), (3, .inl v3)]) 1 dX4_mostFrom_45 rfl (by rw [qy105]; rfl) (by decide) rfl rfl ?_
        refine mb_nmx hr (fun y106 qy106 hr => ?_)
        refine mb_iinc (v := y106) (pn := 51) (lv2 := [(3, .inl y106), (2, .inl y105), (0, mb_F 4 0 0)]) 2 dX4_mostFrom_48 rfl (by rw [qy106]; rfl) (by decide) rfl rfl ?_
        refine mb_goto (tgt := 25) dX4_mostFrom_51 (by decide) ?_
        exact mb_lvs [2, 1, 0] rfl (ih _ _ _ hr)
def B_X4_mostFrom_2  : Nat → Int32 → Int32 → mb_AH → Option mb_RS
  | 0, _, _, _ => none
  | n + 1, v1, v2, h => (if 16 ≤ v2 then (B_X4_mostFrom_25  mb_fu 0 v1 h) else (mb_gB v2 16 (mb_up (mb_sI h 15 0 0 v2.toNatClampNeg (-1)) fun h107 => (mb_lI (v2 + 1) fun y108 => ((B_X4_mostFrom_2  n) v1 y108 h107)))))
set_option maxRecDepth 100000 in
set_option maxHeartbeats 4000000 in
theorem T_X4_mostFrom_2 {l : Launch} {G : mb_G} {res : mb_RS} (hst : l.stackTraces = false) (hg : mb_gok G)   : ∀ (n : Nat) (v1 : Int32) (v2 : Int32) (h : mb_AH), B_X4_mostFrom_2  n v1 v2 h = some res → mb_Ev l G RX4 cX4_mostFrom 4 (some .int) 21 2 [(0, mb_F 4 0 0), (1, .inl v1), (2, .inl v2)] [] h res := by
  intro n
  induction n with
  | zero => intro v1 v2 h hr; cases hr
  | succ n ih =>
    intro v1 v2 h hr
    rw [B_X4_mostFrom_2] at hr
    refine mb_iload_n (pn := 3) 2 dX4_mostFrom_2 rfl rfl rfl ?_
    refine mb_bipush (v := 16) (pn := 5) dX4_mostFrom_3 (by decide) rfl ?_
    refine mb_ic_ge (tgt := 21) (pn := 8) dX4_mostFrom_5 (by decide) rfl hr (fun hr => ?_) (fun hr => ?_)
    · refine mb_iconst (v := 0) (pn := 22) dX4_mostFrom_21 (by decide) rfl ?_
      refine mb_istore_n (pn := 23) (lv2 := [(2, .inl 0), (0, mb_F 4 0 0), (1, .inl v1)]) dX4_mostFrom_22 rfl (by decide) rfl rfl ?_
      refine mb_iload_n (pn := 24) 2 dX4_mostFrom_23 rfl rfl rfl ?_
      refine mb_istore_n (pn := 25) (lv2 := [(3, .inl v1), (2, .inl 0), (0, mb_F 4 0 0), (1, .inl v1)]) dX4_mostFrom_24 rfl (by decide) rfl rfl ?_
      exact mb_lvs [2, 1, 0] rfl (T_X4_mostFrom_25 hst hg  mb_fu _ _ _ hr)
    · refine mb_aload_n (pn := 9) 0 dX4_mostFrom_8 rfl rfl rfl ?_
      refine gf_X4_15 (pn := 12) dX4_mostFrom_9 rfl ?_
      refine mb_iload_n (pn := 13) 2 dX4_mostFrom_12 rfl rfl rfl ?_
      refine mb_iconst (v := (-1)) (pn := 14) dX4_mostFrom_13 (by decide) rfl ?_
      refine mb_iast (pn := 15) (n := 16) rfl rfl dX4_mostFrom_14 rfl hr (fun hr => ?_)
      refine mb_nmh hr (fun h107 hr => ?_)
      refine mb_nmx hr (fun y108 qy108 hr => ?_)
      refine mb_iinc (v := y108) (pn := 18) (lv2 := [(2, .inl y108), (0, mb_F 4 0 0), (1, .inl v1)]) 2 dX4_mostFrom_15 rfl (by rw [qy108]; rfl) (by decide) rfl rfl ?_
      refine mb_goto (tgt := 2) dX4_mostFrom_18 (by decide) ?_
      exact mb_lvs [1, 2, 0] rfl (ih _ _ _ hr)
def F_X4_mostFrom (x1 : Int32) (h : mb_AH) : Option mb_RS := (B_X4_mostFrom_2  mb_fu x1 0 h)
set_option maxRecDepth 100000 in
set_option maxHeartbeats 4000000 in
theorem C_X4_mostFrom {l : Launch} {G : mb_G} (hst : l.stackTraces = false) (hg : mb_gok G) {x1 : Int32} {h : mb_AH} {res : mb_RS} (hr : F_X4_mostFrom x1 h = some res) : mb_Mt l G yX4_mostFrom cX4_mostFrom 4 (some .int) 21 [mb_F 4 0 0, .inl x1] h res := by
  refine mb_entry (own := RX4) (lv := [(0, mb_F 4 0 0), (1, .inl x1)]) (by decide +kernel) rfl (Nat.le_of_ble_eq_true rfl) rfl rfl (fun _ => ?_) hst hg
  unfold F_X4_mostFrom at hr
  refine mb_iconst (v := 0) (pn := 1) dX4_mostFrom_0 (by decide) rfl ?_
  refine mb_istore_n (pn := 2) (lv2 := [(2, .inl 0), (0, mb_F 4 0 0), (1, .inl x1)]) dX4_mostFrom_1 rfl (by decide) rfl rfl ?_
  exact mb_lvs [1, 2, 0] rfl (T_X4_mostFrom_2 hst hg  mb_fu _ _ _ hr)
set_option maxRecDepth 100000 in
set_option maxHeartbeats 4000000 in
theorem cl_X4_23 {l : Launch} {G : mb_G} {cc : ByteArray} {nL : Nat} {ret : Option FieldType} {d pc pn : Nat} {lv : List (Nat × mb_AV)} {st : List mb_AV} {h : mb_AH} {res : mb_RS} (hst : l.stackTraces = false) (hg : mb_gok G) {x1 : Int32} {K : Int32 → mb_AH → Option mb_RS} (hd2 : 21 + 1 ≤ d) (hs4 : st.length ≤ 4) (dg : decode cc pc = .ok (.invokevirtual 23, 3)) (hn : pc + 3 = pn) (hr : mb_cI (F_X4_mostFrom x1 h) K = some res) (kk : ∀ (x : Int32) (h2 : mb_AH), K x h2 = some res → mb_Ev l G RX4 cc nL ret d pn lv (.inl x :: st) h2 res) : mb_Ev l G RX4 cc nL ret d pc lv (.inl x1 :: mb_F 4 0 0 :: st) h res := mb_kVI (as := [.inl x1]) (n := 1) (d2 := 21) (ci := 4) (fun _ hf => C_X4_mostFrom hst hg hf) (mb_gV wl_X4_23 mi_X4_mostFrom ms_X4_mostFrom mn_X4 mc_X4_mostFrom) (by decide +kernel) rfl rfl rfl hd2 (by decide) hs4 rfl dg hn hr kk
def B_X4_giveTo_8  : Nat → Int32 → Int32 → Int32 → mb_AH → Option mb_RS
  | 0, _, _, _, _ => none
  | n + 1, v1, v2, v3, h => (if 16 ≤ v3 then (some (.inl (some (.inl (-1))), h)) else (mb_lI ((1 : Int32) <<< (v3 &&& 31)) fun y103 => (mb_gB v1 20 (if (((h.1 14 0 0 v1.toNatClampNeg) &&& (h.1 4 0 0 2)) &&& y103) = 0 then (mb_lI (v3 + 1) fun y109 => ((B_X4_giveTo_8  n) v1 v2 y109 h)) else (mb_up (mb_sI h 4 0 0 2 ((h.1 4 0 0 2) &&& (y103 ^^^ (-1)))) fun h104 => (mb_cI (F_X4_mostFrom (v1 + 1) h104) fun y106 h105 => (if (y106 + 1) = v2 then (some (.inl (some (.inl v3)), h105)) else (mb_up (mb_sI h105 4 0 0 2 ((h105.1 4 0 0 2) ||| y103)) fun h107 => (mb_lI (v3 + 1) fun y108 => ((B_X4_giveTo_8  n) v1 v2 y108 h107))))))))))
set_option maxRecDepth 100000 in
set_option maxHeartbeats 4000000 in
theorem T_X4_giveTo_8 {l : Launch} {G : mb_G} {res : mb_RS} (hst : l.stackTraces = false) (hg : mb_gok G)   : ∀ (n : Nat) (v1 : Int32) (v2 : Int32) (v3 : Int32) (h : mb_AH), B_X4_giveTo_8  n v1 v2 v3 h = some res → mb_Ev l G RX4 cX4_giveTo 5 (some .int) 22 8 [(0, mb_F 4 0 0), (1, .inl v1), (2, .inl v2), (3, .inl v3)] [] h res := by
  intro n
  induction n with
  | zero => intro v1 v2 v3 h hr; cases hr
  | succ n ih =>
    intro v1 v2 v3 h hr
    rw [B_X4_giveTo_8] at hr
    refine mb_iload_n (pn := 9) 3 dX4_giveTo_8 rfl rfl rfl ?_
    refine mb_bipush (v := 16) (pn := 11) dX4_giveTo_9 (by decide) rfl ?_
    refine mb_ic_ge (tgt := 84) (pn := 14) dX4_giveTo_11 (by decide) rfl hr (fun hr => ?_) (fun hr => ?_)
    · refine mb_iconst (v := (-1)) (pn := 85) dX4_giveTo_84 (by decide) rfl ?_
      cases hr
      exact mb_iret dX4_giveTo_85
    · refine mb_iconst (v := 1) (pn := 15) dX4_giveTo_14 (by decide) rfl ?_
      refine mb_iload_n (pn := 16) 3 dX4_giveTo_15 rfl rfl rfl ?_
      refine mb_ishl (pn := 17) dX4_giveTo_16 rfl ?_
      refine mb_nmI hr (fun y103 hr => ?_)
      refine mb_istore (pn := 19) (lv2 := [(4, .inl y103), (0, mb_F 4 0 0), (1, .inl v1), (2, .inl v2), (3, .inl v3)]) dX4_giveTo_17 (by decide) rfl rfl ?_
      refine mb_aload_n (pn := 20) 1 dX4_giveTo_19 rfl rfl rfl ?_
      refine gf_X4_9 (pn := 23) dX4_giveTo_20 rfl ?_
      refine mb_iload_n (pn := 24) 2 dX4_giveTo_23 rfl rfl rfl ?_
      refine mb_iald (pn := 25) (n := 20) rfl dX4_giveTo_24 rfl hr (fun hr => ?_)
      refine mb_aload_n (pn := 26) 1 dX4_giveTo_25 rfl rfl rfl ?_
      refine gf_X4_19 (pn := 29) dX4_giveTo_26 rfl ?_
      refine mb_iand (pn := 30) dX4_giveTo_29 rfl ?_
      refine mb_iload (pn := 32) 0 dX4_giveTo_30 rfl rfl ?_
      refine mb_iand (pn := 33) dX4_giveTo_32 rfl ?_
      refine mb_if_ne (tgt := 39) (pn := 36) dX4_giveTo_33 (by decide) rfl hr (fun hr => ?_) (fun hr => ?_)
      · refine mb_aload_n (pn := 40) 1 dX4_giveTo_39 rfl rfl rfl ?_
        refine mb_dup (pn := 41) rfl dX4_giveTo_40 rfl ?_
        refine gf_X4_19 (pn := 44) dX4_giveTo_41 rfl ?_
        refine mb_iload (pn := 46) 0 dX4_giveTo_44 rfl rfl ?_
        refine mb_iconst (v := (-1)) (pn := 47) dX4_giveTo_46 (by decide) rfl ?_
        refine mb_ixor (pn := 48) dX4_giveTo_47 rfl ?_
        refine mb_iand (pn := 49) dX4_giveTo_48 rfl ?_
        refine pf_X4_19 (pn := 52) dX4_giveTo_49 rfl hr (fun h104 hr => ?_)
        refine mb_aload_n (pn := 53) 1 dX4_giveTo_52 rfl rfl rfl ?_
        refine mb_iload_n (pn := 54) 2 dX4_giveTo_53 rfl rfl rfl ?_
        refine mb_iconst (v := 1) (pn := 55) dX4_giveTo_54 (by decide) rfl ?_
        refine mb_iadd (pn := 56) dX4_giveTo_55 rfl ?_
        refine cl_X4_23 (pn := 59) hst hg (Nat.le_of_ble_eq_true rfl) (Nat.le_of_ble_eq_true rfl) dX4_giveTo_56 rfl hr (fun y106 h105 hr => ?_)
        refine mb_iconst (v := 1) (pn := 60) dX4_giveTo_59 (by decide) rfl ?_
        refine mb_iadd (pn := 61) dX4_giveTo_60 rfl ?_
        refine mb_iload_n (pn := 62) 3 dX4_giveTo_61 rfl rfl rfl ?_
        refine mb_ic_ne (tgt := 67) (pn := 65) dX4_giveTo_62 (by decide) rfl hr (fun hr => ?_) (fun hr => ?_)
        · refine mb_aload_n (pn := 68) 1 dX4_giveTo_67 rfl rfl rfl ?_
          refine mb_dup (pn := 69) rfl dX4_giveTo_68 rfl ?_
          refine gf_X4_19 (pn := 72) dX4_giveTo_69 rfl ?_
          refine mb_iload (pn := 74) 0 dX4_giveTo_72 rfl rfl ?_
          refine mb_ior (pn := 75) dX4_giveTo_74 rfl ?_
          refine pf_X4_19 (pn := 78) dX4_giveTo_75 rfl hr (fun h107 hr => ?_)
          refine mb_nmx hr (fun y108 qy108 hr => ?_)
          refine mb_iinc (v := y108) (pn := 81) (lv2 := [(3, .inl y108), (4, .inl y103), (0, mb_F 4 0 0), (1, .inl v1), (2, .inl v2)]) 4 dX4_giveTo_78 rfl (by rw [qy108]; rfl) (by decide) rfl rfl ?_
          refine mb_goto (tgt := 8) dX4_giveTo_81 (by decide) ?_
          exact mb_lvs [2, 3, 4, 0] rfl (ih _ _ _ _ hr)
        · refine mb_iload_n (pn := 66) 4 dX4_giveTo_65 rfl rfl rfl ?_
          cases hr
          exact mb_iret dX4_giveTo_66
      · refine mb_goto (tgt := 78) dX4_giveTo_36 (by decide) ?_
        refine mb_nmx hr (fun y109 qy109 hr => ?_)
        refine mb_iinc (v := y109) (pn := 81) (lv2 := [(3, .inl y109), (4, .inl y103), (0, mb_F 4 0 0), (1, .inl v1), (2, .inl v2)]) 4 dX4_giveTo_78 rfl (by rw [qy109]; rfl) (by decide) rfl rfl ?_
        refine mb_goto (tgt := 8) dX4_giveTo_81 (by decide) ?_
        exact mb_lvs [2, 3, 4, 0] rfl (ih _ _ _ _ hr)
def F_X4_giveTo (x1 : Int32) (h : mb_AH) : Option mb_RS := (mb_cI (F_X4_mostFrom x1 h) fun y102 h101 => (B_X4_giveTo_8  mb_fu x1 y102 0 h101))
set_option maxRecDepth 100000 in
set_option maxHeartbeats 4000000 in
theorem C_X4_giveTo {l : Launch} {G : mb_G} (hst : l.stackTraces = false) (hg : mb_gok G) {x1 : Int32} {h : mb_AH} {res : mb_RS} (hr : F_X4_giveTo x1 h = some res) : mb_Mt l G yX4_giveTo cX4_giveTo 5 (some .int) 22 [mb_F 4 0 0, .inl x1] h res := by
  refine mb_entry (own := RX4) (lv := [(0, mb_F 4 0 0), (1, .inl x1)]) (by decide +kernel) rfl (Nat.le_of_ble_eq_true rfl) rfl rfl (fun _ => ?_) hst hg
  unfold F_X4_giveTo at hr
  refine mb_aload_n (pn := 1) 0 dX4_giveTo_0 rfl rfl rfl ?_
  refine mb_iload_n (pn := 2) 1 dX4_giveTo_1 rfl rfl rfl ?_
  refine cl_X4_23 (pn := 5) hst hg (Nat.le_of_ble_eq_true rfl) (Nat.le_of_ble_eq_true rfl) dX4_giveTo_2 rfl hr (fun y102 h101 hr => ?_)
  refine mb_istore_n (pn := 6) (lv2 := [(2, .inl y102), (0, mb_F 4 0 0), (1, .inl x1)]) dX4_giveTo_5 rfl (by decide) rfl rfl ?_
  refine mb_iconst (v := 0) (pn := 7) dX4_giveTo_6 (by decide) rfl ?_
  refine mb_istore_n (pn := 8) (lv2 := [(3, .inl 0), (2, .inl y102), (0, mb_F 4 0 0), (1, .inl x1)]) dX4_giveTo_7 rfl (by decide) rfl rfl ?_
  exact mb_lvs [2, 3, 1, 0] rfl (T_X4_giveTo_8 hst hg  mb_fu _ _ _ _ hr)
def F_X0_become (a0 : Nat) (b0 : Nat) (x1 : Int32) (x2 : Int32) (x3 : Int32) (x4 : Int32) (h : mb_AH) : Option mb_RS := (mb_up (mb_sI h 2 a0 b0 0 x1) fun h101 => (mb_up (mb_sI h101 2 a0 b0 1 x2) fun h102 => (mb_gZ x3 (mb_up (mb_sI h102 2 a0 b0 2 x3) fun h103 => (mb_up (mb_sI h103 2 a0 b0 3 x4) fun h104 => (some (.inl none, h104)))))))
set_option maxRecDepth 100000 in
set_option maxHeartbeats 4000000 in
theorem C_X0_become {l : Launch} {G : mb_G} (hst : l.stackTraces = false) (hg : mb_gok G) {a0 : Nat} {b0 : Nat} {x1 : Int32} {x2 : Int32} {x3 : Int32} {x4 : Int32} {h : mb_AH} {res : mb_RS} (hr : F_X0_become a0 b0 x1 x2 x3 x4 h = some res) : mb_Mt l G yX0_become cX0_become 5 none 0 [mb_F 2 a0 b0, .inl x1, .inl x2, .inl x3, .inl x4] h res := by
  refine mb_entry (own := RX0) (lv := [(0, mb_F 2 a0 b0), (1, .inl x1), (2, .inl x2), (3, .inl x3), (4, .inl x4)]) (by decide +kernel) rfl (Nat.le_of_ble_eq_true rfl) rfl rfl (fun _ => ?_) hst hg
  unfold F_X0_become at hr
  refine mb_aload_n (pn := 1) 0 dX0_become_0 rfl rfl rfl ?_
  refine mb_iload_n (pn := 2) 1 dX0_become_1 rfl rfl rfl ?_
  refine pf_X0_7 (pn := 5) dX0_become_2 rfl hr (fun h101 hr => ?_)
  refine mb_aload_n (pn := 6) 0 dX0_become_5 rfl rfl rfl ?_
  refine mb_iload_n (pn := 7) 2 dX0_become_6 rfl rfl rfl ?_
  refine pf_X0_13 (pn := 10) dX0_become_7 rfl hr (fun h102 hr => ?_)
  refine mb_aload_n (pn := 11) 0 dX0_become_10 rfl rfl rfl ?_
  refine mb_iload_n (pn := 12) 3 dX0_become_11 rfl rfl rfl ?_
  refine pf_X0_16 (pn := 15) dX0_become_12 rfl hr (fun h103 hr => ?_)
  refine mb_aload_n (pn := 16) 0 dX0_become_15 rfl rfl rfl ?_
  refine mb_iload (pn := 18) 4 dX0_become_16 rfl rfl ?_
  refine pf_X0_20 (pn := 21) dX0_become_18 rfl hr (fun h104 hr => ?_)
  cases hr
  exact mb_vret dX0_become_21
set_option maxRecDepth 100000 in
set_option maxHeartbeats 4000000 in
theorem cl_X0_23 {l : Launch} {G : mb_G} {cc : ByteArray} {nL : Nat} {ret : Option FieldType} {d pc pn : Nat} {lv : List (Nat × mb_AV)} {st : List mb_AV} {h : mb_AH} {res : mb_RS} (hst : l.stackTraces = false) (hg : mb_gok G) {a0 : Nat} {b0 : Nat} {x1 : Int32} {x2 : Int32} {x3 : Int32} {x4 : Int32} {K : mb_AH → Option mb_RS} (hd2 : 0 + 1 ≤ d) (hs4 : st.length ≤ 4) (dg : decode cc pc = .ok (.invokevirtual 23, 3)) (hn : pc + 3 = pn) (hr : mb_cV (F_X0_become a0 b0 x1 x2 x3 x4 h) K = some res) (kk : ∀ (h2 : mb_AH), K h2 = some res → mb_Ev l G RX0 cc nL ret d pn lv st h2 res) : mb_Ev l G RX0 cc nL ret d pc lv (.inl x4 :: .inl x3 :: .inl x2 :: .inl x1 :: mb_F 2 a0 b0 :: st) h res := mb_kVV (as := [.inl x1, .inl x2, .inl x3, .inl x4]) (n := 4) (d2 := 0) (ci := 0) (fun _ hf => C_X0_become hst hg hf) (mb_gV wl_X0_23 mi_X0_become ms_X0_become mn_X0 mc_X0_become) (by decide +kernel) rfl rfl rfl hd2 (by decide) hs4 rfl dg hn hr kk
def F_X0_copyFrom (a0 : Nat) (b0 : Nat) (a1 : Nat) (b1 : Nat) (h : mb_AH) : Option mb_RS := (mb_cV (F_X0_become a0 b0 (h.1 2 a1 b1 0) (h.1 2 a1 b1 1) (h.1 2 a1 b1 2) (h.1 2 a1 b1 3) h) fun h101 => (some (.inl none, h101)))
set_option maxRecDepth 100000 in
set_option maxHeartbeats 4000000 in
theorem C_X0_copyFrom {l : Launch} {G : mb_G} (hst : l.stackTraces = false) (hg : mb_gok G) {a0 : Nat} {b0 : Nat} {a1 : Nat} {b1 : Nat} {h : mb_AH} {res : mb_RS} (hr : F_X0_copyFrom a0 b0 a1 b1 h = some res) : mb_Mt l G yX0_copyFrom cX0_copyFrom 2 none 1 [mb_F 2 a0 b0, mb_F 2 a1 b1] h res := by
  refine mb_entry (own := RX0) (lv := [(0, mb_F 2 a0 b0), (1, mb_F 2 a1 b1)]) (by decide +kernel) rfl (Nat.le_of_ble_eq_true rfl) rfl rfl (fun _ => ?_) hst hg
  unfold F_X0_copyFrom at hr
  refine mb_aload_n (pn := 1) 0 dX0_copyFrom_0 rfl rfl rfl ?_
  refine mb_aload_n (pn := 2) 1 dX0_copyFrom_1 rfl rfl rfl ?_
  refine gf_X0_7 (pn := 5) dX0_copyFrom_2 rfl ?_
  refine mb_aload_n (pn := 6) 1 dX0_copyFrom_5 rfl rfl rfl ?_
  refine gf_X0_13 (pn := 9) dX0_copyFrom_6 rfl ?_
  refine mb_aload_n (pn := 10) 1 dX0_copyFrom_9 rfl rfl rfl ?_
  refine gf_X0_16 (pn := 13) dX0_copyFrom_10 rfl ?_
  refine mb_aload_n (pn := 14) 1 dX0_copyFrom_13 rfl rfl rfl ?_
  refine gf_X0_20 (pn := 17) dX0_copyFrom_14 rfl ?_
  refine cl_X0_23 (pn := 20) hst hg (Nat.le_of_ble_eq_true rfl) (Nat.le_of_ble_eq_true rfl) dX0_copyFrom_17 rfl hr (fun h101 hr => ?_)
  cases hr
  exact mb_vret dX0_copyFrom_20
def F_X0_isTighterThan (a0 : Nat) (b0 : Nat) (a1 : Nat) (b1 : Nat) (h : mb_AH) : Option mb_RS := (if (h.1 2 a0 b0 1) < (h.1 2 a1 b1 1) then (some (.inl (some (.inl 1)), h)) else (if (h.1 2 a0 b0 1) = (h.1 2 a1 b1 1) then (if (h.1 2 a1 b1 0) ≤ (h.1 2 a0 b0 0) then (some (.inl (some (.inl 0)), h)) else (some (.inl (some (.inl 1)), h))) else (some (.inl (some (.inl 0)), h))))
set_option maxRecDepth 100000 in
set_option maxHeartbeats 4000000 in
theorem C_X0_isTighterThan {l : Launch} {G : mb_G} (hst : l.stackTraces = false) (hg : mb_gok G) {a0 : Nat} {b0 : Nat} {a1 : Nat} {b1 : Nat} {h : mb_AH} {res : mb_RS} (hr : F_X0_isTighterThan a0 b0 a1 b1 h = some res) : mb_Mt l G yX0_isTighterThan cX0_isTighterThan 2 (some .boolean) 0 [mb_F 2 a0 b0, mb_F 2 a1 b1] h res := by
  refine mb_entry (own := RX0) (lv := [(0, mb_F 2 a0 b0), (1, mb_F 2 a1 b1)]) (by decide +kernel) rfl (Nat.le_of_ble_eq_true rfl) rfl rfl (fun _ => ?_) hst hg
  unfold F_X0_isTighterThan at hr
  refine mb_aload_n (pn := 1) 0 dX0_isTighterThan_0 rfl rfl rfl ?_
  refine gf_X0_13 (pn := 4) dX0_isTighterThan_1 rfl ?_
  refine mb_aload_n (pn := 5) 1 dX0_isTighterThan_4 rfl rfl rfl ?_
  refine gf_X0_13 (pn := 8) dX0_isTighterThan_5 rfl ?_
  refine mb_ic_lt (tgt := 33) (pn := 11) dX0_isTighterThan_8 (by decide) rfl hr (fun hr => ?_) (fun hr => ?_)
  · refine mb_iconst (v := 1) (pn := 34) dX0_isTighterThan_33 (by decide) rfl ?_
    refine mb_goto (tgt := 38) dX0_isTighterThan_34 (by decide) ?_
    cases hr
    exact mb_zret1 dX0_isTighterThan_38
  · refine mb_aload_n (pn := 12) 0 dX0_isTighterThan_11 rfl rfl rfl ?_
    refine gf_X0_13 (pn := 15) dX0_isTighterThan_12 rfl ?_
    refine mb_aload_n (pn := 16) 1 dX0_isTighterThan_15 rfl rfl rfl ?_
    refine gf_X0_13 (pn := 19) dX0_isTighterThan_16 rfl ?_
    refine mb_ic_ne (tgt := 37) (pn := 22) dX0_isTighterThan_19 (by decide) rfl hr (fun hr => ?_) (fun hr => ?_)
    · refine mb_iconst (v := 0) (pn := 38) dX0_isTighterThan_37 (by decide) rfl ?_
      cases hr
      exact mb_zret0 dX0_isTighterThan_38
    · refine mb_aload_n (pn := 23) 0 dX0_isTighterThan_22 rfl rfl rfl ?_
      refine gf_X0_7 (pn := 26) dX0_isTighterThan_23 rfl ?_
      refine mb_aload_n (pn := 27) 1 dX0_isTighterThan_26 rfl rfl rfl ?_
      refine gf_X0_7 (pn := 30) dX0_isTighterThan_27 rfl ?_
      refine mb_ic_ge (tgt := 37) (pn := 33) dX0_isTighterThan_30 (by decide) rfl hr (fun hr => ?_) (fun hr => ?_)
      · refine mb_iconst (v := 0) (pn := 38) dX0_isTighterThan_37 (by decide) rfl ?_
        cases hr
        exact mb_zret0 dX0_isTighterThan_38
      · refine mb_iconst (v := 1) (pn := 34) dX0_isTighterThan_33 (by decide) rfl ?_
        refine mb_goto (tgt := 38) dX0_isTighterThan_34 (by decide) ?_
        cases hr
        exact mb_zret1 dX0_isTighterThan_38
def F_X1_move (a0 : Nat) (b0 : Nat) (x1 : Int32) (x2 : Int32) (h : mb_AH) : Option mb_RS := (mb_up (mb_sI h 3 a0 b0 3 x1) fun h101 => (mb_up (mb_sI h101 3 a0 b0 4 x2) fun h102 => (some (.inl none, h102))))
set_option maxRecDepth 100000 in
set_option maxHeartbeats 4000000 in
theorem C_X1_move {l : Launch} {G : mb_G} (hst : l.stackTraces = false) (hg : mb_gok G) {a0 : Nat} {b0 : Nat} {x1 : Int32} {x2 : Int32} {h : mb_AH} {res : mb_RS} (hr : F_X1_move a0 b0 x1 x2 h = some res) : mb_Mt l G yX1_move cX1_move 3 none 0 [mb_F 3 a0 b0, .inl x1, .inl x2] h res := by
  refine mb_entry (own := RX1) (lv := [(0, mb_F 3 a0 b0), (1, .inl x1), (2, .inl x2)]) (by decide +kernel) rfl (Nat.le_of_ble_eq_true rfl) rfl rfl (fun _ => ?_) hst hg
  unfold F_X1_move at hr
  refine mb_aload_n (pn := 1) 0 dX1_move_0 rfl rfl rfl ?_
  refine mb_iload_n (pn := 2) 1 dX1_move_1 rfl rfl rfl ?_
  refine pf_X1_28 (pn := 5) dX1_move_2 rfl hr (fun h101 hr => ?_)
  refine mb_aload_n (pn := 6) 0 dX1_move_5 rfl rfl rfl ?_
  refine mb_iload_n (pn := 7) 2 dX1_move_6 rfl rfl rfl ?_
  refine pf_X1_31 (pn := 10) dX1_move_7 rfl hr (fun h102 hr => ?_)
  cases hr
  exact mb_vret dX1_move_10
set_option maxRecDepth 100000 in
set_option maxHeartbeats 4000000 in
theorem cl_X1_43 {l : Launch} {G : mb_G} {cc : ByteArray} {nL : Nat} {ret : Option FieldType} {d pc pn : Nat} {lv : List (Nat × mb_AV)} {st : List mb_AV} {h : mb_AH} {res : mb_RS} (hst : l.stackTraces = false) (hg : mb_gok G) {a0 : Nat} {b0 : Nat} {x1 : Int32} {x2 : Int32} {K : mb_AH → Option mb_RS} (hd2 : 0 + 1 ≤ d) (hs4 : st.length ≤ 4) (dg : decode cc pc = .ok (.invokevirtual 43, 3)) (hn : pc + 3 = pn) (hr : mb_cV (F_X1_move a0 b0 x1 x2 h) K = some res) (kk : ∀ (h2 : mb_AH), K h2 = some res → mb_Ev l G RX1 cc nL ret d pn lv st h2 res) : mb_Ev l G RX1 cc nL ret d pc lv (.inl x2 :: .inl x1 :: mb_F 3 a0 b0 :: st) h res := mb_kVV (as := [.inl x1, .inl x2]) (n := 2) (d2 := 0) (ci := 1) (fun _ hf => C_X1_move hst hg hf) (mb_gV wl_X1_43 mi_X1_move ms_X1_move mn_X1 mc_X1_move) (by decide +kernel) rfl rfl rfl hd2 (by decide) hs4 rfl dg hn hr kk
def F_X1_moveForGood (a0 : Nat) (b0 : Nat) (x1 : Int32) (x2 : Int32) (h : mb_AH) : Option mb_RS := (mb_cV (F_X1_move a0 b0 x1 x2 h) fun h101 => (mb_up (mb_sI h101 3 a0 b0 5 (-1)) fun h102 => (some (.inl none, h102))))
set_option maxRecDepth 100000 in
set_option maxHeartbeats 4000000 in
theorem C_X1_moveForGood {l : Launch} {G : mb_G} (hst : l.stackTraces = false) (hg : mb_gok G) {a0 : Nat} {b0 : Nat} {x1 : Int32} {x2 : Int32} {h : mb_AH} {res : mb_RS} (hr : F_X1_moveForGood a0 b0 x1 x2 h = some res) : mb_Mt l G yX1_moveForGood cX1_moveForGood 3 none 1 [mb_F 3 a0 b0, .inl x1, .inl x2] h res := by
  refine mb_entry (own := RX1) (lv := [(0, mb_F 3 a0 b0), (1, .inl x1), (2, .inl x2)]) (by decide +kernel) rfl (Nat.le_of_ble_eq_true rfl) rfl rfl (fun _ => ?_) hst hg
  unfold F_X1_moveForGood at hr
  refine mb_aload_n (pn := 1) 0 dX1_moveForGood_0 rfl rfl rfl ?_
  refine mb_iload_n (pn := 2) 1 dX1_moveForGood_1 rfl rfl rfl ?_
  refine mb_iload_n (pn := 3) 2 dX1_moveForGood_2 rfl rfl rfl ?_
  refine cl_X1_43 (pn := 6) hst hg (Nat.le_of_ble_eq_true rfl) (Nat.le_of_ble_eq_true rfl) dX1_moveForGood_3 rfl hr (fun h101 hr => ?_)
  refine mb_aload_n (pn := 7) 0 dX1_moveForGood_6 rfl rfl rfl ?_
  refine mb_iconst (v := (-1)) (pn := 8) dX1_moveForGood_7 (by decide) rfl ?_
  refine pf_X1_34 (pn := 11) dX1_moveForGood_8 rfl hr (fun h102 hr => ?_)
  cases hr
  exact mb_vret dX1_moveForGood_11
set_option maxRecDepth 100000 in
set_option maxHeartbeats 4000000 in
theorem cl_X1_24 {l : Launch} {G : mb_G} {cc : ByteArray} {nL : Nat} {ret : Option FieldType} {d pc pn : Nat} {lv : List (Nat × mb_AV)} {st : List mb_AV} {h : mb_AH} {res : mb_RS} (hst : l.stackTraces = false) (hg : mb_gok G) {a0 : Nat} {b0 : Nat} {x1 : Int32} {x2 : Int32} {K : mb_AH → Option mb_RS} (hd2 : 1 + 1 ≤ d) (hs4 : st.length ≤ 4) (dg : decode cc pc = .ok (.invokevirtual 24, 3)) (hn : pc + 3 = pn) (hr : mb_cV (F_X1_moveForGood a0 b0 x1 x2 h) K = some res) (kk : ∀ (h2 : mb_AH), K h2 = some res → mb_Ev l G RX1 cc nL ret d pn lv st h2 res) : mb_Ev l G RX1 cc nL ret d pc lv (.inl x2 :: .inl x1 :: mb_F 3 a0 b0 :: st) h res := mb_kVV (as := [.inl x1, .inl x2]) (n := 2) (d2 := 1) (ci := 1) (fun _ hf => C_X1_moveForGood hst hg hf) (mb_gV wl_X1_24 mi_X1_moveForGood ms_X1_moveForGood mn_X1 mc_X1_moveForGood) (by decide +kernel) rfl rfl rfl hd2 (by decide) hs4 rfl dg hn hr kk
def F_X1_become (a0 : Nat) (b0 : Nat) (x1 : Int32) (x2 : Int32) (x3 : Int32) (h : mb_AH) : Option mb_RS := (mb_up (mb_sI h 3 a0 b0 0 x1) fun h101 => (mb_up (mb_sI h101 3 a0 b0 1 x2) fun h102 => (mb_up (mb_sI h102 3 a0 b0 2 x3) fun h103 => (mb_up (mb_sI h103 3 a0 b0 6 0) fun h104 => (mb_cV (F_X1_moveForGood a0 b0 (0 : Int32) ((-1) : Int32) h104) fun h105 => (some (.inl none, h105)))))))
set_option maxRecDepth 100000 in
set_option maxHeartbeats 4000000 in
theorem C_X1_become {l : Launch} {G : mb_G} (hst : l.stackTraces = false) (hg : mb_gok G) {a0 : Nat} {b0 : Nat} {x1 : Int32} {x2 : Int32} {x3 : Int32} {h : mb_AH} {res : mb_RS} (hr : F_X1_become a0 b0 x1 x2 x3 h = some res) : mb_Mt l G yX1_become cX1_become 4 none 2 [mb_F 3 a0 b0, .inl x1, .inl x2, .inl x3] h res := by
  refine mb_entry (own := RX1) (lv := [(0, mb_F 3 a0 b0), (1, .inl x1), (2, .inl x2), (3, .inl x3)]) (by decide +kernel) rfl (Nat.le_of_ble_eq_true rfl) rfl rfl (fun _ => ?_) hst hg
  unfold F_X1_become at hr
  refine mb_aload_n (pn := 1) 0 dX1_become_0 rfl rfl rfl ?_
  refine mb_iload_n (pn := 2) 1 dX1_become_1 rfl rfl rfl ?_
  refine pf_X1_9 (pn := 5) dX1_become_2 rfl hr (fun h101 hr => ?_)
  refine mb_aload_n (pn := 6) 0 dX1_become_5 rfl rfl rfl ?_
  refine mb_iload_n (pn := 7) 2 dX1_become_6 rfl rfl rfl ?_
  refine pf_X1_15 (pn := 10) dX1_become_7 rfl hr (fun h102 hr => ?_)
  refine mb_aload_n (pn := 11) 0 dX1_become_10 rfl rfl rfl ?_
  refine mb_iload_n (pn := 12) 3 dX1_become_11 rfl rfl rfl ?_
  refine pf_X1_18 (pn := 15) dX1_become_12 rfl hr (fun h103 hr => ?_)
  refine mb_aload_n (pn := 16) 0 dX1_become_15 rfl rfl rfl ?_
  refine mb_iconst (v := 0) (pn := 17) dX1_become_16 (by decide) rfl ?_
  refine pf_X1_21 (pn := 20) dX1_become_17 rfl hr (fun h104 hr => ?_)
  refine mb_aload_n (pn := 21) 0 dX1_become_20 rfl rfl rfl ?_
  refine mb_iconst (v := 0) (pn := 22) dX1_become_21 (by decide) rfl ?_
  refine mb_iconst (v := (-1)) (pn := 23) dX1_become_22 (by decide) rfl ?_
  refine cl_X1_24 (pn := 26) hst hg (Nat.le_of_ble_eq_true rfl) (Nat.le_of_ble_eq_true rfl) dX1_become_23 rfl hr (fun h105 hr => ?_)
  cases hr
  exact mb_vret dX1_become_26
def F_X1_copyFrom (a0 : Nat) (b0 : Nat) (a1 : Nat) (b1 : Nat) (h : mb_AH) : Option mb_RS := (mb_up (mb_sI h 3 a0 b0 0 (h.1 3 a1 b1 0)) fun h101 => (mb_up (mb_sI h101 3 a0 b0 1 (h101.1 3 a1 b1 1)) fun h102 => (mb_up (mb_sI h102 3 a0 b0 2 (h102.1 3 a1 b1 2)) fun h103 => (mb_up (mb_sI h103 3 a0 b0 3 (h103.1 3 a1 b1 3)) fun h104 => (mb_up (mb_sI h104 3 a0 b0 4 (h104.1 3 a1 b1 4)) fun h105 => (mb_up (mb_sI h105 3 a0 b0 5 (h105.1 3 a1 b1 5)) fun h106 => (mb_up (mb_sI h106 3 a0 b0 6 (h106.1 3 a1 b1 6)) fun h107 => (mb_up (mb_sI h107 3 a0 b0 7 (h107.1 3 a1 b1 7)) fun h108 => (mb_up (mb_sI h108 3 a0 b0 8 (h108.1 3 a1 b1 8)) fun h109 => (some (.inl none, h109)))))))))))
set_option maxRecDepth 100000 in
set_option maxHeartbeats 4000000 in
theorem C_X1_copyFrom {l : Launch} {G : mb_G} (hst : l.stackTraces = false) (hg : mb_gok G) {a0 : Nat} {b0 : Nat} {a1 : Nat} {b1 : Nat} {h : mb_AH} {res : mb_RS} (hr : F_X1_copyFrom a0 b0 a1 b1 h = some res) : mb_Mt l G yX1_copyFrom cX1_copyFrom 2 none 0 [mb_F 3 a0 b0, mb_F 3 a1 b1] h res := by
  refine mb_entry (own := RX1) (lv := [(0, mb_F 3 a0 b0), (1, mb_F 3 a1 b1)]) (by decide +kernel) rfl (Nat.le_of_ble_eq_true rfl) rfl rfl (fun _ => ?_) hst hg
  unfold F_X1_copyFrom at hr
  refine mb_aload_n (pn := 1) 0 dX1_copyFrom_0 rfl rfl rfl ?_
  refine mb_aload_n (pn := 2) 1 dX1_copyFrom_1 rfl rfl rfl ?_
  refine gf_X1_9 (pn := 5) dX1_copyFrom_2 rfl ?_
  refine pf_X1_9 (pn := 8) dX1_copyFrom_5 rfl hr (fun h101 hr => ?_)
  refine mb_aload_n (pn := 9) 0 dX1_copyFrom_8 rfl rfl rfl ?_
  refine mb_aload_n (pn := 10) 1 dX1_copyFrom_9 rfl rfl rfl ?_
  refine gf_X1_15 (pn := 13) dX1_copyFrom_10 rfl ?_
  refine pf_X1_15 (pn := 16) dX1_copyFrom_13 rfl hr (fun h102 hr => ?_)
  refine mb_aload_n (pn := 17) 0 dX1_copyFrom_16 rfl rfl rfl ?_
  refine mb_aload_n (pn := 18) 1 dX1_copyFrom_17 rfl rfl rfl ?_
  refine gf_X1_18 (pn := 21) dX1_copyFrom_18 rfl ?_
  refine pf_X1_18 (pn := 24) dX1_copyFrom_21 rfl hr (fun h103 hr => ?_)
  refine mb_aload_n (pn := 25) 0 dX1_copyFrom_24 rfl rfl rfl ?_
  refine mb_aload_n (pn := 26) 1 dX1_copyFrom_25 rfl rfl rfl ?_
  refine gf_X1_28 (pn := 29) dX1_copyFrom_26 rfl ?_
  refine pf_X1_28 (pn := 32) dX1_copyFrom_29 rfl hr (fun h104 hr => ?_)
  refine mb_aload_n (pn := 33) 0 dX1_copyFrom_32 rfl rfl rfl ?_
  refine mb_aload_n (pn := 34) 1 dX1_copyFrom_33 rfl rfl rfl ?_
  refine gf_X1_31 (pn := 37) dX1_copyFrom_34 rfl ?_
  refine pf_X1_31 (pn := 40) dX1_copyFrom_37 rfl hr (fun h105 hr => ?_)
  refine mb_aload_n (pn := 41) 0 dX1_copyFrom_40 rfl rfl rfl ?_
  refine mb_aload_n (pn := 42) 1 dX1_copyFrom_41 rfl rfl rfl ?_
  refine gf_X1_34 (pn := 45) dX1_copyFrom_42 rfl ?_
  refine pf_X1_34 (pn := 48) dX1_copyFrom_45 rfl hr (fun h106 hr => ?_)
  refine mb_aload_n (pn := 49) 0 dX1_copyFrom_48 rfl rfl rfl ?_
  refine mb_aload_n (pn := 50) 1 dX1_copyFrom_49 rfl rfl rfl ?_
  refine gf_X1_21 (pn := 53) dX1_copyFrom_50 rfl ?_
  refine pf_X1_21 (pn := 56) dX1_copyFrom_53 rfl hr (fun h107 hr => ?_)
  refine mb_aload_n (pn := 57) 0 dX1_copyFrom_56 rfl rfl rfl ?_
  refine mb_aload_n (pn := 58) 1 dX1_copyFrom_57 rfl rfl rfl ?_
  refine gf_X1_37 (pn := 61) dX1_copyFrom_58 rfl ?_
  refine pf_X1_37 (pn := 64) dX1_copyFrom_61 rfl hr (fun h108 hr => ?_)
  refine mb_aload_n (pn := 65) 0 dX1_copyFrom_64 rfl rfl rfl ?_
  refine mb_aload_n (pn := 66) 1 dX1_copyFrom_65 rfl rfl rfl ?_
  refine gf_X1_40 (pn := 69) dX1_copyFrom_66 rfl ?_
  refine pf_X1_40 (pn := 72) dX1_copyFrom_69 rfl hr (fun h109 hr => ?_)
  cases hr
  exact mb_vret dX1_copyFrom_72
def F_X1_canOweMore (a0 : Nat) (b0 : Nat) (x1 : Int64) (h : mb_AH) : Option mb_RS := (if 0 < (lg_cmp (((h.1 3 a0 b0 6).toInt64) + x1) 2147483647) then (some (.inl (some (.inl 0)), h)) else (some (.inl (some (.inl 1)), h)))
set_option maxRecDepth 100000 in
set_option maxHeartbeats 4000000 in
theorem C_X1_canOweMore {l : Launch} {G : mb_G} (hst : l.stackTraces = false) (hg : mb_gok G) {a0 : Nat} {b0 : Nat} {x1 : Int64} {h : mb_AH} {res : mb_RS} (hr : F_X1_canOweMore a0 b0 x1 h = some res) : mb_Mt l G yX1_canOweMore cX1_canOweMore 3 (some .boolean) 0 [mb_F 3 a0 b0, .inr (.inl x1)] h res := by
  refine mb_entry (own := RX1) (lv := [(0, mb_F 3 a0 b0), (1, .inr (.inl x1))]) (by decide +kernel) rfl (Nat.le_of_ble_eq_true rfl) rfl rfl (fun _ => ?_) hst hg
  unfold F_X1_canOweMore at hr
  refine mb_aload_n (pn := 1) 0 dX1_canOweMore_0 rfl rfl rfl ?_
  refine gf_X1_21 (pn := 4) dX1_canOweMore_1 rfl ?_
  refine mb_i2l (pn := 5) dX1_canOweMore_4 rfl ?_
  refine mb_lload_n (pn := 6) 1 dX1_canOweMore_5 rfl rfl rfl ?_
  refine mb_ladd (pn := 7) dX1_canOweMore_6 rfl ?_
  refine mb_ldc2 (v := 2147483647) (pn := 10) wk_X1_46 dX1_canOweMore_7 rfl ?_
  refine mb_lcmp (pn := 11) dX1_canOweMore_10 rfl ?_
  refine mb_if_gt (tgt := 18) (pn := 14) dX1_canOweMore_11 (by decide) rfl hr (fun hr => ?_) (fun hr => ?_)
  · refine mb_iconst (v := 0) (pn := 19) dX1_canOweMore_18 (by decide) rfl ?_
    cases hr
    exact mb_zret0 dX1_canOweMore_19
  · refine mb_iconst (v := 1) (pn := 15) dX1_canOweMore_14 (by decide) rfl ?_
    refine mb_goto (tgt := 19) dX1_canOweMore_15 (by decide) ?_
    cases hr
    exact mb_zret1 dX1_canOweMore_19
def F_X3_append (x1 : Int32) (h : mb_AH) : Option mb_RS := (mb_gB (h.1 5 0 0 1) 70 (mb_up (mb_sI h 16 0 0 (h.1 5 0 0 1).toNatClampNeg (vp_nar .char x1)) fun h101 => (mb_up (mb_sI h101 5 0 0 1 ((h101.1 5 0 0 1) + 1)) fun h102 => (some (.inl none, h102)))))
set_option maxRecDepth 100000 in
set_option maxHeartbeats 4000000 in
theorem C_X3_append {l : Launch} {G : mb_G} (hst : l.stackTraces = false) (hg : mb_gok G) {x1 : Int32} {h : mb_AH} {res : mb_RS} (hr : F_X3_append x1 h = some res) : mb_Mt l G yX3_append cX3_append 2 none 0 [mb_F 5 0 0, .inl x1] h res := by
  refine mb_entry (own := RX3) (lv := [(0, mb_F 5 0 0), (1, .inl x1)]) (by decide +kernel) rfl (Nat.le_of_ble_eq_true rfl) rfl rfl (fun _ => ?_) hst hg
  unfold F_X3_append at hr
  refine mb_aload_n (pn := 1) 0 dX3_append_0 rfl rfl rfl ?_
  refine gf_X3_9 (pn := 4) dX3_append_1 rfl ?_
  refine mb_aload_n (pn := 5) 0 dX3_append_4 rfl rfl rfl ?_
  refine gf_X3_19 (pn := 8) dX3_append_5 rfl ?_
  refine mb_iload_n (pn := 9) 1 dX3_append_8 rfl rfl rfl ?_
  refine mb_cast (pn := 10) (n := 70) rfl rfl dX3_append_9 rfl hr (fun hr => ?_)
  refine mb_nmh hr (fun h101 hr => ?_)
  refine mb_aload_n (pn := 11) 0 dX3_append_10 rfl rfl rfl ?_
  refine mb_dup (pn := 12) rfl dX3_append_11 rfl ?_
  refine gf_X3_19 (pn := 15) dX3_append_12 rfl ?_
  refine mb_iconst (v := 1) (pn := 16) dX3_append_15 (by decide) rfl ?_
  refine mb_iadd (pn := 17) dX3_append_16 rfl ?_
  refine pf_X3_19 (pn := 20) dX3_append_17 rfl hr (fun h102 hr => ?_)
  cases hr
  exact mb_vret dX3_append_20
def F_X3_isAt (x1 : Int32) (x2 : Int32) (h : mb_AH) : Option mb_RS := (if (h.1 5 0 0 1) ≤ x1 then (some (.inl (some (.inl 0)), h)) else (mb_gB x1 70 (if (h.1 16 0 0 x1.toNatClampNeg) = x2 then (some (.inl (some (.inl 1)), h)) else (some (.inl (some (.inl 0)), h)))))
set_option maxRecDepth 100000 in
set_option maxHeartbeats 4000000 in
theorem C_X3_isAt {l : Launch} {G : mb_G} (hst : l.stackTraces = false) (hg : mb_gok G) {x1 : Int32} {x2 : Int32} {h : mb_AH} {res : mb_RS} (hr : F_X3_isAt x1 x2 h = some res) : mb_Mt l G yX3_isAt cX3_isAt 3 (some .boolean) 0 [mb_F 5 0 0, .inl x1, .inl x2] h res := by
  refine mb_entry (own := RX3) (lv := [(0, mb_F 5 0 0), (1, .inl x1), (2, .inl x2)]) (by decide +kernel) rfl (Nat.le_of_ble_eq_true rfl) rfl rfl (fun _ => ?_) hst hg
  unfold F_X3_isAt at hr
  refine mb_iload_n (pn := 1) 1 dX3_isAt_0 rfl rfl rfl ?_
  refine mb_aload_n (pn := 2) 0 dX3_isAt_1 rfl rfl rfl ?_
  refine gf_X3_19 (pn := 5) dX3_isAt_2 rfl ?_
  refine mb_ic_ge (tgt := 22) (pn := 8) dX3_isAt_5 (by decide) rfl hr (fun hr => ?_) (fun hr => ?_)
  · refine mb_iconst (v := 0) (pn := 23) dX3_isAt_22 (by decide) rfl ?_
    cases hr
    exact mb_zret0 dX3_isAt_23
  · refine mb_aload_n (pn := 9) 0 dX3_isAt_8 rfl rfl rfl ?_
    refine gf_X3_9 (pn := 12) dX3_isAt_9 rfl ?_
    refine mb_iload_n (pn := 13) 1 dX3_isAt_12 rfl rfl rfl ?_
    refine mb_cald (pn := 14) (n := 70) rfl dX3_isAt_13 rfl hr (fun hr => ?_)
    refine mb_iload_n (pn := 15) 2 dX3_isAt_14 rfl rfl rfl ?_
    refine mb_ic_ne (tgt := 22) (pn := 18) dX3_isAt_15 (by decide) rfl hr (fun hr => ?_) (fun hr => ?_)
    · refine mb_iconst (v := 0) (pn := 23) dX3_isAt_22 (by decide) rfl ?_
      cases hr
      exact mb_zret0 dX3_isAt_23
    · refine mb_iconst (v := 1) (pn := 19) dX3_isAt_18 (by decide) rfl ?_
      refine mb_goto (tgt := 23) dX3_isAt_19 (by decide) ?_
      cases hr
      exact mb_zret1 dX3_isAt_23
set_option maxRecDepth 100000 in
set_option maxHeartbeats 4000000 in
theorem cl_X3_26 {l : Launch} {G : mb_G} {cc : ByteArray} {nL : Nat} {ret : Option FieldType} {d pc pn : Nat} {lv : List (Nat × mb_AV)} {st : List mb_AV} {h : mb_AH} {res : mb_RS} (hst : l.stackTraces = false) (hg : mb_gok G) {x1 : Int32} {x2 : Int32} {K : Int32 → mb_AH → Option mb_RS} (hd2 : 0 + 1 ≤ d) (hs4 : st.length ≤ 4) (dg : decode cc pc = .ok (.invokevirtual 26, 3)) (hn : pc + 3 = pn) (hr : mb_cI (F_X3_isAt x1 x2 h) K = some res) (kk : ∀ (x : Int32) (h2 : mb_AH), K x h2 = some res → mb_Ev l G RX3 cc nL ret d pn lv (.inl x :: st) h2 res) : mb_Ev l G RX3 cc nL ret d pc lv (.inl x2 :: .inl x1 :: mb_F 5 0 0 :: st) h res := mb_kVI (as := [.inl x1, .inl x2]) (n := 2) (d2 := 0) (ci := 3) (fun _ hf => C_X3_isAt hst hg hf) (mb_gV wl_X3_26 mi_X3_isAt ms_X3_isAt mn_X3 mc_X3_isAt) (by decide +kernel) rfl rfl rfl hd2 (by decide) hs4 rfl dg hn hr kk
def B_X3_endOfDigits_2  : Nat → Int32 → Int32 → mb_AH → Option mb_RS
  | 0, _, _, _ => none
  | n + 1, v1, v2, h => (if (v1 + 3) ≤ v2 then (some (.inl (some (.inl v2)), h)) else (if (h.1 5 0 0 1) ≤ v2 then (some (.inl (some (.inl v2)), h)) else (mb_gB v2 70 (if (h.1 16 0 0 v2.toNatClampNeg) < 48 then (some (.inl (some (.inl v2)), h)) else (mb_gB v2 70 (if 57 < (h.1 16 0 0 v2.toNatClampNeg) then (some (.inl (some (.inl v2)), h)) else (mb_lI (v2 + 1) fun y101 => ((B_X3_endOfDigits_2  n) v1 y101 h))))))))
set_option maxRecDepth 100000 in
set_option maxHeartbeats 4000000 in
theorem T_X3_endOfDigits_2 {l : Launch} {G : mb_G} {res : mb_RS} (hst : l.stackTraces = false) (hg : mb_gok G)   : ∀ (n : Nat) (v1 : Int32) (v2 : Int32) (h : mb_AH), B_X3_endOfDigits_2  n v1 v2 h = some res → mb_Ev l G RX3 cX3_endOfDigits 3 (some .int) 0 2 [(0, mb_F 5 0 0), (1, .inl v1), (2, .inl v2)] [] h res := by
  intro n
  induction n with
  | zero => intro v1 v2 h hr; cases hr
  | succ n ih =>
    intro v1 v2 h hr
    rw [B_X3_endOfDigits_2] at hr
    refine mb_iload_n (pn := 3) 2 dX3_endOfDigits_2 rfl rfl rfl ?_
    refine mb_iload_n (pn := 4) 1 dX3_endOfDigits_3 rfl rfl rfl ?_
    refine mb_iconst (v := 3) (pn := 5) dX3_endOfDigits_4 (by decide) rfl ?_
    refine mb_iadd (pn := 6) dX3_endOfDigits_5 rfl ?_
    refine mb_ic_ge (tgt := 45) (pn := 9) dX3_endOfDigits_6 (by decide) rfl hr (fun hr => ?_) (fun hr => ?_)
    · refine mb_iload_n (pn := 46) 2 dX3_endOfDigits_45 rfl rfl rfl ?_
      cases hr
      exact mb_iret dX3_endOfDigits_46
    · refine mb_iload_n (pn := 10) 2 dX3_endOfDigits_9 rfl rfl rfl ?_
      refine mb_aload_n (pn := 11) 0 dX3_endOfDigits_10 rfl rfl rfl ?_
      refine gf_X3_19 (pn := 14) dX3_endOfDigits_11 rfl ?_
      refine mb_ic_ge (tgt := 45) (pn := 17) dX3_endOfDigits_14 (by decide) rfl hr (fun hr => ?_) (fun hr => ?_)
      · refine mb_iload_n (pn := 46) 2 dX3_endOfDigits_45 rfl rfl rfl ?_
        cases hr
        exact mb_iret dX3_endOfDigits_46
      · refine mb_aload_n (pn := 18) 0 dX3_endOfDigits_17 rfl rfl rfl ?_
        refine gf_X3_9 (pn := 21) dX3_endOfDigits_18 rfl ?_
        refine mb_iload_n (pn := 22) 2 dX3_endOfDigits_21 rfl rfl rfl ?_
        refine mb_cald (pn := 23) (n := 70) rfl dX3_endOfDigits_22 rfl hr (fun hr => ?_)
        refine mb_bipush (v := 48) (pn := 25) dX3_endOfDigits_23 (by decide) rfl ?_
        refine mb_ic_lt (tgt := 45) (pn := 28) dX3_endOfDigits_25 (by decide) rfl hr (fun hr => ?_) (fun hr => ?_)
        · refine mb_iload_n (pn := 46) 2 dX3_endOfDigits_45 rfl rfl rfl ?_
          cases hr
          exact mb_iret dX3_endOfDigits_46
        · refine mb_aload_n (pn := 29) 0 dX3_endOfDigits_28 rfl rfl rfl ?_
          refine gf_X3_9 (pn := 32) dX3_endOfDigits_29 rfl ?_
          refine mb_iload_n (pn := 33) 2 dX3_endOfDigits_32 rfl rfl rfl ?_
          refine mb_cald (pn := 34) (n := 70) rfl dX3_endOfDigits_33 rfl hr (fun hr => ?_)
          refine mb_bipush (v := 57) (pn := 36) dX3_endOfDigits_34 (by decide) rfl ?_
          refine mb_ic_gt (tgt := 45) (pn := 39) dX3_endOfDigits_36 (by decide) rfl hr (fun hr => ?_) (fun hr => ?_)
          · refine mb_iload_n (pn := 46) 2 dX3_endOfDigits_45 rfl rfl rfl ?_
            cases hr
            exact mb_iret dX3_endOfDigits_46
          · refine mb_nmx hr (fun y101 qy101 hr => ?_)
            refine mb_iinc (v := y101) (pn := 42) (lv2 := [(2, .inl y101), (0, mb_F 5 0 0), (1, .inl v1)]) 2 dX3_endOfDigits_39 rfl (by rw [qy101]; rfl) (by decide) rfl rfl ?_
            refine mb_goto (tgt := 2) dX3_endOfDigits_42 (by decide) ?_
            exact mb_lvs [1, 2, 0] rfl (ih _ _ _ hr)
def F_X3_endOfDigits (x1 : Int32) (h : mb_AH) : Option mb_RS := (B_X3_endOfDigits_2  mb_fu x1 x1 h)
set_option maxRecDepth 100000 in
set_option maxHeartbeats 4000000 in
theorem C_X3_endOfDigits {l : Launch} {G : mb_G} (hst : l.stackTraces = false) (hg : mb_gok G) {x1 : Int32} {h : mb_AH} {res : mb_RS} (hr : F_X3_endOfDigits x1 h = some res) : mb_Mt l G yX3_endOfDigits cX3_endOfDigits 3 (some .int) 0 [mb_F 5 0 0, .inl x1] h res := by
  refine mb_entry (own := RX3) (lv := [(0, mb_F 5 0 0), (1, .inl x1)]) (by decide +kernel) rfl (Nat.le_of_ble_eq_true rfl) rfl rfl (fun _ => ?_) hst hg
  unfold F_X3_endOfDigits at hr
  refine mb_iload_n (pn := 1) 1 dX3_endOfDigits_0 rfl rfl rfl ?_
  refine mb_istore_n (pn := 2) (lv2 := [(2, .inl x1), (0, mb_F 5 0 0), (1, .inl x1)]) dX3_endOfDigits_1 rfl (by decide) rfl rfl ?_
  exact mb_lvs [1, 2, 0] rfl (T_X3_endOfDigits_2 hst hg  mb_fu _ _ _ hr)
set_option maxRecDepth 100000 in
set_option maxHeartbeats 4000000 in
theorem cl_X3_30 {l : Launch} {G : mb_G} {cc : ByteArray} {nL : Nat} {ret : Option FieldType} {d pc pn : Nat} {lv : List (Nat × mb_AV)} {st : List mb_AV} {h : mb_AH} {res : mb_RS} (hst : l.stackTraces = false) (hg : mb_gok G) {x1 : Int32} {K : Int32 → mb_AH → Option mb_RS} (hd2 : 0 + 1 ≤ d) (hs4 : st.length ≤ 4) (dg : decode cc pc = .ok (.invokevirtual 30, 3)) (hn : pc + 3 = pn) (hr : mb_cI (F_X3_endOfDigits x1 h) K = some res) (kk : ∀ (x : Int32) (h2 : mb_AH), K x h2 = some res → mb_Ev l G RX3 cc nL ret d pn lv (.inl x :: st) h2 res) : mb_Ev l G RX3 cc nL ret d pc lv (.inl x1 :: mb_F 5 0 0 :: st) h res := mb_kVI (as := [.inl x1]) (n := 1) (d2 := 0) (ci := 3) (fun _ hf => C_X3_endOfDigits hst hg hf) (mb_gV wl_X3_30 mi_X3_endOfDigits ms_X3_endOfDigits mn_X3 mc_X3_endOfDigits) (by decide +kernel) rfl rfl rfl hd2 (by decide) hs4 rfl dg hn hr kk
def B_X3_valueOf_5  : Nat → Int32 → Int32 → Int32 → mb_AH → Option mb_RS
  | 0, _, _, _, _ => none
  | n + 1, v2, v3, v4, h => (if v2 ≤ v4 then (some (.inl (some (.inl v3)), h)) else (mb_gB v4 70 (mb_lI (((10 : Int32) * v3) + ((h.1 16 0 0 v4.toNatClampNeg) - 48)) fun y101 => (mb_lI (v4 + 1) fun y102 => ((B_X3_valueOf_5  n) v2 y101 y102 h)))))
set_option maxRecDepth 100000 in
set_option maxHeartbeats 4000000 in
theorem T_X3_valueOf_5 {l : Launch} {G : mb_G} {res : mb_RS} (hst : l.stackTraces = false) (hg : mb_gok G)   : ∀ (n : Nat) (v2 : Int32) (v3 : Int32) (v4 : Int32) (h : mb_AH), B_X3_valueOf_5  n v2 v3 v4 h = some res → mb_Ev l G RX3 cX3_valueOf 5 (some .int) 0 5 [(0, mb_F 5 0 0), (2, .inl v2), (3, .inl v3), (4, .inl v4)] [] h res := by
  intro n
  induction n with
  | zero => intro v2 v3 v4 h hr; cases hr
  | succ n ih =>
    intro v2 v3 v4 h hr
    rw [B_X3_valueOf_5] at hr
    refine mb_iload (pn := 7) 3 dX3_valueOf_5 rfl rfl ?_
    refine mb_iload_n (pn := 8) 1 dX3_valueOf_7 rfl rfl rfl ?_
    refine mb_ic_ge (tgt := 33) (pn := 11) dX3_valueOf_8 (by decide) rfl hr (fun hr => ?_) (fun hr => ?_)
    · refine mb_iload_n (pn := 34) 2 dX3_valueOf_33 rfl rfl rfl ?_
      cases hr
      exact mb_iret dX3_valueOf_34
    · refine mb_bipush (v := 10) (pn := 13) dX3_valueOf_11 (by decide) rfl ?_
      refine mb_iload_n (pn := 14) 2 dX3_valueOf_13 rfl rfl rfl ?_
      refine mb_imul (pn := 15) dX3_valueOf_14 rfl ?_
      refine mb_aload_n (pn := 16) 0 dX3_valueOf_15 rfl rfl rfl ?_
      refine gf_X3_9 (pn := 19) dX3_valueOf_16 rfl ?_
      refine mb_iload (pn := 21) 3 dX3_valueOf_19 rfl rfl ?_
      refine mb_cald (pn := 22) (n := 70) rfl dX3_valueOf_21 rfl hr (fun hr => ?_)
      refine mb_bipush (v := 48) (pn := 24) dX3_valueOf_22 (by decide) rfl ?_
      refine mb_isub (pn := 25) dX3_valueOf_24 rfl ?_
      refine mb_iadd (pn := 26) dX3_valueOf_25 rfl ?_
      refine mb_nmI hr (fun y101 hr => ?_)
      refine mb_istore_n (pn := 27) (lv2 := [(3, .inl y101), (0, mb_F 5 0 0), (2, .inl v2), (4, .inl v4)]) dX3_valueOf_26 rfl (by decide) rfl rfl ?_
      refine mb_nmx hr (fun y102 qy102 hr => ?_)
      refine mb_iinc (v := y102) (pn := 30) (lv2 := [(4, .inl y102), (3, .inl y101), (0, mb_F 5 0 0), (2, .inl v2)]) 3 dX3_valueOf_27 rfl (by rw [qy102]; rfl) (by decide) rfl rfl ?_
      refine mb_goto (tgt := 5) dX3_valueOf_30 (by decide) ?_
      exact mb_lvs [2, 3, 1, 0] rfl (ih _ _ _ _ hr)
def F_X3_valueOf (x1 : Int32) (x2 : Int32) (h : mb_AH) : Option mb_RS := (B_X3_valueOf_5  mb_fu x2 0 x1 h)
set_option maxRecDepth 100000 in
set_option maxHeartbeats 4000000 in
theorem C_X3_valueOf {l : Launch} {G : mb_G} (hst : l.stackTraces = false) (hg : mb_gok G) {x1 : Int32} {x2 : Int32} {h : mb_AH} {res : mb_RS} (hr : F_X3_valueOf x1 x2 h = some res) : mb_Mt l G yX3_valueOf cX3_valueOf 5 (some .int) 0 [mb_F 5 0 0, .inl x1, .inl x2] h res := by
  refine mb_entry (own := RX3) (lv := [(0, mb_F 5 0 0), (1, .inl x1), (2, .inl x2)]) (by decide +kernel) rfl (Nat.le_of_ble_eq_true rfl) rfl rfl (fun _ => ?_) hst hg
  unfold F_X3_valueOf at hr
  refine mb_iconst (v := 0) (pn := 1) dX3_valueOf_0 (by decide) rfl ?_
  refine mb_istore_n (pn := 2) (lv2 := [(3, .inl 0), (0, mb_F 5 0 0), (1, .inl x1), (2, .inl x2)]) dX3_valueOf_1 rfl (by decide) rfl rfl ?_
  refine mb_iload_n (pn := 3) 2 dX3_valueOf_2 rfl rfl rfl ?_
  refine mb_istore (pn := 5) (lv2 := [(4, .inl x1), (3, .inl 0), (0, mb_F 5 0 0), (1, .inl x1), (2, .inl x2)]) dX3_valueOf_3 (by decide) rfl rfl ?_
  exact mb_lvs [2, 4, 1, 0] rfl (T_X3_valueOf_5 hst hg  mb_fu _ _ _ _ hr)
set_option maxRecDepth 100000 in
set_option maxHeartbeats 4000000 in
theorem cl_X3_34 {l : Launch} {G : mb_G} {cc : ByteArray} {nL : Nat} {ret : Option FieldType} {d pc pn : Nat} {lv : List (Nat × mb_AV)} {st : List mb_AV} {h : mb_AH} {res : mb_RS} (hst : l.stackTraces = false) (hg : mb_gok G) {x1 : Int32} {x2 : Int32} {K : Int32 → mb_AH → Option mb_RS} (hd2 : 0 + 1 ≤ d) (hs4 : st.length ≤ 4) (dg : decode cc pc = .ok (.invokevirtual 34, 3)) (hn : pc + 3 = pn) (hr : mb_cI (F_X3_valueOf x1 x2 h) K = some res) (kk : ∀ (x : Int32) (h2 : mb_AH), K x h2 = some res → mb_Ev l G RX3 cc nL ret d pn lv (.inl x :: st) h2 res) : mb_Ev l G RX3 cc nL ret d pc lv (.inl x2 :: .inl x1 :: mb_F 5 0 0 :: st) h res := mb_kVI (as := [.inl x1, .inl x2]) (n := 2) (d2 := 0) (ci := 3) (fun _ hf => C_X3_valueOf hst hg hf) (mb_gV wl_X3_34 mi_X3_valueOf ms_X3_valueOf mn_X3 mc_X3_valueOf) (by decide +kernel) rfl rfl rfl hd2 (by decide) hs4 rfl dg hn hr kk
def B_X3_findFault_94 (K9 : Int32 → Int32 → mb_AH → Option mb_RS) (v1 : Int32) (v4 : Int32) (h : mb_AH) : Option mb_RS := (if v4 = (h.1 5 0 0 1) then (mb_up (mb_sI h 5 0 0 3 ((h.1 5 0 0 3) + 1)) fun h113 => (some (.inl (some (.inl v1)), h113))) else (mb_cI (F_X3_isAt v4 (44 : Int32) h) fun y110 h109 => (if y110 = 0 then (some (.inl (some (.inl v4)), h109)) else (mb_lI (v4 + 1) fun y111 => (mb_up (mb_sI h109 5 0 0 3 ((h109.1 5 0 0 3) + 1)) fun h112 => (K9 v1 y111 h112))))))
set_option maxRecDepth 100000 in
set_option maxHeartbeats 4000000 in
theorem T_X3_findFault_94 {l : Launch} {G : mb_G} {res : mb_RS} (hst : l.stackTraces = false) (hg : mb_gok G) {K9 : Int32 → Int32 → mb_AH → Option mb_RS} (hK9 : ∀ (v1z : Int32) (v2z : Int32) (hz : mb_AH), K9 v1z v2z hz = some res → mb_Ev l G RX3 cX3_findFault 6 (some .int) 1 9 [(0, mb_F 5 0 0), (1, .inl v1z), (2, .inl v2z)] [] hz res) {v1 : Int32} {v4 : Int32} {h : mb_AH} (hr : B_X3_findFault_94 K9 v1 v4 h = some res) : mb_Ev l G RX3 cX3_findFault 6 (some .int) 1 94 [(0, mb_F 5 0 0), (1, .inl v1), (4, .inl v4)] [] h res := by
  unfold B_X3_findFault_94 at hr
  refine mb_iload (pn := 96) 2 dX3_findFault_94 rfl rfl ?_
  refine mb_aload_n (pn := 97) 0 dX3_findFault_96 rfl rfl rfl ?_
  refine gf_X3_19 (pn := 100) dX3_findFault_97 rfl ?_
  refine mb_ic_ne (tgt := 115) (pn := 103) dX3_findFault_100 (by decide) rfl hr (fun hr => ?_) (fun hr => ?_)
  · refine mb_aload_n (pn := 116) 0 dX3_findFault_115 rfl rfl rfl ?_
    refine mb_iload (pn := 118) 2 dX3_findFault_116 rfl rfl ?_
    refine mb_bipush (v := 44) (pn := 120) dX3_findFault_118 (by decide) rfl ?_
    refine cl_X3_26 (pn := 123) hst hg (Nat.le_of_ble_eq_true rfl) (Nat.le_of_ble_eq_true rfl) dX3_findFault_120 rfl hr (fun y110 h109 hr => ?_)
    refine mb_if_ne (tgt := 129) (pn := 126) dX3_findFault_123 (by decide) rfl hr (fun hr => ?_) (fun hr => ?_)
    · refine mb_iload (pn := 131) 2 dX3_findFault_129 rfl rfl ?_
      refine mb_iconst (v := 1) (pn := 132) dX3_findFault_131 (by decide) rfl ?_
      refine mb_iadd (pn := 133) dX3_findFault_132 rfl ?_
      refine mb_nmI hr (fun y111 hr => ?_)
      refine mb_istore_n (pn := 134) (lv2 := [(2, .inl y111), (0, mb_F 5 0 0), (1, .inl v1), (4, .inl v4)]) dX3_findFault_133 rfl (by decide) rfl rfl ?_
      refine mb_aload_n (pn := 135) 1 dX3_findFault_134 rfl rfl rfl ?_
      refine mb_dup (pn := 136) rfl dX3_findFault_135 rfl ?_
      refine gf_X3_23 (pn := 139) dX3_findFault_136 rfl ?_
      refine mb_iconst (v := 1) (pn := 140) dX3_findFault_139 (by decide) rfl ?_
      refine mb_iadd (pn := 141) dX3_findFault_140 rfl ?_
      refine pf_X3_23 (pn := 144) dX3_findFault_141 rfl hr (fun h112 hr => ?_)
      refine mb_goto (tgt := 9) dX3_findFault_144 (by decide) ?_
      exact mb_lvs [1, 2, 0] rfl (hK9 _ _ _ hr)
    · refine mb_iload (pn := 128) 2 dX3_findFault_126 rfl rfl ?_
      cases hr
      exact mb_iret dX3_findFault_128
  · refine mb_aload_n (pn := 104) 0 dX3_findFault_103 rfl rfl rfl ?_
    refine mb_dup (pn := 105) rfl dX3_findFault_104 rfl ?_
    refine gf_X3_23 (pn := 108) dX3_findFault_105 rfl ?_
    refine mb_iconst (v := 1) (pn := 109) dX3_findFault_108 (by decide) rfl ?_
    refine mb_iadd (pn := 110) dX3_findFault_109 rfl ?_
    refine pf_X3_23 (pn := 113) dX3_findFault_110 rfl hr (fun h113 hr => ?_)
    refine mb_iload_n (pn := 114) 1 dX3_findFault_113 rfl rfl rfl ?_
    cases hr
    exact mb_iret dX3_findFault_114
def B_X3_findFault_78 (K9 : Int32 → Int32 → mb_AH → Option mb_RS) (v1 : Int32) (v3 : Int32) (v4 : Int32) (v5 : Int32) (s0 : Int32) (s1 : Int32) (h : mb_AH) : Option mb_RS := (mb_gB s1 14 (mb_up (mb_sI h 17 0 0 s1.toNatClampNeg s0) fun h108 => (if v5 ≤ 300 then (B_X3_findFault_94 K9 v1 v4 h108) else (if v1 = (-1) then (B_X3_findFault_94 K9 v3 v4 h108) else (B_X3_findFault_94 K9 v1 v4 h108)))))
set_option maxRecDepth 100000 in
set_option maxHeartbeats 4000000 in
theorem T_X3_findFault_78 {l : Launch} {G : mb_G} {res : mb_RS} (hst : l.stackTraces = false) (hg : mb_gok G) {K9 : Int32 → Int32 → mb_AH → Option mb_RS} (hK9 : ∀ (v1z : Int32) (v2z : Int32) (hz : mb_AH), K9 v1z v2z hz = some res → mb_Ev l G RX3 cX3_findFault 6 (some .int) 1 9 [(0, mb_F 5 0 0), (1, .inl v1z), (2, .inl v2z)] [] hz res) {v1 : Int32} {v3 : Int32} {v4 : Int32} {v5 : Int32} {s0 : Int32} {s1 : Int32} {h : mb_AH} (hr : B_X3_findFault_78 K9 v1 v3 v4 v5 s0 s1 h = some res) : mb_Ev l G RX3 cX3_findFault 6 (some .int) 1 78 [(0, mb_F 5 0 0), (1, .inl v1), (3, .inl v3), (4, .inl v4), (5, .inl v5)] [.inl s0, .inl s1, mb_F 17 0 0] h res := by
  unfold B_X3_findFault_78 at hr
  refine mb_iast (pn := 79) (n := 14) rfl rfl dX3_findFault_78 rfl hr (fun hr => ?_)
  refine mb_nmh hr (fun h108 hr => ?_)
  refine mb_iload (pn := 81) 4 dX3_findFault_79 rfl rfl ?_
  refine mb_sipush (v := 300) (pn := 84) dX3_findFault_81 (by decide) rfl ?_
  refine mb_ic_le (tgt := 94) (pn := 87) dX3_findFault_84 (by decide) rfl hr (fun hr => ?_) (fun hr => ?_)
  · exact mb_lvs [0, 1, 3] rfl (T_X3_findFault_94 hst hg hK9 hr)
  · refine mb_iload_n (pn := 88) 1 dX3_findFault_87 rfl rfl rfl ?_
    refine mb_iconst (v := (-1)) (pn := 89) dX3_findFault_88 (by decide) rfl ?_
    refine mb_ic_ne (tgt := 94) (pn := 92) dX3_findFault_89 (by decide) rfl hr (fun hr => ?_) (fun hr => ?_)
    · exact mb_lvs [0, 1, 3] rfl (T_X3_findFault_94 hst hg hK9 hr)
    · refine mb_iload_n (pn := 93) 2 dX3_findFault_92 rfl rfl rfl ?_
      refine mb_istore_n (pn := 94) (lv2 := [(1, .inl v3), (0, mb_F 5 0 0), (3, .inl v3), (4, .inl v4), (5, .inl v5)]) dX3_findFault_93 rfl (by decide) rfl rfl ?_
      exact mb_lvs [1, 0, 3] rfl (T_X3_findFault_94 hst hg hK9 hr)
def B_X3_findFault_33 (K9 : Int32 → Int32 → mb_AH → Option mb_RS) (v1 : Int32) (v2 : Int32) (v3 : Int32) (h : mb_AH) : Option mb_RS := (mb_cI (F_X3_endOfDigits v2 h) fun y105 h104 => (if y105 = v2 then (some (.inl (some (.inl v2)), h104)) else (mb_cI (F_X3_valueOf v2 y105 h104) fun y107 h106 => (if v2 ≤ v3 then (B_X3_findFault_78 K9 v1 v3 y105 y107 y107 (h106.1 5 0 0 3) h106) else (B_X3_findFault_78 K9 v1 v3 y105 y107 (-y107) (h106.1 5 0 0 3) h106)))))
set_option maxRecDepth 100000 in
set_option maxHeartbeats 4000000 in
theorem T_X3_findFault_33 {l : Launch} {G : mb_G} {res : mb_RS} (hst : l.stackTraces = false) (hg : mb_gok G) {K9 : Int32 → Int32 → mb_AH → Option mb_RS} (hK9 : ∀ (v1z : Int32) (v2z : Int32) (hz : mb_AH), K9 v1z v2z hz = some res → mb_Ev l G RX3 cX3_findFault 6 (some .int) 1 9 [(0, mb_F 5 0 0), (1, .inl v1z), (2, .inl v2z)] [] hz res) {v1 : Int32} {v2 : Int32} {v3 : Int32} {h : mb_AH} (hr : B_X3_findFault_33 K9 v1 v2 v3 h = some res) : mb_Ev l G RX3 cX3_findFault 6 (some .int) 1 33 [(0, mb_F 5 0 0), (1, .inl v1), (2, .inl v2), (3, .inl v3)] [] h res := by
  unfold B_X3_findFault_33 at hr
  refine mb_aload_n (pn := 34) 0 dX3_findFault_33 rfl rfl rfl ?_
  refine mb_iload_n (pn := 35) 2 dX3_findFault_34 rfl rfl rfl ?_
  refine cl_X3_30 (pn := 38) hst hg (Nat.le_of_ble_eq_true rfl) (Nat.le_of_ble_eq_true rfl) dX3_findFault_35 rfl hr (fun y105 h104 hr => ?_)
  refine mb_istore (pn := 40) (lv2 := [(4, .inl y105), (0, mb_F 5 0 0), (1, .inl v1), (2, .inl v2), (3, .inl v3)]) dX3_findFault_38 (by decide) rfl rfl ?_
  refine mb_iload (pn := 42) 0 dX3_findFault_40 rfl rfl ?_
  refine mb_iload_n (pn := 43) 3 dX3_findFault_42 rfl rfl rfl ?_
  refine mb_ic_ne (tgt := 48) (pn := 46) dX3_findFault_43 (by decide) rfl hr (fun hr => ?_) (fun hr => ?_)
  · refine mb_aload_n (pn := 49) 1 dX3_findFault_48 rfl rfl rfl ?_
    refine mb_iload_n (pn := 50) 3 dX3_findFault_49 rfl rfl rfl ?_
    refine mb_iload (pn := 52) 0 dX3_findFault_50 rfl rfl ?_
    refine cl_X3_34 (pn := 55) hst hg (Nat.le_of_ble_eq_true rfl) (Nat.le_of_ble_eq_true rfl) dX3_findFault_52 rfl hr (fun y107 h106 hr => ?_)
    refine mb_istore (pn := 57) (lv2 := [(5, .inl y107), (4, .inl y105), (0, mb_F 5 0 0), (1, .inl v1), (2, .inl v2), (3, .inl v3)]) dX3_findFault_55 (by decide) rfl rfl ?_
    refine mb_aload_n (pn := 58) 2 dX3_findFault_57 rfl rfl rfl ?_
    refine gf_X3_15 (pn := 61) dX3_findFault_58 rfl ?_
    refine mb_aload_n (pn := 62) 2 dX3_findFault_61 rfl rfl rfl ?_
    refine gf_X3_23 (pn := 65) dX3_findFault_62 rfl ?_
    refine mb_iload_n (pn := 66) 4 dX3_findFault_65 rfl rfl rfl ?_
    refine mb_iload_n (pn := 67) 5 dX3_findFault_66 rfl rfl rfl ?_
    refine mb_ic_le (tgt := 76) (pn := 70) dX3_findFault_67 (by decide) rfl hr (fun hr => ?_) (fun hr => ?_)
    · refine mb_iload (pn := 78) 0 dX3_findFault_76 rfl rfl ?_
      exact mb_lvs [2, 3, 5, 1, 0] rfl (T_X3_findFault_78 hst hg hK9 hr)
    · refine mb_iload (pn := 72) 0 dX3_findFault_70 rfl rfl ?_
      refine mb_ineg (pn := 73) dX3_findFault_72 rfl ?_
      refine mb_goto (tgt := 78) dX3_findFault_73 (by decide) ?_
      exact mb_lvs [2, 3, 5, 1, 0] rfl (T_X3_findFault_78 hst hg hK9 hr)
  · refine mb_iload_n (pn := 47) 3 dX3_findFault_46 rfl rfl rfl ?_
    cases hr
    exact mb_iret dX3_findFault_47
def B_X3_findFault_9  : Nat → Int32 → Int32 → mb_AH → Option mb_RS
  | 0, _, _, _ => none
  | n + 1, v1, v2, h => (if 14 ≤ (h.1 5 0 0 3) then (some (.inl (some (.inl (v2 - 1))), h)) else (mb_cI (F_X3_isAt v2 (45 : Int32) h) fun y103 h102 => (if y103 = 0 then (B_X3_findFault_33 (B_X3_findFault_9  n) v1 v2 v2 h102) else (mb_lI (v2 + 1) fun y114 => (B_X3_findFault_33 (B_X3_findFault_9  n) v1 y114 v2 h102)))))
set_option maxRecDepth 100000 in
set_option maxHeartbeats 4000000 in
theorem T_X3_findFault_9 {l : Launch} {G : mb_G} {res : mb_RS} (hst : l.stackTraces = false) (hg : mb_gok G)   : ∀ (n : Nat) (v1 : Int32) (v2 : Int32) (h : mb_AH), B_X3_findFault_9  n v1 v2 h = some res → mb_Ev l G RX3 cX3_findFault 6 (some .int) 1 9 [(0, mb_F 5 0 0), (1, .inl v1), (2, .inl v2)] [] h res := by
  intro n
  induction n with
  | zero => intro v1 v2 h hr; cases hr
  | succ n ih =>
    intro v1 v2 h hr
    rw [B_X3_findFault_9] at hr
    refine mb_aload_n (pn := 10) 0 dX3_findFault_9 rfl rfl rfl ?_
    refine gf_X3_23 (pn := 13) dX3_findFault_10 rfl ?_
    refine mb_bipush (v := 14) (pn := 15) dX3_findFault_13 (by decide) rfl ?_
    refine mb_ic_ge (tgt := 147) (pn := 18) dX3_findFault_15 (by decide) rfl hr (fun hr => ?_) (fun hr => ?_)
    · refine mb_iload_n (pn := 148) 2 dX3_findFault_147 rfl rfl rfl ?_
      refine mb_iconst (v := 1) (pn := 149) dX3_findFault_148 (by decide) rfl ?_
      refine mb_isub (pn := 150) dX3_findFault_149 rfl ?_
      cases hr
      exact mb_iret dX3_findFault_150
    · refine mb_iload_n (pn := 19) 2 dX3_findFault_18 rfl rfl rfl ?_
      refine mb_istore_n (pn := 20) (lv2 := [(3, .inl v2), (0, mb_F 5 0 0), (1, .inl v1), (2, .inl v2)]) dX3_findFault_19 rfl (by decide) rfl rfl ?_
      refine mb_aload_n (pn := 21) 1 dX3_findFault_20 rfl rfl rfl ?_
      refine mb_iload_n (pn := 22) 3 dX3_findFault_21 rfl rfl rfl ?_
      refine mb_bipush (v := 45) (pn := 24) dX3_findFault_22 (by decide) rfl ?_
      refine cl_X3_26 (pn := 27) hst hg (Nat.le_of_ble_eq_true rfl) (Nat.le_of_ble_eq_true rfl) dX3_findFault_24 rfl hr (fun y103 h102 hr => ?_)
      refine mb_if_eq (tgt := 33) (pn := 30) dX3_findFault_27 (by decide) rfl hr (fun hr => ?_) (fun hr => ?_)
      · exact mb_lvs [1, 2, 3, 0] rfl (T_X3_findFault_33 hst hg ih hr)
      · refine mb_nmx hr (fun y114 qy114 hr => ?_)
        refine mb_iinc (v := y114) (pn := 33) (lv2 := [(2, .inl y114), (3, .inl v2), (0, mb_F 5 0 0), (1, .inl v1)]) 3 dX3_findFault_30 rfl (by rw [qy114]; rfl) (by decide) rfl rfl ?_
        exact mb_lvs [2, 3, 0, 1] rfl (T_X3_findFault_33 hst hg ih hr)
def F_X3_findFault  (h : mb_AH) : Option mb_RS := (mb_up (mb_sI h 5 0 0 3 0) fun h101 => (B_X3_findFault_9  mb_fu (-1) 0 h101))
set_option maxRecDepth 100000 in
set_option maxHeartbeats 4000000 in
theorem C_X3_findFault {l : Launch} {G : mb_G} (hst : l.stackTraces = false) (hg : mb_gok G)  {h : mb_AH} {res : mb_RS} (hr : F_X3_findFault  h = some res) : mb_Mt l G yX3_findFault cX3_findFault 6 (some .int) 1 [mb_F 5 0 0] h res := by
  refine mb_entry (own := RX3) (lv := [(0, mb_F 5 0 0)]) (by decide +kernel) rfl (Nat.le_of_ble_eq_true rfl) rfl rfl (fun _ => ?_) hst hg
  unfold F_X3_findFault at hr
  refine mb_iconst (v := (-1)) (pn := 1) dX3_findFault_0 (by decide) rfl ?_
  refine mb_istore_n (pn := 2) (lv2 := [(1, .inl (-1)), (0, mb_F 5 0 0)]) dX3_findFault_1 rfl (by decide) rfl rfl ?_
  refine mb_iconst (v := 0) (pn := 3) dX3_findFault_2 (by decide) rfl ?_
  refine mb_istore_n (pn := 4) (lv2 := [(2, .inl 0), (1, .inl (-1)), (0, mb_F 5 0 0)]) dX3_findFault_3 rfl (by decide) rfl rfl ?_
  refine mb_aload_n (pn := 5) 2 dX3_findFault_4 rfl rfl rfl ?_
  refine mb_iconst (v := 0) (pn := 6) dX3_findFault_5 (by decide) rfl ?_
  refine pf_X3_23 (pn := 9) dX3_findFault_6 rfl hr (fun h101 hr => ?_)
  exact mb_lvs [2, 1, 0] rfl (T_X3_findFault_9 hst hg  mb_fu _ _ _ hr)
