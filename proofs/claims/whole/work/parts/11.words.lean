section MBN
variable {l : Launch} {G : mb_G} {own : String} {cc : ByteArray} {nL : Nat} {ret : Option FieldType} {d pc pn : Nat} {lv : List (Nat × mb_AV)} {st : List mb_AV} {h : mb_AH} {res : mb_RS}
def mb_fu : Nat := 70000
def mb_lI (e : Int32) (K : Int32 → Option mb_RS) : Option mb_RS := K e
def mb_lL (e : Int64) (K : Int64 → Option mb_RS) : Option mb_RS := K e
def mb_up (e : mb_AH) (K : mb_AH → Option mb_RS) : Option mb_RS := K e
theorem mb_nmI {e : Int32} {K : Int32 → Option mb_RS} (hr : mb_lI e K = some res) (kk : ∀ y, K y = some res → mb_Ev l G own cc nL ret d pc lv (.inl y :: st) h res) : mb_Ev l G own cc nL ret d pc lv (.inl e :: st) h res := kk e hr
theorem mb_nmL {e : Int64} {K : Int64 → Option mb_RS} (hr : mb_lL e K = some res) (kk : ∀ y, K y = some res → mb_Ev l G own cc nL ret d pc lv (.inr (.inl y) :: st) h res) : mb_Ev l G own cc nL ret d pc lv (.inr (.inl e) :: st) h res := kk e hr
theorem mb_nmx {e : Int32} {K : Int32 → Option mb_RS} (hr : mb_lI e K = some res) (kk : ∀ y, y = e → K y = some res → mb_Ev l G own cc nL ret d pc lv st h res) : mb_Ev l G own cc nL ret d pc lv st h res := kk e rfl hr
theorem mb_nmh {e : mb_AH} {K : mb_AH → Option mb_RS} (hr : mb_up e K = some res) (kk : ∀ y, K y = some res → mb_Ev l G own cc nL ret d pc lv st y res) : mb_Ev l G own cc nL ret d pc lv st e res := kk e hr
theorem mb_lvs (ks : List Nat) {lv2 : List (Nat × mb_AV)} (hl : ks.filterMap (fun k => lv[k]?) = lv2) (k : mb_Ev l G own cc nL ret d pc lv2 st h res) : mb_Ev l G own cc nL ret d pc lv st h res := by
  have hsub : ∀ q ∈ lv2, q ∈ lv := by
    intro q hq
    rw [← hl] at hq
    obtain ⟨i, -, hi⟩ := List.mem_filterMap.mp hq
    exact List.mem_of_getElem? hi
  intro p e R s m args below meth c H locs ls C hS hw hl2 ol os
  refine k p e R s m args below meth c H locs ls C hS hw ⟨hl2.1, hl2.2.1, fun q hq => ?_⟩ (fun q hq => ol q (hsub q hq)) os
  obtain ⟨q2, hq2, rfl⟩ := List.mem_map.mp hq
  exact hl2.2.2 _ (List.mem_map.mpr ⟨q2, hsub q2 hq2, rfl⟩)
end MBN
theorem wk_X4_18 : Cond.constant RX4 18 (65535) ∈ mb_GW := mb_tb 726 (by decide +kernel) (by decide +kernel)
theorem wf_X4_19 : Cond.fieldLink RX4 19 "MarinaBerths$WinterPlan" "open" "I" ∈ mb_GW := mb_tb 177 (by decide +kernel) (by decide +kernel)
theorem in_X4 : ∀ w ∈ u_ws RX4 TX4 4, w ∈ mb_GW := by
  have e : u_ws RX4 TX4 4 = [Cond.laysFinal RX4 "MarinaBerths$WinterPlan" "wishes" "[I", Cond.laysFinal RX4 "MarinaBerths$WinterPlan" "holders" "[I", Cond.lays RX4 "MarinaBerths$WinterPlan" "open" "I", Cond.lays RX4 "MarinaBerths$WinterPlan" "seen" "I"] := rfl
  rw [e]
  intro w hw
  simp only [List.mem_cons, List.not_mem_nil, or_false] at hw
  rcases hw with rfl | rfl | rfl | rfl
  · exact mb_tb 179 (by decide +kernel) (by decide +kernel)
  · exact mb_tb 181 (by decide +kernel) (by decide +kernel)
  · exact mb_tb 183 (by decide +kernel) (by decide +kernel)
  · exact mb_tb 185 (by decide +kernel) (by decide +kernel)
theorem pf_X4_19 {l : Launch} {G : mb_G} {cc : ByteArray} {nL : Nat} {ret : Option FieldType} {d pc pn : Nat} {lv : List (Nat × mb_AV)} {st : List mb_AV} {h : mb_AH} {res : mb_RS} {a b : Nat} {x : Int32} {K : mb_AH → Option mb_RS} (dg : decode cc pc = .ok (.putfield 19, 3)) (hn : pc + 3 = pn) (hr : mb_up (mb_sI h 4 a b 2 x) K = some res) (kk : ∀ h2, K h2 = some res → mb_Ev l G RX4 cc nL ret d pn lv st h2 res) : mb_Ev l G RX4 cc nL ret d pc lv (.inl x :: mb_F 4 a b :: st) h res := mb_putI (ci := 4) (j := 2) (ty := .int) in_X4 tyX4 tyX4_ok nmX4 rfl (by decide) wf_X4_19 rfl rfl rfl rfl rfl (Nat.le_of_ble_eq_true rfl) rfl dg hn (kk _ hr)
theorem wf_X4_9 : Cond.fieldLink RX4 9 "MarinaBerths$WinterPlan" "wishes" "[I" ∈ mb_GW := mb_tb 175 (by decide +kernel) (by decide +kernel)
theorem gf_X4_9 {l : Launch} {G : mb_G} {cc : ByteArray} {nL : Nat} {ret : Option FieldType} {d pc pn : Nat} {lv : List (Nat × mb_AV)} {st : List mb_AV} {h : mb_AH} {res : mb_RS} {a b : Nat} (dg : decode cc pc = .ok (.getfield 9, 3)) (hn : pc + 3 = pn) (kk : mb_Ev l G RX4 cc nL ret d pn lv (mb_F 14 0 0 :: st) h res) : mb_Ev l G RX4 cc nL ret d pc lv (mb_F 4 a b :: st) h res := mb_get (v := mb_F 14 0 0) (ci := 4) (j := 0) in_X4 rfl (by decide) wf_X4_9 rfl rfl (fun _ => ⟨by decide, by decide⟩) dg hn kk
theorem wf_X4_27 : Cond.fieldLink RX4 27 "MarinaBerths$WinterPlan" "seen" "I" ∈ mb_GW := mb_tb 178 (by decide +kernel) (by decide +kernel)
theorem pf_X4_27 {l : Launch} {G : mb_G} {cc : ByteArray} {nL : Nat} {ret : Option FieldType} {d pc pn : Nat} {lv : List (Nat × mb_AV)} {st : List mb_AV} {h : mb_AH} {res : mb_RS} {a b : Nat} {x : Int32} {K : mb_AH → Option mb_RS} (dg : decode cc pc = .ok (.putfield 27, 3)) (hn : pc + 3 = pn) (hr : mb_up (mb_sI h 4 a b 3 x) K = some res) (kk : ∀ h2, K h2 = some res → mb_Ev l G RX4 cc nL ret d pn lv st h2 res) : mb_Ev l G RX4 cc nL ret d pc lv (.inl x :: mb_F 4 a b :: st) h res := mb_putI (ci := 4) (j := 3) (ty := .int) in_X4 tyX4 tyX4_ok nmX4 rfl (by decide) wf_X4_27 rfl rfl rfl rfl rfl (Nat.le_of_ble_eq_true rfl) rfl dg hn (kk _ hr)
theorem gf_X4_19 {l : Launch} {G : mb_G} {cc : ByteArray} {nL : Nat} {ret : Option FieldType} {d pc pn : Nat} {lv : List (Nat × mb_AV)} {st : List mb_AV} {h : mb_AH} {res : mb_RS} {a b : Nat} (dg : decode cc pc = .ok (.getfield 19, 3)) (hn : pc + 3 = pn) (kk : mb_Ev l G RX4 cc nL ret d pn lv (.inl (h.1 4 a b 2) :: st) h res) : mb_Ev l G RX4 cc nL ret d pc lv (mb_F 4 a b :: st) h res := mb_get (v := .inl (h.1 4 a b 2)) (ci := 4) (j := 2) in_X4 rfl (by decide) wf_X4_19 rfl rfl (fun _ => trivial) dg hn kk
theorem gf_X4_27 {l : Launch} {G : mb_G} {cc : ByteArray} {nL : Nat} {ret : Option FieldType} {d pc pn : Nat} {lv : List (Nat × mb_AV)} {st : List mb_AV} {h : mb_AH} {res : mb_RS} {a b : Nat} (dg : decode cc pc = .ok (.getfield 27, 3)) (hn : pc + 3 = pn) (kk : mb_Ev l G RX4 cc nL ret d pn lv (.inl (h.1 4 a b 3) :: st) h res) : mb_Ev l G RX4 cc nL ret d pc lv (mb_F 4 a b :: st) h res := mb_get (v := .inl (h.1 4 a b 3)) (ci := 4) (j := 3) in_X4 rfl (by decide) wf_X4_27 rfl rfl (fun _ => trivial) dg hn kk
theorem wf_X4_15 : Cond.fieldLink RX4 15 "MarinaBerths$WinterPlan" "holders" "[I" ∈ mb_GW := mb_tb 176 (by decide +kernel) (by decide +kernel)
theorem gf_X4_15 {l : Launch} {G : mb_G} {cc : ByteArray} {nL : Nat} {ret : Option FieldType} {d pc pn : Nat} {lv : List (Nat × mb_AV)} {st : List mb_AV} {h : mb_AH} {res : mb_RS} {a b : Nat} (dg : decode cc pc = .ok (.getfield 15, 3)) (hn : pc + 3 = pn) (kk : mb_Ev l G RX4 cc nL ret d pn lv (mb_F 15 0 0 :: st) h res) : mb_Ev l G RX4 cc nL ret d pc lv (mb_F 4 a b :: st) h res := mb_get (v := mb_F 15 0 0) (ci := 4) (j := 1) in_X4 rfl (by decide) wf_X4_15 rfl rfl (fun _ => ⟨by decide, by decide⟩) dg hn kk
theorem wl_X4_30 : Cond.methodLink RX4 30 yX4_findsBerth ∈ mb_GW := mb_tb 744 (by decide +kernel) (by decide +kernel)
theorem mt_X4_findsBerth : Cond.static yX4_findsBerth ∈ mb_GW := mb_tb 745 (by decide +kernel) (by decide +kernel)
theorem mn_X4 : Cond.initialized RX4 ∈ mb_GW := mb_tb 5 (by decide +kernel) (by decide +kernel)
theorem mc_X4_findsBerth : Cond.code yX4_findsBerth cX4_findsBerth 5 (some .boolean) ∈ mb_GW := mb_tb 746 (by decide +kernel) (by decide +kernel)
theorem wl_X4_23 : Cond.methodLink RX4 23 yX4_mostFrom ∈ mb_GW := mb_tb 740 (by decide +kernel) (by decide +kernel)
theorem mi_X4_mostFrom : Cond.instanceMethod yX4_mostFrom ∈ mb_GW := mb_tb 742 (by decide +kernel) (by decide +kernel)
theorem ms_X4_mostFrom : Cond.selects RX4 yX4_mostFrom yX4_mostFrom ∈ mb_GW := mb_tp 14 (by decide +kernel) (by decide +kernel)
theorem mc_X4_mostFrom : Cond.code yX4_mostFrom cX4_mostFrom 4 (some .int) ∈ mb_GW := mb_tb 743 (by decide +kernel) (by decide +kernel)
theorem wf_X0_7 : Cond.fieldLink RX0 7 "MarinaBerths$Berth" "depth" "I" ∈ mb_GW := mb_tb 38 (by decide +kernel) (by decide +kernel)
theorem in_X0 : ∀ w ∈ u_ws RX0 TX0 4, w ∈ mb_GW := by
  have e : u_ws RX0 TX0 4 = [Cond.lays RX0 "MarinaBerths$Berth" "depth" "I", Cond.lays RX0 "MarinaBerths$Berth" "length" "I", Cond.lays RX0 "MarinaBerths$Berth" "exposed" "Z", Cond.lays RX0 "MarinaBerths$Berth" "rate" "I"] := rfl
  rw [e]
  intro w hw
  simp only [List.mem_cons, List.not_mem_nil, or_false] at hw
  rcases hw with rfl | rfl | rfl | rfl
  · exact mb_tb 50 (by decide +kernel) (by decide +kernel)
  · exact mb_tb 52 (by decide +kernel) (by decide +kernel)
  · exact mb_tb 54 (by decide +kernel) (by decide +kernel)
  · exact mb_tb 56 (by decide +kernel) (by decide +kernel)
theorem pf_X0_7 {l : Launch} {G : mb_G} {cc : ByteArray} {nL : Nat} {ret : Option FieldType} {d pc pn : Nat} {lv : List (Nat × mb_AV)} {st : List mb_AV} {h : mb_AH} {res : mb_RS} {a b : Nat} {x : Int32} {K : mb_AH → Option mb_RS} (dg : decode cc pc = .ok (.putfield 7, 3)) (hn : pc + 3 = pn) (hr : mb_up (mb_sI h 2 a b 0 x) K = some res) (kk : ∀ h2, K h2 = some res → mb_Ev l G RX0 cc nL ret d pn lv st h2 res) : mb_Ev l G RX0 cc nL ret d pc lv (.inl x :: mb_F 2 a b :: st) h res := mb_putI (ci := 0) (j := 0) (ty := .int) in_X0 tyX0 tyX0_ok nmX0 rfl (by decide) wf_X0_7 rfl rfl rfl rfl rfl (Nat.le_of_ble_eq_true rfl) rfl dg hn (kk _ hr)
theorem wf_X0_13 : Cond.fieldLink RX0 13 "MarinaBerths$Berth" "length" "I" ∈ mb_GW := mb_tb 41 (by decide +kernel) (by decide +kernel)
theorem pf_X0_13 {l : Launch} {G : mb_G} {cc : ByteArray} {nL : Nat} {ret : Option FieldType} {d pc pn : Nat} {lv : List (Nat × mb_AV)} {st : List mb_AV} {h : mb_AH} {res : mb_RS} {a b : Nat} {x : Int32} {K : mb_AH → Option mb_RS} (dg : decode cc pc = .ok (.putfield 13, 3)) (hn : pc + 3 = pn) (hr : mb_up (mb_sI h 2 a b 1 x) K = some res) (kk : ∀ h2, K h2 = some res → mb_Ev l G RX0 cc nL ret d pn lv st h2 res) : mb_Ev l G RX0 cc nL ret d pc lv (.inl x :: mb_F 2 a b :: st) h res := mb_putI (ci := 0) (j := 1) (ty := .int) in_X0 tyX0 tyX0_ok nmX0 rfl (by decide) wf_X0_13 rfl rfl rfl rfl rfl (Nat.le_of_ble_eq_true rfl) rfl dg hn (kk _ hr)
theorem wf_X0_16 : Cond.fieldLink RX0 16 "MarinaBerths$Berth" "exposed" "Z" ∈ mb_GW := mb_tb 44 (by decide +kernel) (by decide +kernel)
theorem pf_X0_16 {l : Launch} {G : mb_G} {cc : ByteArray} {nL : Nat} {ret : Option FieldType} {d pc pn : Nat} {lv : List (Nat × mb_AV)} {st : List mb_AV} {h : mb_AH} {res : mb_RS} {a b : Nat} {x : Int32} {K : mb_AH → Option mb_RS} (dg : decode cc pc = .ok (.putfield 16, 3)) (hn : pc + 3 = pn) (hr : mb_gZ x (mb_up (mb_sI h 2 a b 2 x) K) = some res) (kk : ∀ h2, K h2 = some res → mb_Ev l G RX0 cc nL ret d pn lv st h2 res) : mb_Ev l G RX0 cc nL ret d pc lv (.inl x :: mb_F 2 a b :: st) h res := by
  unfold mb_gZ at hr
  by_cases q9 : x = 0 ∨ x = 1
  · rw [if_pos q9] at hr
    exact mb_putI (ci := 0) (j := 2) (ty := .boolean) in_X0 tyX0 tyX0_ok nmX0 rfl (by decide) wf_X0_16 rfl rfl (by rcases q9 with rfl | rfl <;> decide) (by rcases q9 with rfl | rfl <;> decide) rfl (Nat.le_of_ble_eq_true rfl) rfl dg hn (kk _ hr)
  · rw [if_neg q9] at hr; cases hr
theorem wf_X0_20 : Cond.fieldLink RX0 20 "MarinaBerths$Berth" "rate" "I" ∈ mb_GW := mb_tb 47 (by decide +kernel) (by decide +kernel)
theorem pf_X0_20 {l : Launch} {G : mb_G} {cc : ByteArray} {nL : Nat} {ret : Option FieldType} {d pc pn : Nat} {lv : List (Nat × mb_AV)} {st : List mb_AV} {h : mb_AH} {res : mb_RS} {a b : Nat} {x : Int32} {K : mb_AH → Option mb_RS} (dg : decode cc pc = .ok (.putfield 20, 3)) (hn : pc + 3 = pn) (hr : mb_up (mb_sI h 2 a b 3 x) K = some res) (kk : ∀ h2, K h2 = some res → mb_Ev l G RX0 cc nL ret d pn lv st h2 res) : mb_Ev l G RX0 cc nL ret d pc lv (.inl x :: mb_F 2 a b :: st) h res := mb_putI (ci := 0) (j := 3) (ty := .int) in_X0 tyX0 tyX0_ok nmX0 rfl (by decide) wf_X0_20 rfl rfl rfl rfl rfl (Nat.le_of_ble_eq_true rfl) rfl dg hn (kk _ hr)
theorem gf_X0_7 {l : Launch} {G : mb_G} {cc : ByteArray} {nL : Nat} {ret : Option FieldType} {d pc pn : Nat} {lv : List (Nat × mb_AV)} {st : List mb_AV} {h : mb_AH} {res : mb_RS} {a b : Nat} (dg : decode cc pc = .ok (.getfield 7, 3)) (hn : pc + 3 = pn) (kk : mb_Ev l G RX0 cc nL ret d pn lv (.inl (h.1 2 a b 0) :: st) h res) : mb_Ev l G RX0 cc nL ret d pc lv (mb_F 2 a b :: st) h res := mb_get (v := .inl (h.1 2 a b 0)) (ci := 0) (j := 0) in_X0 rfl (by decide) wf_X0_7 rfl rfl (fun _ => trivial) dg hn kk
theorem gf_X0_13 {l : Launch} {G : mb_G} {cc : ByteArray} {nL : Nat} {ret : Option FieldType} {d pc pn : Nat} {lv : List (Nat × mb_AV)} {st : List mb_AV} {h : mb_AH} {res : mb_RS} {a b : Nat} (dg : decode cc pc = .ok (.getfield 13, 3)) (hn : pc + 3 = pn) (kk : mb_Ev l G RX0 cc nL ret d pn lv (.inl (h.1 2 a b 1) :: st) h res) : mb_Ev l G RX0 cc nL ret d pc lv (mb_F 2 a b :: st) h res := mb_get (v := .inl (h.1 2 a b 1)) (ci := 0) (j := 1) in_X0 rfl (by decide) wf_X0_13 rfl rfl (fun _ => trivial) dg hn kk
theorem gf_X0_16 {l : Launch} {G : mb_G} {cc : ByteArray} {nL : Nat} {ret : Option FieldType} {d pc pn : Nat} {lv : List (Nat × mb_AV)} {st : List mb_AV} {h : mb_AH} {res : mb_RS} {a b : Nat} (dg : decode cc pc = .ok (.getfield 16, 3)) (hn : pc + 3 = pn) (kk : mb_Ev l G RX0 cc nL ret d pn lv (.inl (h.1 2 a b 2) :: st) h res) : mb_Ev l G RX0 cc nL ret d pc lv (mb_F 2 a b :: st) h res := mb_get (v := .inl (h.1 2 a b 2)) (ci := 0) (j := 2) in_X0 rfl (by decide) wf_X0_16 rfl rfl (fun _ => trivial) dg hn kk
theorem gf_X0_20 {l : Launch} {G : mb_G} {cc : ByteArray} {nL : Nat} {ret : Option FieldType} {d pc pn : Nat} {lv : List (Nat × mb_AV)} {st : List mb_AV} {h : mb_AH} {res : mb_RS} {a b : Nat} (dg : decode cc pc = .ok (.getfield 20, 3)) (hn : pc + 3 = pn) (kk : mb_Ev l G RX0 cc nL ret d pn lv (.inl (h.1 2 a b 3) :: st) h res) : mb_Ev l G RX0 cc nL ret d pc lv (mb_F 2 a b :: st) h res := mb_get (v := .inl (h.1 2 a b 3)) (ci := 0) (j := 3) in_X0 rfl (by decide) wf_X0_20 rfl rfl (fun _ => trivial) dg hn kk
theorem wl_X0_23 : Cond.methodLink RX0 23 yX0_become ∈ mb_GW := mb_tb 507 (by decide +kernel) (by decide +kernel)
theorem mi_X0_become : Cond.instanceMethod yX0_become ∈ mb_GW := mb_tb 508 (by decide +kernel) (by decide +kernel)
theorem ms_X0_become : Cond.selects RX0 yX0_become yX0_become ∈ mb_GW := mb_tb 509 (by decide +kernel) (by decide +kernel)
theorem mn_X0 : Cond.initialized RX0 ∈ mb_GW := mb_tb 3 (by decide +kernel) (by decide +kernel)
theorem mc_X0_become : Cond.code yX0_become cX0_become 5 none ∈ mb_GW := mb_tb 510 (by decide +kernel) (by decide +kernel)
theorem wf_X1_9 : Cond.fieldLink RX1 9 "MarinaBerths$Boat" "length" "I" ∈ mb_GW := mb_tb 65 (by decide +kernel) (by decide +kernel)
theorem in_X1 : ∀ w ∈ u_ws RX1 TX1 9, w ∈ mb_GW := by
  have e : u_ws RX1 TX1 9 = [Cond.lays RX1 "MarinaBerths$Boat" "length" "I", Cond.lays RX1 "MarinaBerths$Boat" "draft" "I", Cond.lays RX1 "MarinaBerths$Boat" "bonus" "I", Cond.lays RX1 "MarinaBerths$Boat" "state" "I", Cond.lays RX1 "MarinaBerths$Boat" "berth" "I", Cond.lays RX1 "MarinaBerths$Boat" "home" "I", Cond.lays RX1 "MarinaBerths$Boat" "owes" "I", Cond.lays RX1 "MarinaBerths$Boat" "waitsSince" "I", Cond.lays RX1 "MarinaBerths$Boat" "turn" "I"] := rfl
  rw [e]
  intro w hw
  simp only [List.mem_cons, List.not_mem_nil, or_false] at hw
  rcases hw with rfl | rfl | rfl | rfl | rfl | rfl | rfl | rfl | rfl
  · exact mb_tb 90 (by decide +kernel) (by decide +kernel)
  · exact mb_tb 92 (by decide +kernel) (by decide +kernel)
  · exact mb_tb 94 (by decide +kernel) (by decide +kernel)
  · exact mb_tb 96 (by decide +kernel) (by decide +kernel)
  · exact mb_tb 98 (by decide +kernel) (by decide +kernel)
  · exact mb_tb 100 (by decide +kernel) (by decide +kernel)
  · exact mb_tb 102 (by decide +kernel) (by decide +kernel)
  · exact mb_tb 104 (by decide +kernel) (by decide +kernel)
  · exact mb_tb 106 (by decide +kernel) (by decide +kernel)
theorem pf_X1_9 {l : Launch} {G : mb_G} {cc : ByteArray} {nL : Nat} {ret : Option FieldType} {d pc pn : Nat} {lv : List (Nat × mb_AV)} {st : List mb_AV} {h : mb_AH} {res : mb_RS} {a b : Nat} {x : Int32} {K : mb_AH → Option mb_RS} (dg : decode cc pc = .ok (.putfield 9, 3)) (hn : pc + 3 = pn) (hr : mb_up (mb_sI h 3 a b 0 x) K = some res) (kk : ∀ h2, K h2 = some res → mb_Ev l G RX1 cc nL ret d pn lv st h2 res) : mb_Ev l G RX1 cc nL ret d pc lv (.inl x :: mb_F 3 a b :: st) h res := mb_putI (ci := 1) (j := 0) (ty := .int) in_X1 tyX1 tyX1_ok nmX1 rfl (by decide) wf_X1_9 rfl rfl rfl rfl rfl (Nat.le_of_ble_eq_true rfl) rfl dg hn (kk _ hr)
theorem wf_X1_15 : Cond.fieldLink RX1 15 "MarinaBerths$Boat" "draft" "I" ∈ mb_GW := mb_tb 68 (by decide +kernel) (by decide +kernel)
theorem pf_X1_15 {l : Launch} {G : mb_G} {cc : ByteArray} {nL : Nat} {ret : Option FieldType} {d pc pn : Nat} {lv : List (Nat × mb_AV)} {st : List mb_AV} {h : mb_AH} {res : mb_RS} {a b : Nat} {x : Int32} {K : mb_AH → Option mb_RS} (dg : decode cc pc = .ok (.putfield 15, 3)) (hn : pc + 3 = pn) (hr : mb_up (mb_sI h 3 a b 1 x) K = some res) (kk : ∀ h2, K h2 = some res → mb_Ev l G RX1 cc nL ret d pn lv st h2 res) : mb_Ev l G RX1 cc nL ret d pc lv (.inl x :: mb_F 3 a b :: st) h res := mb_putI (ci := 1) (j := 1) (ty := .int) in_X1 tyX1 tyX1_ok nmX1 rfl (by decide) wf_X1_15 rfl rfl rfl rfl rfl (Nat.le_of_ble_eq_true rfl) rfl dg hn (kk _ hr)
theorem wf_X1_18 : Cond.fieldLink RX1 18 "MarinaBerths$Boat" "bonus" "I" ∈ mb_GW := mb_tb 71 (by decide +kernel) (by decide +kernel)
theorem pf_X1_18 {l : Launch} {G : mb_G} {cc : ByteArray} {nL : Nat} {ret : Option FieldType} {d pc pn : Nat} {lv : List (Nat × mb_AV)} {st : List mb_AV} {h : mb_AH} {res : mb_RS} {a b : Nat} {x : Int32} {K : mb_AH → Option mb_RS} (dg : decode cc pc = .ok (.putfield 18, 3)) (hn : pc + 3 = pn) (hr : mb_up (mb_sI h 3 a b 2 x) K = some res) (kk : ∀ h2, K h2 = some res → mb_Ev l G RX1 cc nL ret d pn lv st h2 res) : mb_Ev l G RX1 cc nL ret d pc lv (.inl x :: mb_F 3 a b :: st) h res := mb_putI (ci := 1) (j := 2) (ty := .int) in_X1 tyX1 tyX1_ok nmX1 rfl (by decide) wf_X1_18 rfl rfl rfl rfl rfl (Nat.le_of_ble_eq_true rfl) rfl dg hn (kk _ hr)
theorem wf_X1_21 : Cond.fieldLink RX1 21 "MarinaBerths$Boat" "owes" "I" ∈ mb_GW := mb_tb 83 (by decide +kernel) (by decide +kernel)
theorem pf_X1_21 {l : Launch} {G : mb_G} {cc : ByteArray} {nL : Nat} {ret : Option FieldType} {d pc pn : Nat} {lv : List (Nat × mb_AV)} {st : List mb_AV} {h : mb_AH} {res : mb_RS} {a b : Nat} {x : Int32} {K : mb_AH → Option mb_RS} (dg : decode cc pc = .ok (.putfield 21, 3)) (hn : pc + 3 = pn) (hr : mb_up (mb_sI h 3 a b 6 x) K = some res) (kk : ∀ h2, K h2 = some res → mb_Ev l G RX1 cc nL ret d pn lv st h2 res) : mb_Ev l G RX1 cc nL ret d pc lv (.inl x :: mb_F 3 a b :: st) h res := mb_putI (ci := 1) (j := 6) (ty := .int) in_X1 tyX1 tyX1_ok nmX1 rfl (by decide) wf_X1_21 rfl rfl rfl rfl rfl (Nat.le_of_ble_eq_true rfl) rfl dg hn (kk _ hr)
theorem wf_X1_28 : Cond.fieldLink RX1 28 "MarinaBerths$Boat" "state" "I" ∈ mb_GW := mb_tb 74 (by decide +kernel) (by decide +kernel)
theorem pf_X1_28 {l : Launch} {G : mb_G} {cc : ByteArray} {nL : Nat} {ret : Option FieldType} {d pc pn : Nat} {lv : List (Nat × mb_AV)} {st : List mb_AV} {h : mb_AH} {res : mb_RS} {a b : Nat} {x : Int32} {K : mb_AH → Option mb_RS} (dg : decode cc pc = .ok (.putfield 28, 3)) (hn : pc + 3 = pn) (hr : mb_up (mb_sI h 3 a b 3 x) K = some res) (kk : ∀ h2, K h2 = some res → mb_Ev l G RX1 cc nL ret d pn lv st h2 res) : mb_Ev l G RX1 cc nL ret d pc lv (.inl x :: mb_F 3 a b :: st) h res := mb_putI (ci := 1) (j := 3) (ty := .int) in_X1 tyX1 tyX1_ok nmX1 rfl (by decide) wf_X1_28 rfl rfl rfl rfl rfl (Nat.le_of_ble_eq_true rfl) rfl dg hn (kk _ hr)
theorem wf_X1_31 : Cond.fieldLink RX1 31 "MarinaBerths$Boat" "berth" "I" ∈ mb_GW := mb_tb 77 (by decide +kernel) (by decide +kernel)
theorem pf_X1_31 {l : Launch} {G : mb_G} {cc : ByteArray} {nL : Nat} {ret : Option FieldType} {d pc pn : Nat} {lv : List (Nat × mb_AV)} {st : List mb_AV} {h : mb_AH} {res : mb_RS} {a b : Nat} {x : Int32} {K : mb_AH → Option mb_RS} (dg : decode cc pc = .ok (.putfield 31, 3)) (hn : pc + 3 = pn) (hr : mb_up (mb_sI h 3 a b 4 x) K = some res) (kk : ∀ h2, K h2 = some res → mb_Ev l G RX1 cc nL ret d pn lv st h2 res) : mb_Ev l G RX1 cc nL ret d pc lv (.inl x :: mb_F 3 a b :: st) h res := mb_putI (ci := 1) (j := 4) (ty := .int) in_X1 tyX1 tyX1_ok nmX1 rfl (by decide) wf_X1_31 rfl rfl rfl rfl rfl (Nat.le_of_ble_eq_true rfl) rfl dg hn (kk _ hr)
theorem wl_X1_43 : Cond.methodLink RX1 43 yX1_move ∈ mb_GW := mb_tb 577 (by decide +kernel) (by decide +kernel)
theorem mi_X1_move : Cond.instanceMethod yX1_move ∈ mb_GW := mb_tb 578 (by decide +kernel) (by decide +kernel)
theorem ms_X1_move : Cond.selects RX1 yX1_move yX1_move ∈ mb_GW := mb_tb 579 (by decide +kernel) (by decide +kernel)
theorem mn_X1 : Cond.initialized RX1 ∈ mb_GW := mb_tb 4 (by decide +kernel) (by decide +kernel)
theorem mc_X1_move : Cond.code yX1_move cX1_move 3 none ∈ mb_GW := mb_tb 580 (by decide +kernel) (by decide +kernel)
theorem wf_X1_34 : Cond.fieldLink RX1 34 "MarinaBerths$Boat" "home" "I" ∈ mb_GW := mb_tb 80 (by decide +kernel) (by decide +kernel)
theorem pf_X1_34 {l : Launch} {G : mb_G} {cc : ByteArray} {nL : Nat} {ret : Option FieldType} {d pc pn : Nat} {lv : List (Nat × mb_AV)} {st : List mb_AV} {h : mb_AH} {res : mb_RS} {a b : Nat} {x : Int32} {K : mb_AH → Option mb_RS} (dg : decode cc pc = .ok (.putfield 34, 3)) (hn : pc + 3 = pn) (hr : mb_up (mb_sI h 3 a b 5 x) K = some res) (kk : ∀ h2, K h2 = some res → mb_Ev l G RX1 cc nL ret d pn lv st h2 res) : mb_Ev l G RX1 cc nL ret d pc lv (.inl x :: mb_F 3 a b :: st) h res := mb_putI (ci := 1) (j := 5) (ty := .int) in_X1 tyX1 tyX1_ok nmX1 rfl (by decide) wf_X1_34 rfl rfl rfl rfl rfl (Nat.le_of_ble_eq_true rfl) rfl dg hn (kk _ hr)
theorem wl_X1_24 : Cond.methodLink RX1 24 yX1_moveForGood ∈ mb_GW := mb_tb 573 (by decide +kernel) (by decide +kernel)
theorem mi_X1_moveForGood : Cond.instanceMethod yX1_moveForGood ∈ mb_GW := mb_tb 574 (by decide +kernel) (by decide +kernel)
theorem ms_X1_moveForGood : Cond.selects RX1 yX1_moveForGood yX1_moveForGood ∈ mb_GW := mb_tb 575 (by decide +kernel) (by decide +kernel)
theorem mc_X1_moveForGood : Cond.code yX1_moveForGood cX1_moveForGood 3 none ∈ mb_GW := mb_tb 576 (by decide +kernel) (by decide +kernel)
theorem gf_X1_9 {l : Launch} {G : mb_G} {cc : ByteArray} {nL : Nat} {ret : Option FieldType} {d pc pn : Nat} {lv : List (Nat × mb_AV)} {st : List mb_AV} {h : mb_AH} {res : mb_RS} {a b : Nat} (dg : decode cc pc = .ok (.getfield 9, 3)) (hn : pc + 3 = pn) (kk : mb_Ev l G RX1 cc nL ret d pn lv (.inl (h.1 3 a b 0) :: st) h res) : mb_Ev l G RX1 cc nL ret d pc lv (mb_F 3 a b :: st) h res := mb_get (v := .inl (h.1 3 a b 0)) (ci := 1) (j := 0) in_X1 rfl (by decide) wf_X1_9 rfl rfl (fun _ => trivial) dg hn kk
theorem gf_X1_15 {l : Launch} {G : mb_G} {cc : ByteArray} {nL : Nat} {ret : Option FieldType} {d pc pn : Nat} {lv : List (Nat × mb_AV)} {st : List mb_AV} {h : mb_AH} {res : mb_RS} {a b : Nat} (dg : decode cc pc = .ok (.getfield 15, 3)) (hn : pc + 3 = pn) (kk : mb_Ev l G RX1 cc nL ret d pn lv (.inl (h.1 3 a b 1) :: st) h res) : mb_Ev l G RX1 cc nL ret d pc lv (mb_F 3 a b :: st) h res := mb_get (v := .inl (h.1 3 a b 1)) (ci := 1) (j := 1) in_X1 rfl (by decide) wf_X1_15 rfl rfl (fun _ => trivial) dg hn kk
theorem gf_X1_18 {l : Launch} {G : mb_G} {cc : ByteArray} {nL : Nat} {ret : Option FieldType} {d pc pn : Nat} {lv : List (Nat × mb_AV)} {st : List mb_AV} {h : mb_AH} {res : mb_RS} {a b : Nat} (dg : decode cc pc = .ok (.getfield 18, 3)) (hn : pc + 3 = pn) (kk : mb_Ev l G RX1 cc nL ret d pn lv (.inl (h.1 3 a b 2) :: st) h res) : mb_Ev l G RX1 cc nL ret d pc lv (mb_F 3 a b :: st) h res := mb_get (v := .inl (h.1 3 a b 2)) (ci := 1) (j := 2) in_X1 rfl (by decide) wf_X1_18 rfl rfl (fun _ => trivial) dg hn kk
theorem gf_X1_28 {l : Launch} {G : mb_G} {cc : ByteArray} {nL : Nat} {ret : Option FieldType} {d pc pn : Nat} {lv : List (Nat × mb_AV)} {st : List mb_AV} {h : mb_AH} {res : mb_RS} {a b : Nat} (dg : decode cc pc = .ok (.getfield 28, 3)) (hn : pc + 3 = pn) (kk : mb_Ev l G RX1 cc nL ret d pn lv (.inl (h.1 3 a b 3) :: st) h res) : mb_Ev l G RX1 cc nL ret d pc lv (mb_F 3 a b :: st) h res := mb_get (v := .inl (h.1 3 a b 3)) (ci := 1) (j := 3) in_X1 rfl (by decide) wf_X1_28 rfl rfl (fun _ => trivial) dg hn kk
theorem gf_X1_31 {l : Launch} {G : mb_G} {cc : ByteArray} {nL : Nat} {ret : Option FieldType} {d pc pn : Nat} {lv : List (Nat × mb_AV)} {st : List mb_AV} {h : mb_AH} {res : mb_RS} {a b : Nat} (dg : decode cc pc = .ok (.getfield 31, 3)) (hn : pc + 3 = pn) (kk : mb_Ev l G RX1 cc nL ret d pn lv (.inl (h.1 3 a b 4) :: st) h res) : mb_Ev l G RX1 cc nL ret d pc lv (mb_F 3 a b :: st) h res := mb_get (v := .inl (h.1 3 a b 4)) (ci := 1) (j := 4) in_X1 rfl (by decide) wf_X1_31 rfl rfl (fun _ => trivial) dg hn kk
theorem gf_X1_34 {l : Launch} {G : mb_G} {cc : ByteArray} {nL : Nat} {ret : Option FieldType} {d pc pn : Nat} {lv : List (Nat × mb_AV)} {st : List mb_AV} {h : mb_AH} {res : mb_RS} {a b : Nat} (dg : decode cc pc = .ok (.getfield 34, 3)) (hn : pc + 3 = pn) (kk : mb_Ev l G RX1 cc nL ret d pn lv (.inl (h.1 3 a b 5) :: st) h res) : mb_Ev l G RX1 cc nL ret d pc lv (mb_F 3 a b :: st) h res := mb_get (v := .inl (h.1 3 a b 5)) (ci := 1) (j := 5) in_X1 rfl (by decide) wf_X1_34 rfl rfl (fun _ => trivial) dg hn kk
theorem gf_X1_21 {l : Launch} {G : mb_G} {cc : ByteArray} {nL : Nat} {ret : Option FieldType} {d pc pn : Nat} {lv : List (Nat × mb_AV)} {st : List mb_AV} {h : mb_AH} {res : mb_RS} {a b : Nat} (dg : decode cc pc = .ok (.getfield 21, 3)) (hn : pc + 3 = pn) (kk : mb_Ev l G RX1 cc nL ret d pn lv (.inl (h.1 3 a b 6) :: st) h res) : mb_Ev l G RX1 cc nL ret d pc lv (mb_F 3 a b :: st) h res := mb_get (v := .inl (h.1 3 a b 6)) (ci := 1) (j := 6) in_X1 rfl (by decide) wf_X1_21 rfl rfl (fun _ => trivial) dg hn kk
theorem wf_X1_37 : Cond.fieldLink RX1 37 "MarinaBerths$Boat" "waitsSince" "I" ∈ mb_GW := mb_tb 86 (by decide +kernel) (by decide +kernel)
theorem gf_X1_37 {l : Launch} {G : mb_G} {cc : ByteArray} {nL : Nat} {ret : Option FieldType} {d pc pn : Nat} {lv : List (Nat × mb_AV)} {st : List mb_AV} {h : mb_AH} {res : mb_RS} {a b : Nat} (dg : decode cc pc = .ok (.getfield 37, 3)) (hn : pc + 3 = pn) (kk : mb_Ev l G RX1 cc nL ret d pn lv (.inl (h.1 3 a b 7) :: st) h res) : mb_Ev l G RX1 cc nL ret d pc lv (mb_F 3 a b :: st) h res := mb_get (v := .inl (h.1 3 a b 7)) (ci := 1) (j := 7) in_X1 rfl (by decide) wf_X1_37 rfl rfl (fun _ => trivial) dg hn kk
theorem pf_X1_37 {l : Launch} {G : mb_G} {cc : ByteArray} {nL : Nat} {ret : Option FieldType} {d pc pn : Nat} {lv : List (Nat × mb_AV)} {st : List mb_AV} {h : mb_AH} {res : mb_RS} {a b : Nat} {x : Int32} {K : mb_AH → Option mb_RS} (dg : decode cc pc = .ok (.putfield 37, 3)) (hn : pc + 3 = pn) (hr : mb_up (mb_sI h 3 a b 7 x) K = some res) (kk : ∀ h2, K h2 = some res → mb_Ev l G RX1 cc nL ret d pn lv st h2 res) : mb_Ev l G RX1 cc nL ret d pc lv (.inl x :: mb_F 3 a b :: st) h res := mb_putI (ci := 1) (j := 7) (ty := .int) in_X1 tyX1 tyX1_ok nmX1 rfl (by decide) wf_X1_37 rfl rfl rfl rfl rfl (Nat.le_of_ble_eq_true rfl) rfl dg hn (kk _ hr)
theorem wf_X1_40 : Cond.fieldLink RX1 40 "MarinaBerths$Boat" "turn" "I" ∈ mb_GW := mb_tb 88 (by decide +kernel) (by decide +kernel)
theorem gf_X1_40 {l : Launch} {G : mb_G} {cc : ByteArray} {nL : Nat} {ret : Option FieldType} {d pc pn : Nat} {lv : List (Nat × mb_AV)} {st : List mb_AV} {h : mb_AH} {res : mb_RS} {a b : Nat} (dg : decode cc pc = .ok (.getfield 40, 3)) (hn : pc + 3 = pn) (kk : mb_Ev l G RX1 cc nL ret d pn lv (.inl (h.1 3 a b 8) :: st) h res) : mb_Ev l G RX1 cc nL ret d pc lv (mb_F 3 a b :: st) h res := mb_get (v := .inl (h.1 3 a b 8)) (ci := 1) (j := 8) in_X1 rfl (by decide) wf_X1_40 rfl rfl (fun _ => trivial) dg hn kk
theorem pf_X1_40 {l : Launch} {G : mb_G} {cc : ByteArray} {nL : Nat} {ret : Option FieldType} {d pc pn : Nat} {lv : List (Nat × mb_AV)} {st : List mb_AV} {h : mb_AH} {res : mb_RS} {a b : Nat} {x : Int32} {K : mb_AH → Option mb_RS} (dg : decode cc pc = .ok (.putfield 40, 3)) (hn : pc + 3 = pn) (hr : mb_up (mb_sI h 3 a b 8 x) K = some res) (kk : ∀ h2, K h2 = some res → mb_Ev l G RX1 cc nL ret d pn lv st h2 res) : mb_Ev l G RX1 cc nL ret d pc lv (.inl x :: mb_F 3 a b :: st) h res := mb_putI (ci := 1) (j := 8) (ty := .int) in_X1 tyX1 tyX1_ok nmX1 rfl (by decide) wf_X1_40 rfl rfl rfl rfl rfl (Nat.le_of_ble_eq_true rfl) rfl dg hn (kk _ hr)
theorem wk_X1_46 : Cond.constantLong RX1 46 (2147483647) ∈ mb_GW := mb_tb 717 (by decide +kernel) (by decide +kernel)
theorem wf_X3_9 : Cond.fieldLink RX3 9 "MarinaBerths$TableText" "signs" "[C" ∈ mb_GW := mb_tb 194 (by decide +kernel) (by decide +kernel)
theorem in_X3 : ∀ w ∈ u_ws RX3 TX3 4, w ∈ mb_GW := by
  have e : u_ws RX3 TX3 4 = [Cond.laysFinal RX3 "MarinaBerths$TableText" "signs" "[C", Cond.lays RX3 "MarinaBerths$TableText" "length" "I", Cond.laysFinal RX3 "MarinaBerths$TableText" "numbers" "[I", Cond.lays RX3 "MarinaBerths$TableText" "count" "I"] := rfl
  rw [e]
  intro w hw
  simp only [List.mem_cons, List.not_mem_nil, or_false] at hw
  rcases hw with rfl | rfl | rfl | rfl
  · exact mb_tb 201 (by decide +kernel) (by decide +kernel)
  · exact mb_tb 203 (by decide +kernel) (by decide +kernel)
  · exact mb_tb 205 (by decide +kernel) (by decide +kernel)
  · exact mb_tb 207 (by decide +kernel) (by decide +kernel)
theorem gf_X3_9 {l : Launch} {G : mb_G} {cc : ByteArray} {nL : Nat} {ret : Option FieldType} {d pc pn : Nat} {lv : List (Nat × mb_AV)} {st : List mb_AV} {h : mb_AH} {res : mb_RS} {a b : Nat} (dg : decode cc pc = .ok (.getfield 9, 3)) (hn : pc + 3 = pn) (kk : mb_Ev l G RX3 cc nL ret d pn lv (mb_F 16 0 0 :: st) h res) : mb_Ev l G RX3 cc nL ret d pc lv (mb_F 5 a b :: st) h res := mb_get (v := mb_F 16 0 0) (ci := 3) (j := 0) in_X3 rfl (by decide) wf_X3_9 rfl rfl (fun _ => ⟨by decide, by decide⟩) dg hn kk
theorem wf_X3_19 : Cond.fieldLink RX3 19 "MarinaBerths$TableText" "length" "I" ∈ mb_GW := mb_tb 195 (by decide +kernel) (by decide +kernel)
theorem gf_X3_19 {l : Launch} {G : mb_G} {cc : ByteArray} {nL : Nat} {ret : Option FieldType} {d pc pn : Nat} {lv : List (Nat × mb_AV)} {st : List mb_AV} {h : mb_AH} {res : mb_RS} {a b : Nat} (dg : decode cc pc = .ok (.getfield 19, 3)) (hn : pc + 3 = pn) (kk : mb_Ev l G RX3 cc nL ret d pn lv (.inl (h.1 5 a b 1) :: st) h res) : mb_Ev l G RX3 cc nL ret d pc lv (mb_F 5 a b :: st) h res := mb_get (v := .inl (h.1 5 a b 1)) (ci := 3) (j := 1) in_X3 rfl (by decide) wf_X3_19 rfl rfl (fun _ => trivial) dg hn kk
theorem pf_X3_19 {l : Launch} {G : mb_G} {cc : ByteArray} {nL : Nat} {ret : Option FieldType} {d pc pn : Nat} {lv : List (Nat × mb_AV)} {st : List mb_AV} {h : mb_AH} {res : mb_RS} {a b : Nat} {x : Int32} {K : mb_AH → Option mb_RS} (dg : decode cc pc = .ok (.putfield 19, 3)) (hn : pc + 3 = pn) (hr : mb_up (mb_sI h 5 a b 1 x) K = some res) (kk : ∀ h2, K h2 = some res → mb_Ev l G RX3 cc nL ret d pn lv st h2 res) : mb_Ev l G RX3 cc nL ret d pc lv (.inl x :: mb_F 5 a b :: st) h res := mb_putI (ci := 3) (j := 1) (ty := .int) in_X3 tyX3 tyX3_ok nmX3 rfl (by decide) wf_X3_19 rfl rfl rfl rfl rfl (Nat.le_of_ble_eq_true rfl) rfl dg hn (kk _ hr)
theorem wf_X3_23 : Cond.fieldLink RX3 23 "MarinaBerths$TableText" "count" "I" ∈ mb_GW := mb_tb 200 (by decide +kernel) (by decide +kernel)
theorem pf_X3_23 {l : Launch} {G : mb_G} {cc : ByteArray} {nL : Nat} {ret : Option FieldType} {d pc pn : Nat} {lv : List (Nat × mb_AV)} {st : List mb_AV} {h : mb_AH} {res : mb_RS} {a b : Nat} {x : Int32} {K : mb_AH → Option mb_RS} (dg : decode cc pc = .ok (.putfield 23, 3)) (hn : pc + 3 = pn) (hr : mb_up (mb_sI h 5 a b 3 x) K = some res) (kk : ∀ h2, K h2 = some res → mb_Ev l G RX3 cc nL ret d pn lv st h2 res) : mb_Ev l G RX3 cc nL ret d pc lv (.inl x :: mb_F 5 a b :: st) h res := mb_putI (ci := 3) (j := 3) (ty := .int) in_X3 tyX3 tyX3_ok nmX3 rfl (by decide) wf_X3_23 rfl rfl rfl rfl rfl (Nat.le_of_ble_eq_true rfl) rfl dg hn (kk _ hr)
theorem gf_X3_23 {l : Launch} {G : mb_G} {cc : ByteArray} {nL : Nat} {ret : Option FieldType} {d pc pn : Nat} {lv : List (Nat × mb_AV)} {st : List mb_AV} {h : mb_AH} {res : mb_RS} {a b : Nat} (dg : decode cc pc = .ok (.getfield 23, 3)) (hn : pc + 3 = pn) (kk : mb_Ev l G RX3 cc nL ret d pn lv (.inl (h.1 5 a b 3) :: st) h res) : mb_Ev l G RX3 cc nL ret d pc lv (mb_F 5 a b :: st) h res := mb_get (v := .inl (h.1 5 a b 3)) (ci := 3) (j := 3) in_X3 rfl (by decide) wf_X3_23 rfl rfl (fun _ => trivial) dg hn kk
theorem wl_X3_26 : Cond.methodLink RX3 26 yX3_isAt ∈ mb_GW := mb_tb 289 (by decide +kernel) (by decide +kernel)
theorem mi_X3_isAt : Cond.instanceMethod yX3_isAt ∈ mb_GW := mb_tb 291 (by decide +kernel) (by decide +kernel)
theorem ms_X3_isAt : Cond.selects RX3 yX3_isAt yX3_isAt ∈ mb_GW := mb_tp 0 (by decide +kernel) (by decide +kernel)
theorem mn_X3 : Cond.initialized RX3 ∈ mb_GW := mb_tb 6 (by decide +kernel) (by decide +kernel)
theorem mc_X3_isAt : Cond.code yX3_isAt cX3_isAt 3 (some .boolean) ∈ mb_GW := mb_tb 292 (by decide +kernel) (by decide +kernel)
theorem wl_X3_30 : Cond.methodLink RX3 30 yX3_endOfDigits ∈ mb_GW := mb_tb 293 (by decide +kernel) (by decide +kernel)
theorem mi_X3_endOfDigits : Cond.instanceMethod yX3_endOfDigits ∈ mb_GW := mb_tb 295 (by decide +kernel) (by decide +kernel)
theorem ms_X3_endOfDigits : Cond.selects RX3 yX3_endOfDigits yX3_endOfDigits ∈ mb_GW := mb_tp 1 (by decide +kernel) (by decide +kernel)
theorem mc_X3_endOfDigits : Cond.code yX3_endOfDigits cX3_endOfDigits 3 (some .int) ∈ mb_GW := mb_tb 296 (by decide +kernel) (by decide +kernel)
theorem wl_X3_34 : Cond.methodLink RX3 34 yX3_valueOf ∈ mb_GW := mb_tb 297 (by decide +kernel) (by decide +kernel)
theorem mi_X3_valueOf : Cond.instanceMethod yX3_valueOf ∈ mb_GW := mb_tb 299 (by decide +kernel) (by decide +kernel)
theorem ms_X3_valueOf : Cond.selects RX3 yX3_valueOf yX3_valueOf ∈ mb_GW := mb_tp 2 (by decide +kernel) (by decide +kernel)
theorem mc_X3_valueOf : Cond.code yX3_valueOf cX3_valueOf 5 (some .int) ∈ mb_GW := mb_tb 300 (by decide +kernel) (by decide +kernel)
theorem wf_X3_15 : Cond.fieldLink RX3 15 "MarinaBerths$TableText" "numbers" "[I" ∈ mb_GW := mb_tb 197 (by decide +kernel) (by decide +kernel)
theorem gf_X3_15 {l : Launch} {G : mb_G} {cc : ByteArray} {nL : Nat} {ret : Option FieldType} {d pc pn : Nat} {lv : List (Nat × mb_AV)} {st : List mb_AV} {h : mb_AH} {res : mb_RS} {a b : Nat} (dg : decode cc pc = .ok (.getfield 15, 3)) (hn : pc + 3 = pn) (kk : mb_Ev l G RX3 cc nL ret d pn lv (mb_F 17 0 0 :: st) h res) : mb_Ev l G RX3 cc nL ret d pc lv (mb_F 5 a b :: st) h res := mb_get (v := mb_F 17 0 0) (ci := 3) (j := 2) in_X3 rfl (by decide) wf_X3_15 rfl rfl (fun _ => ⟨by decide, by decide⟩) dg hn kk
theorem wf_X2_42 : Cond.fieldLink RX2 42 "MarinaBerths$Marina" "berthCount" "I" ∈ mb_GW := mb_tb 111 (by decide +kernel) (by decide +kernel)
theorem in_X2 : ∀ w ∈ u_ws RX2 TX2 15, w ∈ mb_GW := by
  have e : u_ws RX2 TX2 15 = [Cond.laysFinal RX2 "MarinaBerths$Marina" "berths" "[LMarinaBerths$Berth;", Cond.lays RX2 "MarinaBerths$Marina" "berthCount" "I", Cond.laysFinal RX2 "MarinaBerths$Marina" "boats" "[LMarinaBerths$Boat;", Cond.lays RX2 "MarinaBerths$Marina" "boatCount" "I", Cond.laysFinal RX2 "MarinaBerths$Marina" "lows" "[I", Cond.lays RX2 "MarinaBerths$Marina" "lowCount" "I", Cond.lays RX2 "MarinaBerths$Marina" "lowest" "I", Cond.lays RX2 "MarinaBerths$Marina" "clearance" "I", Cond.lays RX2 "MarinaBerths$Marina" "rateAshore" "I", Cond.lays RX2 "MarinaBerths$Marina" "firstOfWinter" "I", Cond.lays RX2 "MarinaBerths$Marina" "firstOfSpring" "I", Cond.lays RX2 "MarinaBerths$Marina" "day" "I", Cond.lays RX2 "MarinaBerths$Marina" "winter" "Z", Cond.lays RX2 "MarinaBerths$Marina" "paidInAll" "J", Cond.lays RX2 "MarinaBerths$Marina" "turns" "I"] := rfl
  rw [e]
  intro w hw
  simp only [List.mem_cons, List.not_mem_nil, or_false] at hw
  rcases hw with rfl | rfl | rfl | rfl | rfl | rfl | rfl | rfl | rfl | rfl | rfl | rfl | rfl | rfl | rfl
  · exact mb_tb 137 (by decide +kernel) (by decide +kernel)
  · exact mb_tb 139 (by decide +kernel) (by decide +kernel)
  · exact mb_tb 141 (by decide +kernel) (by decide +kernel)
  · exact mb_tb 143 (by decide +kernel) (by decide +kernel)
  · exact mb_tb 145 (by decide +kernel) (by decide +kernel)
  · exact mb_tb 147 (by decide +kernel) (by decide +kernel)
  · exact mb_tb 149 (by decide +kernel) (by decide +kernel)
  · exact mb_tb 151 (by decide +kernel) (by decide +kernel)
  · exact mb_tb 153 (by decide +kernel) (by decide +kernel)
  · exact mb_tb 155 (by decide +kernel) (by decide +kernel)
  · exact mb_tb 157 (by decide +kernel) (by decide +kernel)
  · exact mb_tb 159 (by decide +kernel) (by decide +kernel)
  · exact mb_tb 161 (by decide +kernel) (by decide +kernel)
  · exact mb_tb 163 (by decide +kernel) (by decide +kernel)
  · exact mb_tb 165 (by decide +kernel) (by decide +kernel)
theorem gf_X2_42 {l : Launch} {G : mb_G} {cc : ByteArray} {nL : Nat} {ret : Option FieldType} {d pc pn : Nat} {lv : List (Nat × mb_AV)} {st : List mb_AV} {h : mb_AH} {res : mb_RS} {a b : Nat} (dg : decode cc pc = .ok (.getfield 42, 3)) (hn : pc + 3 = pn) (kk : mb_Ev l G RX2 cc nL ret d pn lv (.inl (h.1 1 a b 1) :: st) h res) : mb_Ev l G RX2 cc nL ret d pc lv (mb_F 1 a b :: st) h res := mb_get (v := .inl (h.1 1 a b 1)) (ci := 2) (j := 1) in_X2 rfl (by decide) wf_X2_42 rfl rfl (fun _ => trivial) dg hn kk
theorem pf_X2_42 {l : Launch} {G : mb_G} {cc : ByteArray} {nL : Nat} {ret : Option FieldType} {d pc pn : Nat} {lv : List (Nat × mb_AV)} {st : List mb_AV} {h : mb_AH} {res : mb_RS} {a b : Nat} {x : Int32} {K : mb_AH → Option mb_RS} (dg : decode cc pc = .ok (.putfield 42, 3)) (hn : pc + 3 = pn) (hr : mb_up (mb_sI h 1 a b 1 x) K = some res) (kk : ∀ h2, K h2 = some res → mb_Ev l G RX2 cc nL ret d pn lv st h2 res) : mb_Ev l G RX2 cc nL ret d pc lv (.inl x :: mb_F 1 a b :: st) h res := mb_putI (ci := 2) (j := 1) (ty := .int) in_X2 tyX2 tyX2_ok nmX2 rfl (by decide) wf_X2_42 rfl rfl rfl rfl rfl (Nat.le_of_ble_eq_true rfl) rfl dg hn (kk _ hr)
theorem wf_X2_49 : Cond.fieldLink RX2 49 "MarinaBerths$Marina" "boatCount" "I" ∈ mb_GW := mb_tb 115 (by decide +kernel) (by decide +kernel)
theorem gf_X2_49 {l : Launch} {G : mb_G} {cc : ByteArray} {nL : Nat} {ret : Option FieldType} {d pc pn : Nat} {lv : List (Nat × mb_AV)} {st : List mb_AV} {h : mb_AH} {res : mb_RS} {a b : Nat} (dg : decode cc pc = .ok (.getfield 49, 3)) (hn : pc + 3 = pn) (kk : mb_Ev l G RX2 cc nL ret d pn lv (.inl (h.1 1 a b 3) :: st) h res) : mb_Ev l G RX2 cc nL ret d pc lv (mb_F 1 a b :: st) h res := mb_get (v := .inl (h.1 1 a b 3)) (ci := 2) (j := 3) in_X2 rfl (by decide) wf_X2_49 rfl rfl (fun _ => trivial) dg hn kk
theorem pf_X2_49 {l : Launch} {G : mb_G} {cc : ByteArray} {nL : Nat} {ret : Option FieldType} {d pc pn : Nat} {lv : List (Nat × mb_AV)} {st : List mb_AV} {h : mb_AH} {res : mb_RS} {a b : Nat} {x : Int32} {K : mb_AH → Option mb_RS} (dg : decode cc pc = .ok (.putfield 49, 3)) (hn : pc + 3 = pn) (hr : mb_up (mb_sI h 1 a b 3 x) K = some res) (kk : ∀ h2, K h2 = some res → mb_Ev l G RX2 cc nL ret d pn lv st h2 res) : mb_Ev l G RX2 cc nL ret d pc lv (.inl x :: mb_F 1 a b :: st) h res := mb_putI (ci := 2) (j := 3) (ty := .int) in_X2 tyX2 tyX2_ok nmX2 rfl (by decide) wf_X2_49 rfl rfl rfl rfl rfl (Nat.le_of_ble_eq_true rfl) rfl dg hn (kk _ hr)
theorem wf_X2_27 : Cond.fieldLink RX2 27 "MarinaBerths$Marina" "lowCount" "I" ∈ mb_GW := mb_tb 118 (by decide +kernel) (by decide +kernel)
theorem gf_X2_27 {l : Launch} {G : mb_G} {cc : ByteArray} {nL : Nat} {ret : Option FieldType} {d pc pn : Nat} {lv : List (Nat × mb_AV)} {st : List mb_AV} {h : mb_AH} {res : mb_RS} {a b : Nat} (dg : decode cc pc = .ok (.getfield 27, 3)) (hn : pc + 3 = pn) (kk : mb_Ev l G RX2 cc nL ret d pn lv (.inl (h.1 1 a b 5) :: st) h res) : mb_Ev l G RX2 cc nL ret d pc lv (mb_F 1 a b :: st) h res := mb_get (v := .inl (h.1 1 a b 5)) (ci := 2) (j := 5) in_X2 rfl (by decide) wf_X2_27 rfl rfl (fun _ => trivial) dg hn kk
theorem pf_X2_27 {l : Launch} {G : mb_G} {cc : ByteArray} {nL : Nat} {ret : Option FieldType} {d pc pn : Nat} {lv : List (Nat × mb_AV)} {st : List mb_AV} {h : mb_AH} {res : mb_RS} {a b : Nat} {x : Int32} {K : mb_AH → Option mb_RS} (dg : decode cc pc = .ok (.putfield 27, 3)) (hn : pc + 3 = pn) (hr : mb_up (mb_sI h 1 a b 5 x) K = some res) (kk : ∀ h2, K h2 = some res → mb_Ev l G RX2 cc nL ret d pn lv st h2 res) : mb_Ev l G RX2 cc nL ret d pc lv (.inl x :: mb_F 1 a b :: st) h res := mb_putI (ci := 2) (j := 5) (ty := .int) in_X2 tyX2 tyX2_ok nmX2 rfl (by decide) wf_X2_27 rfl rfl rfl rfl rfl (Nat.le_of_ble_eq_true rfl) rfl dg hn (kk _ hr)
theorem wf_X2_55 : Cond.fieldLink RX2 55 "MarinaBerths$Marina" "lowest" "I" ∈ mb_GW := mb_tb 120 (by decide +kernel) (by decide +kernel)
theorem gf_X2_55 {l : Launch} {G : mb_G} {cc : ByteArray} {nL : Nat} {ret : Option FieldType} {d pc pn : Nat} {lv : List (Nat × mb_AV)} {st : List mb_AV} {h : mb_AH} {res : mb_RS} {a b : Nat} (dg : decode cc pc = .ok (.getfield 55, 3)) (hn : pc + 3 = pn) (kk : mb_Ev l G RX2 cc nL ret d pn lv (.inl (h.1 1 a b 6) :: st) h res) : mb_Ev l G RX2 cc nL ret d pc lv (mb_F 1 a b :: st) h res := mb_get (v := .inl (h.1 1 a b 6)) (ci := 2) (j := 6) in_X2 rfl (by decide) wf_X2_55 rfl rfl (fun _ => trivial) dg hn kk
theorem pf_X2_55 {l : Launch} {G : mb_G} {cc : ByteArray} {nL : Nat} {ret : Option FieldType} {d pc pn : Nat} {lv : List (Nat × mb_AV)} {st : List mb_AV} {h : mb_AH} {res : mb_RS} {a b : Nat} {x : Int32} {K : mb_AH → Option mb_RS} (dg : decode cc pc = .ok (.putfield 55, 3)) (hn : pc + 3 = pn) (hr : mb_up (mb_sI h 1 a b 6 x) K = some res) (kk : ∀ h2, K h2 = some res → mb_Ev l G RX2 cc nL ret d pn lv st h2 res) : mb_Ev l G RX2 cc nL ret d pc lv (.inl x :: mb_F 1 a b :: st) h res := mb_putI (ci := 2) (j := 6) (ty := .int) in_X2 tyX2 tyX2_ok nmX2 rfl (by decide) wf_X2_55 rfl rfl rfl rfl rfl (Nat.le_of_ble_eq_true rfl) rfl dg hn (kk _ hr)
theorem wf_X2_31 : Cond.fieldLink RX2 31 "MarinaBerths$Marina" "clearance" "I" ∈ mb_GW := mb_tb 122 (by decide +kernel) (by decide +kernel)
theorem gf_X2_31 {l : Launch} {G : mb_G} {cc : ByteArray} {nL : Nat} {ret : Option FieldType} {d pc pn : Nat} {lv : List (Nat × mb_AV)} {st : List mb_AV} {h : mb_AH} {res : mb_RS} {a b : Nat} (dg : decode cc pc = .ok (.getfield 31, 3)) (hn : pc + 3 = pn) (kk : mb_Ev l G RX2 cc nL ret d pn lv (.inl (h.1 1 a b 7) :: st) h res) : mb_Ev l G RX2 cc nL ret d pc lv (mb_F 1 a b :: st) h res := mb_get (v := .inl (h.1 1 a b 7)) (ci := 2) (j := 7) in_X2 rfl (by decide) wf_X2_31 rfl rfl (fun _ => trivial) dg hn kk
theorem pf_X2_31 {l : Launch} {G : mb_G} {cc : ByteArray} {nL : Nat} {ret : Option FieldType} {d pc pn : Nat} {lv : List (Nat × mb_AV)} {st : List mb_AV} {h : mb_AH} {res : mb_RS} {a b : Nat} {x : Int32} {K : mb_AH → Option mb_RS} (dg : decode cc pc = .ok (.putfield 31, 3)) (hn : pc + 3 = pn) (hr : mb_up (mb_sI h 1 a b 7 x) K = some res) (kk : ∀ h2, K h2 = some res → mb_Ev l G RX2 cc nL ret d pn lv st h2 res) : mb_Ev l G RX2 cc nL ret d pc lv (.inl x :: mb_F 1 a b :: st) h res := mb_putI (ci := 2) (j := 7) (ty := .int) in_X2 tyX2 tyX2_ok nmX2 rfl (by decide) wf_X2_31 rfl rfl rfl rfl rfl (Nat.le_of_ble_eq_true rfl) rfl dg hn (kk _ hr)
theorem wf_X2_58 : Cond.fieldLink RX2 58 "MarinaBerths$Marina" "rateAshore" "I" ∈ mb_GW := mb_tb 124 (by decide +kernel) (by decide +kernel)
theorem gf_X2_58 {l : Launch} {G : mb_G} {cc : ByteArray} {nL : Nat} {ret : Option FieldType} {d pc pn : Nat} {lv : List (Nat × mb_AV)} {st : List mb_AV} {h : mb_AH} {res : mb_RS} {a b : Nat} (dg : decode cc pc = .ok (.getfield 58, 3)) (hn : pc + 3 = pn) (kk : mb_Ev l G RX2 cc nL ret d pn lv (.inl (h.1 1 a b 8) :: st) h res) : mb_Ev l G RX2 cc nL ret d pc lv (mb_F 1 a b :: st) h res := mb_get (v := .inl (h.1 1 a b 8)) (ci := 2) (j := 8) in_X2 rfl (by decide) wf_X2_58 rfl rfl (fun _ => trivial) dg hn kk
theorem pf_X2_58 {l : Launch} {G : mb_G} {cc : ByteArray} {nL : Nat} {ret : Option FieldType} {d pc pn : Nat} {lv : List (Nat × mb_AV)} {st : List mb_AV} {h : mb_AH} {res : mb_RS} {a b : Nat} {x : Int32} {K : mb_AH → Option mb_RS} (dg : decode cc pc = .ok (.putfield 58, 3)) (hn : pc + 3 = pn) (hr : mb_up (mb_sI h 1 a b 8 x) K = some res) (kk : ∀ h2, K h2 = some res → mb_Ev l G RX2 cc nL ret d pn lv st h2 res) : mb_Ev l G RX2 cc nL ret d pc lv (.inl x :: mb_F 1 a b :: st) h res := mb_putI (ci := 2) (j := 8) (ty := .int) in_X2 tyX2 tyX2_ok nmX2 rfl (by decide) wf_X2_58 rfl rfl rfl rfl rfl (Nat.le_of_ble_eq_true rfl) rfl dg hn (kk _ hr)
theorem wf_X2_34 : Cond.fieldLink RX2 34 "MarinaBerths$Marina" "firstOfWinter" "I" ∈ mb_GW := mb_tb 126 (by decide +kernel) (by decide +kernel)
theorem gf_X2_34 {l : Launch} {G : mb_G} {cc : ByteArray} {nL : Nat} {ret : Option FieldType} {d pc pn : Nat} {lv : List (Nat × mb_AV)} {st : List mb_AV} {h : mb_AH} {res : mb_RS} {a b : Nat} (dg : decode cc pc = .ok (.getfield 34, 3)) (hn : pc + 3 = pn) (kk : mb_Ev l G RX2 cc nL ret d pn lv (.inl (h.1 1 a b 9) :: st) h res) : mb_Ev l G RX2 cc nL ret d pc lv (mb_F 1 a b :: st) h res := mb_get (v := .inl (h.1 1 a b 9)) (ci := 2) (j := 9) in_X2 rfl (by decide) wf_X2_34 rfl rfl (fun _ => trivial) dg hn kk
theorem pf_X2_34 {l : Launch} {G : mb_G} {cc : ByteArray} {nL : Nat} {ret : Option FieldType} {d pc pn : Nat} {lv : List (Nat × mb_AV)} {st : List mb_AV} {h : mb_AH} {res : mb_RS} {a b : Nat} {x : Int32} {K : mb_AH → Option mb_RS} (dg : decode cc pc = .ok (.putfield 34, 3)) (hn : pc + 3 = pn) (hr : mb_up (mb_sI h 1 a b 9 x) K = some res) (kk : ∀ h2, K h2 = some res → mb_Ev l G RX2 cc nL ret d pn lv st h2 res) : mb_Ev l G RX2 cc nL ret d pc lv (.inl x :: mb_F 1 a b :: st) h res := mb_putI (ci := 2) (j := 9) (ty := .int) in_X2 tyX2 tyX2_ok nmX2 rfl (by decide) wf_X2_34 rfl rfl rfl rfl rfl (Nat.le_of_ble_eq_true rfl) rfl dg hn (kk _ hr)
theorem wf_X2_37 : Cond.fieldLink RX2 37 "MarinaBerths$Marina" "firstOfSpring" "I" ∈ mb_GW := mb_tb 128 (by decide +kernel) (by decide +kernel)
theorem gf_X2_37 {l : Launch} {G : mb_G} {cc : ByteArray} {nL : Nat} {ret : Option FieldType} {d pc pn : Nat} {lv : List (Nat × mb_AV)} {st : List mb_AV} {h : mb_AH} {res : mb_RS} {a b : Nat} (dg : decode cc pc = .ok (.getfield 37, 3)) (hn : pc + 3 = pn) (kk : mb_Ev l G RX2 cc nL ret d pn lv (.inl (h.1 1 a b 10) :: st) h res) : mb_Ev l G RX2 cc nL ret d pc lv (mb_F 1 a b :: st) h res := mb_get (v := .inl (h.1 1 a b 10)) (ci := 2) (j := 10) in_X2 rfl (by decide) wf_X2_37 rfl rfl (fun _ => trivial) dg hn kk
theorem pf_X2_37 {l : Launch} {G : mb_G} {cc : ByteArray} {nL : Nat} {ret : Option FieldType} {d pc pn : Nat} {lv : List (Nat × mb_AV)} {st : List mb_AV} {h : mb_AH} {res : mb_RS} {a b : Nat} {x : Int32} {K : mb_AH → Option mb_RS} (dg : decode cc pc = .ok (.putfield 37, 3)) (hn : pc + 3 = pn) (hr : mb_up (mb_sI h 1 a b 10 x) K = some res) (kk : ∀ h2, K h2 = some res → mb_Ev l G RX2 cc nL ret d pn lv st h2 res) : mb_Ev l G RX2 cc nL ret d pc lv (.inl x :: mb_F 1 a b :: st) h res := mb_putI (ci := 2) (j := 10) (ty := .int) in_X2 tyX2 tyX2_ok nmX2 rfl (by decide) wf_X2_37 rfl rfl rfl rfl rfl (Nat.le_of_ble_eq_true rfl) rfl dg hn (kk _ hr)
theorem wf_X2_61 : Cond.fieldLink RX2 61 "MarinaBerths$Marina" "day" "I" ∈ mb_GW := mb_tb 130 (by decide +kernel) (by decide +kernel)
theorem gf_X2_61 {l : Launch} {G : mb_G} {cc : ByteArray} {nL : Nat} {ret : Option FieldType} {d pc pn : Nat} {lv : List (Nat × mb_AV)} {st : List mb_AV} {h : mb_AH} {res : mb_RS} {a b : Nat} (dg : decode cc pc = .ok (.getfield 61, 3)) (hn : pc + 3 = pn) (kk : mb_Ev l G RX2 cc nL ret d pn lv (.inl (h.1 1 a b 11) :: st) h res) : mb_Ev l G RX2 cc nL ret d pc lv (mb_F 1 a b :: st) h res := mb_get (v := .inl (h.1 1 a b 11)) (ci := 2) (j := 11) in_X2 rfl (by decide) wf_X2_61 rfl rfl (fun _ => trivial) dg hn kk
theorem pf_X2_61 {l : Launch} {G : mb_G} {cc : ByteArray} {nL : Nat} {ret : Option FieldType} {d pc pn : Nat} {lv : List (Nat × mb_AV)} {st : List mb_AV} {h : mb_AH} {res : mb_RS} {a b : Nat} {x : Int32} {K : mb_AH → Option mb_RS} (dg : decode cc pc = .ok (.putfield 61, 3)) (hn : pc + 3 = pn) (hr : mb_up (mb_sI h 1 a b 11 x) K = some res) (kk : ∀ h2, K h2 = some res → mb_Ev l G RX2 cc nL ret d pn lv st h2 res) : mb_Ev l G RX2 cc nL ret d pc lv (.inl x :: mb_F 1 a b :: st) h res := mb_putI (ci := 2) (j := 11) (ty := .int) in_X2 tyX2 tyX2_ok nmX2 rfl (by decide) wf_X2_61 rfl rfl rfl rfl rfl (Nat.le_of_ble_eq_true rfl) rfl dg hn (kk _ hr)
theorem wf_X2_64 : Cond.fieldLink RX2 64 "MarinaBerths$Marina" "winter" "Z" ∈ mb_GW := mb_tb 132 (by decide +kernel) (by decide +kernel)
theorem gf_X2_64 {l : Launch} {G : mb_G} {cc : ByteArray} {nL : Nat} {ret : Option FieldType} {d pc pn : Nat} {lv : List (Nat × mb_AV)} {st : List mb_AV} {h : mb_AH} {res : mb_RS} {a b : Nat} (dg : decode cc pc = .ok (.getfield 64, 3)) (hn : pc + 3 = pn) (kk : mb_Ev l G RX2 cc nL ret d pn lv (.inl (h.1 1 a b 12) :: st) h res) : mb_Ev l G RX2 cc nL ret d pc lv (mb_F 1 a b :: st) h res := mb_get (v := .inl (h.1 1 a b 12)) (ci := 2) (j := 12) in_X2 rfl (by decide) wf_X2_64 rfl rfl (fun _ => trivial) dg hn kk
theorem pf_X2_64 {l : Launch} {G : mb_G} {cc : ByteArray} {nL : Nat} {ret : Option FieldType} {d pc pn : Nat} {lv : List (Nat × mb_AV)} {st : List mb_AV} {h : mb_AH} {res : mb_RS} {a b : Nat} {x : Int32} {K : mb_AH → Option mb_RS} (dg : decode cc pc = .ok (.putfield 64, 3)) (hn : pc + 3 = pn) (hr : mb_gZ x (mb_up (mb_sI h 1 a b 12 x) K) = some res) (kk : ∀ h2, K h2 = some res → mb_Ev l G RX2 cc nL ret d pn lv st h2 res) : mb_Ev l G RX2 cc nL ret d pc lv (.inl x :: mb_F 1 a b :: st) h res := by
  unfold mb_gZ at hr
  by_cases q9 : x = 0 ∨ x = 1
  · rw [if_pos q9] at hr
    exact mb_putI (ci := 2) (j := 12) (ty := .boolean) in_X2 tyX2 tyX2_ok nmX2 rfl (by decide) wf_X2_64 rfl rfl (by rcases q9 with rfl | rfl <;> decide) (by rcases q9 with rfl | rfl <;> decide) rfl (Nat.le_of_ble_eq_true rfl) rfl dg hn (kk _ hr)
  · rw [if_neg q9] at hr; cases hr
theorem wf_X2_68 : Cond.fieldLink RX2 68 "MarinaBerths$Marina" "paidInAll" "J" ∈ mb_GW := mb_tb 134 (by decide +kernel) (by decide +kernel)
theorem gf_X2_68 {l : Launch} {G : mb_G} {cc : ByteArray} {nL : Nat} {ret : Option FieldType} {d pc pn : Nat} {lv : List (Nat × mb_AV)} {st : List mb_AV} {h : mb_AH} {res : mb_RS} {a b : Nat} (dg : decode cc pc = .ok (.getfield 68, 3)) (hn : pc + 3 = pn) (kk : mb_Ev l G RX2 cc nL ret d pn lv (.inr (.inl (h.2.1 1 a b 13)) :: st) h res) : mb_Ev l G RX2 cc nL ret d pc lv (mb_F 1 a b :: st) h res := mb_get (v := .inr (.inl (h.2.1 1 a b 13))) (ci := 2) (j := 13) in_X2 rfl (by decide) wf_X2_68 rfl rfl (fun _ => trivial) dg hn kk
theorem pf_X2_68 {l : Launch} {G : mb_G} {cc : ByteArray} {nL : Nat} {ret : Option FieldType} {d pc pn : Nat} {lv : List (Nat × mb_AV)} {st : List mb_AV} {h : mb_AH} {res : mb_RS} {a b : Nat} {x : Int64} {K : mb_AH → Option mb_RS} (dg : decode cc pc = .ok (.putfield 68, 3)) (hn : pc + 3 = pn) (hr : mb_up (mb_sL h 1 a b 13 x) K = some res) (kk : ∀ h2, K h2 = some res → mb_Ev l G RX2 cc nL ret d pn lv st h2 res) : mb_Ev l G RX2 cc nL ret d pc lv (.inr (.inl x) :: mb_F 1 a b :: st) h res := mb_putL (ci := 2) (j := 13) (ty := .long) in_X2 tyX2 tyX2_ok nmX2 rfl (by decide) wf_X2_68 rfl rfl rfl rfl rfl (Nat.le_of_ble_eq_true rfl) rfl dg hn (kk _ hr)
theorem wf_X2_72 : Cond.fieldLink RX2 72 "MarinaBerths$Marina" "turns" "I" ∈ mb_GW := mb_tb 136 (by decide +kernel) (by decide +kernel)
theorem gf_X2_72 {l : Launch} {G : mb_G} {cc : ByteArray} {nL : Nat} {ret : Option FieldType} {d pc pn : Nat} {lv : List (Nat × mb_AV)} {st : List mb_AV} {h : mb_AH} {res : mb_RS} {a b : Nat} (dg : decode cc pc = .ok (.getfield 72, 3)) (hn : pc + 3 = pn) (kk : mb_Ev l G RX2 cc nL ret d pn lv (.inl (h.1 1 a b 14) :: st) h res) : mb_Ev l G RX2 cc nL ret d pc lv (mb_F 1 a b :: st) h res := mb_get (v := .inl (h.1 1 a b 14)) (ci := 2) (j := 14) in_X2 rfl (by decide) wf_X2_72 rfl rfl (fun _ => trivial) dg hn kk
theorem pf_X2_72 {l : Launch} {G : mb_G} {cc : ByteArray} {nL : Nat} {ret : Option FieldType} {d pc pn : Nat} {lv : List (Nat × mb_AV)} {st : List mb_AV} {h : mb_AH} {res : mb_RS} {a b : Nat} {x : Int32} {K : mb_AH → Option mb_RS} (dg : decode cc pc = .ok (.putfield 72, 3)) (hn : pc + 3 = pn) (hr : mb_up (mb_sI h 1 a b 14 x) K = some res) (kk : ∀ h2, K h2 = some res → mb_Ev l G RX2 cc nL ret d pn lv st h2 res) : mb_Ev l G RX2 cc nL ret d pc lv (.inl x :: mb_F 1 a b :: st) h res := mb_putI (ci := 2) (j := 14) (ty := .int) in_X2 tyX2 tyX2_ok nmX2 rfl (by decide) wf_X2_72 rfl rfl rfl rfl rfl (Nat.le_of_ble_eq_true rfl) rfl dg hn (kk _ hr)
theorem wf_X2_23 : Cond.fieldLink RX2 23 "MarinaBerths$Marina" "lows" "[I" ∈ mb_GW := mb_tb 117 (by decide +kernel) (by decide +kernel)
theorem gf_X2_23 {l : Launch} {G : mb_G} {cc : ByteArray} {nL : Nat} {ret : Option FieldType} {d pc pn : Nat} {lv : List (Nat × mb_AV)} {st : List mb_AV} {h : mb_AH} {res : mb_RS} {a b : Nat} (dg : decode cc pc = .ok (.getfield 23, 3)) (hn : pc + 3 = pn) (kk : mb_Ev l G RX2 cc nL ret d pn lv (mb_F 12 a 0 :: st) h res) : mb_Ev l G RX2 cc nL ret d pc lv (mb_F 1 a b :: st) h res := mb_get (v := mb_F 12 a 0) (ci := 2) (j := 4) in_X2 rfl (by decide) wf_X2_23 rfl rfl (fun z => ⟨z.1, Nat.zero_lt_one⟩) dg hn kk
theorem wf_X2_19 : Cond.fieldLink RX2 19 "MarinaBerths$Marina" "boats" "[LMarinaBerths$Boat;" ∈ mb_GW := mb_tb 113 (by decide +kernel) (by decide +kernel)
theorem gf_X2_19 {l : Launch} {G : mb_G} {cc : ByteArray} {nL : Nat} {ret : Option FieldType} {d pc pn : Nat} {lv : List (Nat × mb_AV)} {st : List mb_AV} {h : mb_AH} {res : mb_RS} {a b : Nat} (dg : decode cc pc = .ok (.getfield 19, 3)) (hn : pc + 3 = pn) (kk : mb_Ev l G RX2 cc nL ret d pn lv (mb_F 11 a 0 :: st) h res) : mb_Ev l G RX2 cc nL ret d pc lv (mb_F 1 a b :: st) h res := mb_get (v := mb_F 11 a 0) (ci := 2) (j := 2) in_X2 rfl (by decide) wf_X2_19 rfl rfl (fun z => ⟨z.1, Nat.zero_lt_one⟩) dg hn kk
theorem wl_X2_52 : Cond.methodLink RX2 52 yX1_copyFrom ∈ mb_GW := mb_tb 511 (by decide +kernel) (by decide +kernel)
theorem mi_X1_copyFrom : Cond.instanceMethod yX1_copyFrom ∈ mb_GW := mb_tb 512 (by decide +kernel) (by decide +kernel)
theorem ms_X1_copyFrom : Cond.selects RX1 yX1_copyFrom yX1_copyFrom ∈ mb_GW := mb_tb 513 (by decide +kernel) (by decide +kernel)
theorem mc_X1_copyFrom : Cond.code yX1_copyFrom cX1_copyFrom 2 none ∈ mb_GW := mb_tb 514 (by decide +kernel) (by decide +kernel)
theorem wf_X2_11 : Cond.fieldLink RX2 11 "MarinaBerths$Marina" "berths" "[LMarinaBerths$Berth;" ∈ mb_GW := mb_tb 109 (by decide +kernel) (by decide +kernel)
theorem gf_X2_11 {l : Launch} {G : mb_G} {cc : ByteArray} {nL : Nat} {ret : Option FieldType} {d pc pn : Nat} {lv : List (Nat × mb_AV)} {st : List mb_AV} {h : mb_AH} {res : mb_RS} {a b : Nat} (dg : decode cc pc = .ok (.getfield 11, 3)) (hn : pc + 3 = pn) (kk : mb_Ev l G RX2 cc nL ret d pn lv (mb_F 10 a 0 :: st) h res) : mb_Ev l G RX2 cc nL ret d pc lv (mb_F 1 a b :: st) h res := mb_get (v := mb_F 10 a 0) (ci := 2) (j := 0) in_X2 rfl (by decide) wf_X2_11 rfl rfl (fun z => ⟨z.1, Nat.zero_lt_one⟩) dg hn kk
theorem wl_X2_45 : Cond.methodLink RX2 45 yX0_copyFrom ∈ mb_GW := mb_tb 503 (by decide +kernel) (by decide +kernel)
theorem mi_X0_copyFrom : Cond.instanceMethod yX0_copyFrom ∈ mb_GW := mb_tb 504 (by decide +kernel) (by decide +kernel)
theorem ms_X0_copyFrom : Cond.selects RX0 yX0_copyFrom yX0_copyFrom ∈ mb_GW := mb_tb 505 (by decide +kernel) (by decide +kernel)
theorem mc_X0_copyFrom : Cond.code yX0_copyFrom cX0_copyFrom 2 none ∈ mb_GW := mb_tb 506 (by decide +kernel) (by decide +kernel)
theorem wf_X2_75 : Cond.fieldLink RX2 75 "MarinaBerths$TableText" "count" "I" ∈ mb_GW := mb_tb 199 (by decide +kernel) (by decide +kernel)
theorem gf_X2_75 {l : Launch} {G : mb_G} {cc : ByteArray} {nL : Nat} {ret : Option FieldType} {d pc pn : Nat} {lv : List (Nat × mb_AV)} {st : List mb_AV} {h : mb_AH} {res : mb_RS} {a b : Nat} (dg : decode cc pc = .ok (.getfield 75, 3)) (hn : pc + 3 = pn) (kk : mb_Ev l G RX2 cc nL ret d pn lv (.inl (h.1 5 a b 3) :: st) h res) : mb_Ev l G RX2 cc nL ret d pc lv (mb_F 5 a b :: st) h res := mb_get (v := .inl (h.1 5 a b 3)) (ci := 3) (j := 3) in_X3 rfl (by decide) wf_X2_75 rfl rfl (fun _ => trivial) dg hn kk
theorem wf_X2_80 : Cond.fieldLink RX2 80 "MarinaBerths$TableText" "numbers" "[I" ∈ mb_GW := mb_tb 198 (by decide +kernel) (by decide +kernel)
theorem gf_X2_80 {l : Launch} {G : mb_G} {cc : ByteArray} {nL : Nat} {ret : Option FieldType} {d pc pn : Nat} {lv : List (Nat × mb_AV)} {st : List mb_AV} {h : mb_AH} {res : mb_RS} {a b : Nat} (dg : decode cc pc = .ok (.getfield 80, 3)) (hn : pc + 3 = pn) (kk : mb_Ev l G RX2 cc nL ret d pn lv (mb_F 17 0 0 :: st) h res) : mb_Ev l G RX2 cc nL ret d pc lv (mb_F 5 a b :: st) h res := mb_get (v := mb_F 17 0 0) (ci := 3) (j := 2) in_X3 rfl (by decide) wf_X2_80 rfl rfl (fun _ => ⟨by decide, by decide⟩) dg hn kk
theorem wl_X2_83 : Cond.methodLink RX2 83 Lib.Math.min.name ∈ mb_GW := mb_tb 274 (by decide +kernel) (by decide +kernel)
theorem mM_min_s : Cond.static Lib.Math.min.name ∈ mb_GW := mb_tb 275 (by decide +kernel) (by decide +kernel)
theorem mM_i : Cond.initialized "java/lang/Math" ∈ mb_GW := mb_tb 12 (by decide +kernel) (by decide +kernel)
theorem mM_min_c : Cond.code Lib.Math.min.name Lib.Math.min.code 2 (some .int) ∈ mb_GW := mb_tb 276 (by decide +kernel) (by decide +kernel)
theorem wf_X2_89 : Cond.fieldLink RX2 89 "MarinaBerths$Boat" "draft" "I" ∈ mb_GW := mb_tb 69 (by decide +kernel) (by decide +kernel)
theorem gf_X2_89 {l : Launch} {G : mb_G} {cc : ByteArray} {nL : Nat} {ret : Option FieldType} {d pc pn : Nat} {lv : List (Nat × mb_AV)} {st : List mb_AV} {h : mb_AH} {res : mb_RS} {a b : Nat} (dg : decode cc pc = .ok (.getfield 89, 3)) (hn : pc + 3 = pn) (kk : mb_Ev l G RX2 cc nL ret d pn lv (.inl (h.1 3 a b 1) :: st) h res) : mb_Ev l G RX2 cc nL ret d pc lv (mb_F 3 a b :: st) h res := mb_get (v := .inl (h.1 3 a b 1)) (ci := 1) (j := 1) in_X1 rfl (by decide) wf_X2_89 rfl rfl (fun _ => trivial) dg hn kk
theorem wf_X2_92 : Cond.fieldLink RX2 92 "MarinaBerths$Berth" "depth" "I" ∈ mb_GW := mb_tb 39 (by decide +kernel) (by decide +kernel)
theorem gf_X2_92 {l : Launch} {G : mb_G} {cc : ByteArray} {nL : Nat} {ret : Option FieldType} {d pc pn : Nat} {lv : List (Nat × mb_AV)} {st : List mb_AV} {h : mb_AH} {res : mb_RS} {a b : Nat} (dg : decode cc pc = .ok (.getfield 92, 3)) (hn : pc + 3 = pn) (kk : mb_Ev l G RX2 cc nL ret d pn lv (.inl (h.1 2 a b 0) :: st) h res) : mb_Ev l G RX2 cc nL ret d pc lv (mb_F 2 a b :: st) h res := mb_get (v := .inl (h.1 2 a b 0)) (ci := 0) (j := 0) in_X0 rfl (by decide) wf_X2_92 rfl rfl (fun _ => trivial) dg hn kk
theorem wf_X2_95 : Cond.fieldLink RX2 95 "MarinaBerths$Boat" "length" "I" ∈ mb_GW := mb_tb 66 (by decide +kernel) (by decide +kernel)
theorem gf_X2_95 {l : Launch} {G : mb_G} {cc : ByteArray} {nL : Nat} {ret : Option FieldType} {d pc pn : Nat} {lv : List (Nat × mb_AV)} {st : List mb_AV} {h : mb_AH} {res : mb_RS} {a b : Nat} (dg : decode cc pc = .ok (.getfield 95, 3)) (hn : pc + 3 = pn) (kk : mb_Ev l G RX2 cc nL ret d pn lv (.inl (h.1 3 a b 0) :: st) h res) : mb_Ev l G RX2 cc nL ret d pc lv (mb_F 3 a b :: st) h res := mb_get (v := .inl (h.1 3 a b 0)) (ci := 1) (j := 0) in_X1 rfl (by decide) wf_X2_95 rfl rfl (fun _ => trivial) dg hn kk
theorem wf_X2_98 : Cond.fieldLink RX2 98 "MarinaBerths$Berth" "length" "I" ∈ mb_GW := mb_tb 42 (by decide +kernel) (by decide +kernel)
theorem gf_X2_98 {l : Launch} {G : mb_G} {cc : ByteArray} {nL : Nat} {ret : Option FieldType} {d pc pn : Nat} {lv : List (Nat × mb_AV)} {st : List mb_AV} {h : mb_AH} {res : mb_RS} {a b : Nat} (dg : decode cc pc = .ok (.getfield 98, 3)) (hn : pc + 3 = pn) (kk : mb_Ev l G RX2 cc nL ret d pn lv (.inl (h.1 2 a b 1) :: st) h res) : mb_Ev l G RX2 cc nL ret d pc lv (mb_F 2 a b :: st) h res := mb_get (v := .inl (h.1 2 a b 1)) (ci := 0) (j := 1) in_X0 rfl (by decide) wf_X2_98 rfl rfl (fun _ => trivial) dg hn kk
theorem wl_X2_99 : Cond.methodLink RX2 99 yX2_lackOfWater ∈ mb_GW := mb_tb 440 (by decide +kernel) (by decide +kernel)
theorem mi_X2_lackOfWater : Cond.instanceMethod yX2_lackOfWater ∈ mb_GW := mb_tb 441 (by decide +kernel) (by decide +kernel)
theorem ms_X2_lackOfWater : Cond.selects RX2 yX2_lackOfWater yX2_lackOfWater ∈ mb_GW := mb_tb 442 (by decide +kernel) (by decide +kernel)
theorem mn_X2 : Cond.initialized RX2 ∈ mb_GW := mb_tb 2 (by decide +kernel) (by decide +kernel)
theorem mc_X2_lackOfWater : Cond.code yX2_lackOfWater cX2_lackOfWater 3 (some .int) ∈ mb_GW := mb_tb 443 (by decide +kernel) (by decide +kernel)
theorem wf_X2_111 : Cond.fieldLink RX2 111 "MarinaBerths$Boat" "berth" "I" ∈ mb_GW := mb_tb 78 (by decide +kernel) (by decide +kernel)
theorem gf_X2_111 {l : Launch} {G : mb_G} {cc : ByteArray} {nL : Nat} {ret : Option FieldType} {d pc pn : Nat} {lv : List (Nat × mb_AV)} {st : List mb_AV} {h : mb_AH} {res : mb_RS} {a b : Nat} (dg : decode cc pc = .ok (.getfield 111, 3)) (hn : pc + 3 = pn) (kk : mb_Ev l G RX2 cc nL ret d pn lv (.inl (h.1 3 a b 4) :: st) h res) : mb_Ev l G RX2 cc nL ret d pc lv (mb_F 3 a b :: st) h res := mb_get (v := .inl (h.1 3 a b 4)) (ci := 1) (j := 4) in_X1 rfl (by decide) wf_X2_111 rfl rfl (fun _ => trivial) dg hn kk
theorem wl_X2_103 : Cond.methodLink RX2 103 yX2_berthOf ∈ mb_GW := mb_tb 270 (by decide +kernel) (by decide +kernel)
theorem mi_X2_berthOf : Cond.instanceMethod yX2_berthOf ∈ mb_GW := mb_tb 271 (by decide +kernel) (by decide +kernel)
theorem ms_X2_berthOf : Cond.selects RX2 yX2_berthOf yX2_berthOf ∈ mb_GW := mb_tb 272 (by decide +kernel) (by decide +kernel)
theorem mc_X2_berthOf : Cond.code yX2_berthOf cX2_berthOf 2 (some (.object "MarinaBerths$Berth")) ∈ mb_GW := mb_tb 273 (by decide +kernel) (by decide +kernel)
theorem wl_X2_107 : Cond.methodLink RX2 107 yX2_suits ∈ mb_GW := mb_tb 436 (by decide +kernel) (by decide +kernel)
theorem mi_X2_suits : Cond.instanceMethod yX2_suits ∈ mb_GW := mb_tb 437 (by decide +kernel) (by decide +kernel)
theorem ms_X2_suits : Cond.selects RX2 yX2_suits yX2_suits ∈ mb_GW := mb_tb 438 (by decide +kernel) (by decide +kernel)
theorem mc_X2_suits : Cond.code yX2_suits cX2_suits 3 (some .boolean) ∈ mb_GW := mb_tb 439 (by decide +kernel) (by decide +kernel)
theorem wl_X2_114 : Cond.methodLink RX2 114 yX2_boatIn ∈ mb_GW := mb_tb 473 (by decide +kernel) (by decide +kernel)
theorem mi_X2_boatIn : Cond.instanceMethod yX2_boatIn ∈ mb_GW := mb_tb 429 (by decide +kernel) (by decide +kernel)
theorem ms_X2_boatIn : Cond.selects RX2 yX2_boatIn yX2_boatIn ∈ mb_GW := mb_tb 430 (by decide +kernel) (by decide +kernel)
theorem mc_X2_boatIn : Cond.code yX2_boatIn cX2_boatIn 3 (some .int) ∈ mb_GW := mb_tb 431 (by decide +kernel) (by decide +kernel)
theorem wf_X2_118 : Cond.fieldLink RX2 118 "MarinaBerths$Berth" "exposed" "Z" ∈ mb_GW := mb_tb 46 (by decide +kernel) (by decide +kernel)
theorem gf_X2_118 {l : Launch} {G : mb_G} {cc : ByteArray} {nL : Nat} {ret : Option FieldType} {d pc pn : Nat} {lv : List (Nat × mb_AV)} {st : List mb_AV} {h : mb_AH} {res : mb_RS} {a b : Nat} (dg : decode cc pc = .ok (.getfield 118, 3)) (hn : pc + 3 = pn) (kk : mb_Ev l G RX2 cc nL ret d pn lv (.inl (h.1 2 a b 2) :: st) h res) : mb_Ev l G RX2 cc nL ret d pc lv (mb_F 2 a b :: st) h res := mb_get (v := .inl (h.1 2 a b 2)) (ci := 0) (j := 2) in_X0 rfl (by decide) wf_X2_118 rfl rfl (fun _ => trivial) dg hn kk
theorem wf_X2_121 : Cond.fieldLink RX2 121 "MarinaBerths$Boat" "state" "I" ∈ mb_GW := mb_tb 76 (by decide +kernel) (by decide +kernel)
theorem gf_X2_121 {l : Launch} {G : mb_G} {cc : ByteArray} {nL : Nat} {ret : Option FieldType} {d pc pn : Nat} {lv : List (Nat × mb_AV)} {st : List mb_AV} {h : mb_AH} {res : mb_RS} {a b : Nat} (dg : decode cc pc = .ok (.getfield 121, 3)) (hn : pc + 3 = pn) (kk : mb_Ev l G RX2 cc nL ret d pn lv (.inl (h.1 3 a b 3) :: st) h res) : mb_Ev l G RX2 cc nL ret d pc lv (mb_F 3 a b :: st) h res := mb_get (v := .inl (h.1 3 a b 3)) (ci := 1) (j := 3) in_X1 rfl (by decide) wf_X2_121 rfl rfl (fun _ => trivial) dg hn kk
theorem wl_X2_124 : Cond.methodLink RX2 124 yX2_isOpen ∈ mb_GW := mb_tb 469 (by decide +kernel) (by decide +kernel)
theorem mi_X2_isOpen : Cond.instanceMethod yX2_isOpen ∈ mb_GW := mb_tb 470 (by decide +kernel) (by decide +kernel)
theorem ms_X2_isOpen : Cond.selects RX2 yX2_isOpen yX2_isOpen ∈ mb_GW := mb_tb 471 (by decide +kernel) (by decide +kernel)
theorem mc_X2_isOpen : Cond.code yX2_isOpen cX2_isOpen 2 (some .boolean) ∈ mb_GW := mb_tb 472 (by decide +kernel) (by decide +kernel)
theorem wl_X2_128 : Cond.methodLink RX2 128 yX0_isTighterThan ∈ mb_GW := mb_tb 474 (by decide +kernel) (by decide +kernel)
theorem mi_X0_isTighterThan : Cond.instanceMethod yX0_isTighterThan ∈ mb_GW := mb_tb 475 (by decide +kernel) (by decide +kernel)
theorem ms_X0_isTighterThan : Cond.selects RX0 yX0_isTighterThan yX0_isTighterThan ∈ mb_GW := mb_tb 476 (by decide +kernel) (by decide +kernel)
theorem mc_X0_isTighterThan : Cond.code yX0_isTighterThan cX0_isTighterThan 2 (some .boolean) ∈ mb_GW := mb_tb 477 (by decide +kernel) (by decide +kernel)
theorem wl_X2_136 : Cond.methodLink RX2 136 yX2_lowWater ∈ mb_GW := mb_tb 327 (by decide +kernel) (by decide +kernel)
theorem mi_X2_lowWater : Cond.instanceMethod yX2_lowWater ∈ mb_GW := mb_tb 328 (by decide +kernel) (by decide +kernel)
theorem ms_X2_lowWater : Cond.selects RX2 yX2_lowWater yX2_lowWater ∈ mb_GW := mb_tb 329 (by decide +kernel) (by decide +kernel)
theorem mc_X2_lowWater : Cond.code yX2_lowWater cX2_lowWater 2 (some .int) ∈ mb_GW := mb_tb 330 (by decide +kernel) (by decide +kernel)
theorem wl_X2_132 : Cond.methodLink RX2 132 yX2_isAgroundOn ∈ mb_GW := mb_tb 323 (by decide +kernel) (by decide +kernel)
theorem mi_X2_isAgroundOn : Cond.instanceMethod yX2_isAgroundOn ∈ mb_GW := mb_tb 324 (by decide +kernel) (by decide +kernel)
theorem ms_X2_isAgroundOn : Cond.selects RX2 yX2_isAgroundOn yX2_isAgroundOn ∈ mb_GW := mb_tb 325 (by decide +kernel) (by decide +kernel)
theorem mc_X2_isAgroundOn : Cond.code yX2_isAgroundOn cX2_isAgroundOn 4 (some .boolean) ∈ mb_GW := mb_tb 326 (by decide +kernel) (by decide +kernel)
theorem wl_X2_139 : Cond.methodLink RX2 139 yX2_isAground ∈ mb_GW := mb_tb 319 (by decide +kernel) (by decide +kernel)
theorem mi_X2_isAground : Cond.instanceMethod yX2_isAground ∈ mb_GW := mb_tb 320 (by decide +kernel) (by decide +kernel)
theorem ms_X2_isAground : Cond.selects RX2 yX2_isAground yX2_isAground ∈ mb_GW := mb_tb 321 (by decide +kernel) (by decide +kernel)
theorem mc_X2_isAground : Cond.code yX2_isAground cX2_isAground 2 (some .boolean) ∈ mb_GW := mb_tb 322 (by decide +kernel) (by decide +kernel)
theorem wl_X2_143 : Cond.methodLink RX2 143 yX1_moveForGood ∈ mb_GW := mb_tb 668 (by decide +kernel) (by decide +kernel)
theorem wf_X2_147 : Cond.fieldLink RX2 147 "MarinaBerths$Boat" "waitsSince" "I" ∈ mb_GW := mb_tb 87 (by decide +kernel) (by decide +kernel)
theorem pf_X2_147 {l : Launch} {G : mb_G} {cc : ByteArray} {nL : Nat} {ret : Option FieldType} {d pc pn : Nat} {lv : List (Nat × mb_AV)} {st : List mb_AV} {h : mb_AH} {res : mb_RS} {a b : Nat} {x : Int32} {K : mb_AH → Option mb_RS} (dg : decode cc pc = .ok (.putfield 147, 3)) (hn : pc + 3 = pn) (hr : mb_up (mb_sI h 3 a b 7 x) K = some res) (kk : ∀ h2, K h2 = some res → mb_Ev l G RX2 cc nL ret d pn lv st h2 res) : mb_Ev l G RX2 cc nL ret d pc lv (.inl x :: mb_F 3 a b :: st) h res := mb_putI (ci := 1) (j := 7) (ty := .int) in_X1 tyX1 tyX1_ok nmX1 rfl (by decide) wf_X2_147 rfl rfl rfl rfl rfl (Nat.le_of_ble_eq_true rfl) rfl dg hn (kk _ hr)
theorem wf_X2_150 : Cond.fieldLink RX2 150 "MarinaBerths$Boat" "turn" "I" ∈ mb_GW := mb_tb 89 (by decide +kernel) (by decide +kernel)
theorem pf_X2_150 {l : Launch} {G : mb_G} {cc : ByteArray} {nL : Nat} {ret : Option FieldType} {d pc pn : Nat} {lv : List (Nat × mb_AV)} {st : List mb_AV} {h : mb_AH} {res : mb_RS} {a b : Nat} {x : Int32} {K : mb_AH → Option mb_RS} (dg : decode cc pc = .ok (.putfield 150, 3)) (hn : pc + 3 = pn) (hr : mb_up (mb_sI h 3 a b 8 x) K = some res) (kk : ∀ h2, K h2 = some res → mb_Ev l G RX2 cc nL ret d pn lv st h2 res) : mb_Ev l G RX2 cc nL ret d pc lv (.inl x :: mb_F 3 a b :: st) h res := mb_putI (ci := 1) (j := 8) (ty := .int) in_X1 tyX1 tyX1_ok nmX1 rfl (by decide) wf_X2_150 rfl rfl rfl rfl rfl (Nat.le_of_ble_eq_true rfl) rfl dg hn (kk _ hr)
theorem gf_X2_147 {l : Launch} {G : mb_G} {cc : ByteArray} {nL : Nat} {ret : Option FieldType} {d pc pn : Nat} {lv : List (Nat × mb_AV)} {st : List mb_AV} {h : mb_AH} {res : mb_RS} {a b : Nat} (dg : decode cc pc = .ok (.getfield 147, 3)) (hn : pc + 3 = pn) (kk : mb_Ev l G RX2 cc nL ret d pn lv (.inl (h.1 3 a b 7) :: st) h res) : mb_Ev l G RX2 cc nL ret d pc lv (mb_F 3 a b :: st) h res := mb_get (v := .inl (h.1 3 a b 7)) (ci := 1) (j := 7) in_X1 rfl (by decide) wf_X2_147 rfl rfl (fun _ => trivial) dg hn kk
theorem wf_X2_153 : Cond.fieldLink RX2 153 "MarinaBerths$Boat" "bonus" "I" ∈ mb_GW := mb_tb 73 (by decide +kernel) (by decide +kernel)
theorem gf_X2_153 {l : Launch} {G : mb_G} {cc : ByteArray} {nL : Nat} {ret : Option FieldType} {d pc pn : Nat} {lv : List (Nat × mb_AV)} {st : List mb_AV} {h : mb_AH} {res : mb_RS} {a b : Nat} (dg : decode cc pc = .ok (.getfield 153, 3)) (hn : pc + 3 = pn) (kk : mb_Ev l G RX2 cc nL ret d pn lv (.inl (h.1 3 a b 2) :: st) h res) : mb_Ev l G RX2 cc nL ret d pc lv (mb_F 3 a b :: st) h res := mb_get (v := .inl (h.1 3 a b 2)) (ci := 1) (j := 2) in_X1 rfl (by decide) wf_X2_153 rfl rfl (fun _ => trivial) dg hn kk
theorem wl_X2_156 : Cond.methodLink RX2 156 yX2_points ∈ mb_GW := mb_tb 246 (by decide +kernel) (by decide +kernel)
theorem mi_X2_points : Cond.instanceMethod yX2_points ∈ mb_GW := mb_tb 247 (by decide +kernel) (by decide +kernel)
theorem ms_X2_points : Cond.selects RX2 yX2_points yX2_points ∈ mb_GW := mb_tb 248 (by decide +kernel) (by decide +kernel)
theorem mc_X2_points : Cond.code yX2_points cX2_points 2 (some .int) ∈ mb_GW := mb_tb 249 (by decide +kernel) (by decide +kernel)
theorem gf_X2_150 {l : Launch} {G : mb_G} {cc : ByteArray} {nL : Nat} {ret : Option FieldType} {d pc pn : Nat} {lv : List (Nat × mb_AV)} {st : List mb_AV} {h : mb_AH} {res : mb_RS} {a b : Nat} (dg : decode cc pc = .ok (.getfield 150, 3)) (hn : pc + 3 = pn) (kk : mb_Ev l G RX2 cc nL ret d pn lv (.inl (h.1 3 a b 8) :: st) h res) : mb_Ev l G RX2 cc nL ret d pc lv (mb_F 3 a b :: st) h res := mb_get (v := .inl (h.1 3 a b 8)) (ci := 1) (j := 8) in_X1 rfl (by decide) wf_X2_150 rfl rfl (fun _ => trivial) dg hn kk
theorem wl_X2_160 : Cond.methodLink RX2 160 yX2_isAhead ∈ mb_GW := mb_tb 242 (by decide +kernel) (by decide +kernel)
theorem mi_X2_isAhead : Cond.instanceMethod yX2_isAhead ∈ mb_GW := mb_tb 243 (by decide +kernel) (by decide +kernel)
theorem ms_X2_isAhead : Cond.selects RX2 yX2_isAhead yX2_isAhead ∈ mb_GW := mb_tb 244 (by decide +kernel) (by decide +kernel)
theorem mc_X2_isAhead : Cond.code yX2_isAhead cX2_isAhead 4 (some .boolean) ∈ mb_GW := mb_tb 245 (by decide +kernel) (by decide +kernel)
theorem wl_X2_164 : Cond.methodLink RX2 164 yX2_countAheadOf ∈ mb_GW := mb_tb 238 (by decide +kernel) (by decide +kernel)
theorem mi_X2_countAheadOf : Cond.instanceMethod yX2_countAheadOf ∈ mb_GW := mb_tb 239 (by decide +kernel) (by decide +kernel)
theorem ms_X2_countAheadOf : Cond.selects RX2 yX2_countAheadOf yX2_countAheadOf ∈ mb_GW := mb_tb 240 (by decide +kernel) (by decide +kernel)
theorem mc_X2_countAheadOf : Cond.code yX2_countAheadOf cX2_countAheadOf 4 (some .int) ∈ mb_GW := mb_tb 241 (by decide +kernel) (by decide +kernel)
theorem wf_X2_167 : Cond.fieldLink RX2 167 "MarinaBerths$Boat" "owes" "I" ∈ mb_GW := mb_tb 85 (by decide +kernel) (by decide +kernel)
theorem gf_X2_167 {l : Launch} {G : mb_G} {cc : ByteArray} {nL : Nat} {ret : Option FieldType} {d pc pn : Nat} {lv : List (Nat × mb_AV)} {st : List mb_AV} {h : mb_AH} {res : mb_RS} {a b : Nat} (dg : decode cc pc = .ok (.getfield 167, 3)) (hn : pc + 3 = pn) (kk : mb_Ev l G RX2 cc nL ret d pn lv (.inl (h.1 3 a b 6) :: st) h res) : mb_Ev l G RX2 cc nL ret d pc lv (mb_F 3 a b :: st) h res := mb_get (v := .inl (h.1 3 a b 6)) (ci := 1) (j := 6) in_X1 rfl (by decide) wf_X2_167 rfl rfl (fun _ => trivial) dg hn kk
theorem wk_X2_192 : Cond.constantLong RX2 192 (10) ∈ mb_GW := mb_tb 712 (by decide +kernel) (by decide +kernel)
theorem wf_X2_189 : Cond.fieldLink RX2 189 "MarinaBerths$Berth" "rate" "I" ∈ mb_GW := mb_tb 49 (by decide +kernel) (by decide +kernel)
theorem gf_X2_189 {l : Launch} {G : mb_G} {cc : ByteArray} {nL : Nat} {ret : Option FieldType} {d pc pn : Nat} {lv : List (Nat × mb_AV)} {st : List mb_AV} {h : mb_AH} {res : mb_RS} {a b : Nat} (dg : decode cc pc = .ok (.getfield 189, 3)) (hn : pc + 3 = pn) (kk : mb_Ev l G RX2 cc nL ret d pn lv (.inl (h.1 2 a b 3) :: st) h res) : mb_Ev l G RX2 cc nL ret d pc lv (mb_F 2 a b :: st) h res := mb_get (v := .inl (h.1 2 a b 3)) (ci := 0) (j := 3) in_X0 rfl (by decide) wf_X2_189 rfl rfl (fun _ => trivial) dg hn kk
theorem wl_X2_181 : Cond.methodLink RX2 181 yX2_feeOfDay ∈ mb_GW := mb_tb 708 (by decide +kernel) (by decide +kernel)
theorem mi_X2_feeOfDay : Cond.instanceMethod yX2_feeOfDay ∈ mb_GW := mb_tb 710 (by decide +kernel) (by decide +kernel)
theorem ms_X2_feeOfDay : Cond.selects RX2 yX2_feeOfDay yX2_feeOfDay ∈ mb_GW := mb_tp 12 (by decide +kernel) (by decide +kernel)
theorem mc_X2_feeOfDay : Cond.code yX2_feeOfDay cX2_feeOfDay 3 (some .long) ∈ mb_GW := mb_tb 711 (by decide +kernel) (by decide +kernel)
theorem wl_X2_185 : Cond.methodLink RX2 185 yX1_canOweMore ∈ mb_GW := mb_tb 713 (by decide +kernel) (by decide +kernel)
theorem mi_X1_canOweMore : Cond.instanceMethod yX1_canOweMore ∈ mb_GW := mb_tb 714 (by decide +kernel) (by decide +kernel)
theorem ms_X1_canOweMore : Cond.selects RX1 yX1_canOweMore yX1_canOweMore ∈ mb_GW := mb_tb 715 (by decide +kernel) (by decide +kernel)
theorem mc_X1_canOweMore : Cond.code yX1_canOweMore cX1_canOweMore 3 (some .boolean) ∈ mb_GW := mb_tb 716 (by decide +kernel) (by decide +kernel)
theorem pf_X2_167 {l : Launch} {G : mb_G} {cc : ByteArray} {nL : Nat} {ret : Option FieldType} {d pc pn : Nat} {lv : List (Nat × mb_AV)} {st : List mb_AV} {h : mb_AH} {res : mb_RS} {a b : Nat} {x : Int32} {K : mb_AH → Option mb_RS} (dg : decode cc pc = .ok (.putfield 167, 3)) (hn : pc + 3 = pn) (hr : mb_up (mb_sI h 3 a b 6 x) K = some res) (kk : ∀ h2, K h2 = some res → mb_Ev l G RX2 cc nL ret d pn lv st h2 res) : mb_Ev l G RX2 cc nL ret d pc lv (.inl x :: mb_F 3 a b :: st) h res := mb_putI (ci := 1) (j := 6) (ty := .int) in_X1 tyX1 tyX1_ok nmX1 rfl (by decide) wf_X2_167 rfl rfl rfl rfl rfl (Nat.le_of_ble_eq_true rfl) rfl dg hn (kk _ hr)
theorem wl_X2_170 : Cond.methodLink RX2 170 yX2_chargeAll ∈ mb_GW := mb_tb 704 (by decide +kernel) (by decide +kernel)
theorem mi_X2_chargeAll : Cond.instanceMethod yX2_chargeAll ∈ mb_GW := mb_tb 706 (by decide +kernel) (by decide +kernel)
theorem ms_X2_chargeAll : Cond.selects RX2 yX2_chargeAll yX2_chargeAll ∈ mb_GW := mb_tp 11 (by decide +kernel) (by decide +kernel)
theorem mc_X2_chargeAll : Cond.code yX2_chargeAll cX2_chargeAll 4 (some .boolean) ∈ mb_GW := mb_tb 707 (by decide +kernel) (by decide +kernel)
theorem wf_X2_199 : Cond.fieldLink RX2 199 "MarinaBerths$Boat" "home" "I" ∈ mb_GW := mb_tb 82 (by decide +kernel) (by decide +kernel)
theorem gf_X2_199 {l : Launch} {G : mb_G} {cc : ByteArray} {nL : Nat} {ret : Option FieldType} {d pc pn : Nat} {lv : List (Nat × mb_AV)} {st : List mb_AV} {h : mb_AH} {res : mb_RS} {a b : Nat} (dg : decode cc pc = .ok (.getfield 199, 3)) (hn : pc + 3 = pn) (kk : mb_Ev l G RX2 cc nL ret d pn lv (.inl (h.1 3 a b 5) :: st) h res) : mb_Ev l G RX2 cc nL ret d pc lv (mb_F 3 a b :: st) h res := mb_get (v := .inl (h.1 3 a b 5)) (ci := 1) (j := 5) in_X1 rfl (by decide) wf_X2_199 rfl rfl (fun _ => trivial) dg hn kk
theorem pf_X2_199 {l : Launch} {G : mb_G} {cc : ByteArray} {nL : Nat} {ret : Option FieldType} {d pc pn : Nat} {lv : List (Nat × mb_AV)} {st : List mb_AV} {h : mb_AH} {res : mb_RS} {a b : Nat} {x : Int32} {K : mb_AH → Option mb_RS} (dg : decode cc pc = .ok (.putfield 199, 3)) (hn : pc + 3 = pn) (hr : mb_up (mb_sI h 3 a b 5 x) K = some res) (kk : ∀ h2, K h2 = some res → mb_Ev l G RX2 cc nL ret d pn lv st h2 res) : mb_Ev l G RX2 cc nL ret d pc lv (.inl x :: mb_F 3 a b :: st) h res := mb_putI (ci := 1) (j := 5) (ty := .int) in_X1 tyX1 tyX1_ok nmX1 rfl (by decide) wf_X2_199 rfl rfl rfl rfl rfl (Nat.le_of_ble_eq_true rfl) rfl dg hn (kk _ hr)
theorem wl_X2_214 : Cond.methodLink RX2 214 yX2_beginToWait ∈ mb_GW := mb_tb 751 (by decide +kernel) (by decide +kernel)
theorem mi_X2_beginToWait : Cond.instanceMethod yX2_beginToWait ∈ mb_GW := mb_tb 665 (by decide +kernel) (by decide +kernel)
theorem ms_X2_beginToWait : Cond.selects RX2 yX2_beginToWait yX2_beginToWait ∈ mb_GW := mb_tb 666 (by decide +kernel) (by decide +kernel)
theorem mc_X2_beginToWait : Cond.code yX2_beginToWait cX2_beginToWait 2 none ∈ mb_GW := mb_tb 667 (by decide +kernel) (by decide +kernel)
theorem wl_X2_202 : Cond.methodLink RX2 202 yX1_move ∈ mb_GW := mb_tb 727 (by decide +kernel) (by decide +kernel)
theorem wl_X2_178 : Cond.methodLink RX2 178 yX2_beginSpring ∈ mb_GW := mb_tb 747 (by decide +kernel) (by decide +kernel)
theorem mi_X2_beginSpring : Cond.instanceMethod yX2_beginSpring ∈ mb_GW := mb_tb 749 (by decide +kernel) (by decide +kernel)
theorem ms_X2_beginSpring : Cond.selects RX2 yX2_beginSpring yX2_beginSpring ∈ mb_GW := mb_tp 15 (by decide +kernel) (by decide +kernel)
theorem mc_X2_beginSpring : Cond.code yX2_beginSpring cX2_beginSpring 4 none ∈ mb_GW := mb_tb 750 (by decide +kernel) (by decide +kernel)
theorem wl_X2_194 : Cond.methodLink RX2 194 yX4_clear ∈ mb_GW := mb_tb 722 (by decide +kernel) (by decide +kernel)
theorem mi_X4_clear : Cond.instanceMethod yX4_clear ∈ mb_GW := mb_tb 723 (by decide +kernel) (by decide +kernel)
theorem ms_X4_clear : Cond.selects RX4 yX4_clear yX4_clear ∈ mb_GW := mb_tb 724 (by decide +kernel) (by decide +kernel)
theorem mc_X4_clear : Cond.code yX4_clear cX4_clear 2 none ∈ mb_GW := mb_tb 725 (by decide +kernel) (by decide +kernel)
theorem wl_X2_211 : Cond.methodLink RX2 211 yX4_giveTo ∈ mb_GW := mb_tb 736 (by decide +kernel) (by decide +kernel)
theorem mi_X4_giveTo : Cond.instanceMethod yX4_giveTo ∈ mb_GW := mb_tb 737 (by decide +kernel) (by decide +kernel)
theorem ms_X4_giveTo : Cond.selects RX4 yX4_giveTo yX4_giveTo ∈ mb_GW := mb_tb 738 (by decide +kernel) (by decide +kernel)
theorem mc_X4_giveTo : Cond.code yX4_giveTo cX4_giveTo 5 (some .int) ∈ mb_GW := mb_tb 739 (by decide +kernel) (by decide +kernel)
theorem wl_X2_205 : Cond.methodLink RX2 205 yX2_shelterFor ∈ mb_GW := mb_tb 728 (by decide +kernel) (by decide +kernel)
theorem mi_X2_shelterFor : Cond.instanceMethod yX2_shelterFor ∈ mb_GW := mb_tb 730 (by decide +kernel) (by decide +kernel)
theorem ms_X2_shelterFor : Cond.selects RX2 yX2_shelterFor yX2_shelterFor ∈ mb_GW := mb_tp 13 (by decide +kernel) (by decide +kernel)
theorem mc_X2_shelterFor : Cond.code yX2_shelterFor cX2_shelterFor 4 (some .int) ∈ mb_GW := mb_tb 731 (by decide +kernel) (by decide +kernel)
theorem wl_X2_208 : Cond.methodLink RX2 208 yX4_ask ∈ mb_GW := mb_tb 732 (by decide +kernel) (by decide +kernel)
theorem mi_X4_ask : Cond.instanceMethod yX4_ask ∈ mb_GW := mb_tb 733 (by decide +kernel) (by decide +kernel)
theorem ms_X4_ask : Cond.selects RX4 yX4_ask yX4_ask ∈ mb_GW := mb_tb 734 (by decide +kernel) (by decide +kernel)
theorem mc_X4_ask : Cond.code yX4_ask cX4_ask 3 none ∈ mb_GW := mb_tb 735 (by decide +kernel) (by decide +kernel)
theorem wl_X2_174 : Cond.methodLink RX2 174 yX2_beginWinter ∈ mb_GW := mb_tb 718 (by decide +kernel) (by decide +kernel)
theorem mi_X2_beginWinter : Cond.instanceMethod yX2_beginWinter ∈ mb_GW := mb_tb 719 (by decide +kernel) (by decide +kernel)
theorem ms_X2_beginWinter : Cond.selects RX2 yX2_beginWinter yX2_beginWinter ∈ mb_GW := mb_tb 720 (by decide +kernel) (by decide +kernel)
theorem mc_X2_beginWinter : Cond.code yX2_beginWinter cX2_beginWinter 4 none ∈ mb_GW := mb_tb 721 (by decide +kernel) (by decide +kernel)
theorem wf_X5_33 : Cond.fieldLink RX5 33 "MarinaBerths" "text" "LMarinaBerths$TableText;" ∈ mb_GW := mb_tb 216 (by decide +kernel) (by decide +kernel)
theorem in_X5 : ∀ w ∈ u_ws RX5 TX5 6, w ∈ mb_GW := by
  have e : u_ws RX5 TX5 6 = [Cond.laysFinal RX5 "MarinaBerths" "now" "LMarinaBerths$Marina;", Cond.laysFinal RX5 "MarinaBerths" "thought" "LMarinaBerths$Marina;", Cond.laysFinal RX5 "MarinaBerths" "records" "[LMarinaBerths$Marina;", Cond.lays RX5 "MarinaBerths" "recordCount" "I", Cond.laysFinal RX5 "MarinaBerths" "plan" "LMarinaBerths$WinterPlan;", Cond.laysFinal RX5 "MarinaBerths" "text" "LMarinaBerths$TableText;"] := rfl
  rw [e]
  intro w hw
  simp only [List.mem_cons, List.not_mem_nil, or_false] at hw
  rcases hw with rfl | rfl | rfl | rfl | rfl | rfl
  · exact mb_tb 217 (by decide +kernel) (by decide +kernel)
  · exact mb_tb 219 (by decide +kernel) (by decide +kernel)
  · exact mb_tb 221 (by decide +kernel) (by decide +kernel)
  · exact mb_tb 223 (by decide +kernel) (by decide +kernel)
  · exact mb_tb 225 (by decide +kernel) (by decide +kernel)
  · exact mb_tb 227 (by decide +kernel) (by decide +kernel)
theorem gf_X5_33 {l : Launch} {G : mb_G} {cc : ByteArray} {nL : Nat} {ret : Option FieldType} {d pc pn : Nat} {lv : List (Nat × mb_AV)} {st : List mb_AV} {h : mb_AH} {res : mb_RS} {a b : Nat} (dg : decode cc pc = .ok (.getfield 33, 3)) (hn : pc + 3 = pn) (kk : mb_Ev l G RX5 cc nL ret d pn lv (mb_F 5 0 0 :: st) h res) : mb_Ev l G RX5 cc nL ret d pc lv (mb_F 0 a b :: st) h res := mb_get (v := mb_F 5 0 0) (ci := 5) (j := 5) in_X5 rfl (by decide) wf_X5_33 rfl rfl (fun _ => ⟨by decide, by decide⟩) dg hn kk
theorem wl_X5_37 : Cond.methodLink RX5 37 yX3_findFault ∈ mb_GW := mb_tb 285 (by decide +kernel) (by decide +kernel)
theorem mi_X3_findFault : Cond.instanceMethod yX3_findFault ∈ mb_GW := mb_tb 286 (by decide +kernel) (by decide +kernel)
theorem ms_X3_findFault : Cond.selects RX3 yX3_findFault yX3_findFault ∈ mb_GW := mb_tb 287 (by decide +kernel) (by decide +kernel)
theorem mc_X3_findFault : Cond.code yX3_findFault cX3_findFault 6 (some .int) ∈ mb_GW := mb_tb 288 (by decide +kernel) (by decide +kernel)
theorem wf_X5_312 : Cond.fieldLink RX5 312 "MarinaBerths" "recordCount" "I" ∈ mb_GW := mb_tb 214 (by decide +kernel) (by decide +kernel)
theorem gf_X5_312 {l : Launch} {G : mb_G} {cc : ByteArray} {nL : Nat} {ret : Option FieldType} {d pc pn : Nat} {lv : List (Nat × mb_AV)} {st : List mb_AV} {h : mb_AH} {res : mb_RS} {a b : Nat} (dg : decode cc pc = .ok (.getfield 312, 3)) (hn : pc + 3 = pn) (kk : mb_Ev l G RX5 cc nL ret d pn lv (.inl (h.1 0 a b 3) :: st) h res) : mb_Ev l G RX5 cc nL ret d pc lv (mb_F 0 a b :: st) h res := mb_get (v := .inl (h.1 0 a b 3)) (ci := 5) (j := 3) in_X5 rfl (by decide) wf_X5_312 rfl rfl (fun _ => trivial) dg hn kk
theorem wf_X5_19 : Cond.fieldLink RX5 19 "MarinaBerths" "records" "[LMarinaBerths$Marina;" ∈ mb_GW := mb_tb 213 (by decide +kernel) (by decide +kernel)
theorem gf_X5_19 {l : Launch} {G : mb_G} {cc : ByteArray} {nL : Nat} {ret : Option FieldType} {d pc pn : Nat} {lv : List (Nat × mb_AV)} {st : List mb_AV} {h : mb_AH} {res : mb_RS} {a b : Nat} (dg : decode cc pc = .ok (.getfield 19, 3)) (hn : pc + 3 = pn) (kk : mb_Ev l G RX5 cc nL ret d pn lv (mb_F 13 0 0 :: st) h res) : mb_Ev l G RX5 cc nL ret d pc lv (mb_F 0 a b :: st) h res := mb_get (v := mb_F 13 0 0) (ci := 5) (j := 2) in_X5 rfl (by decide) wf_X5_19 rfl rfl (fun _ => ⟨by decide, by decide⟩) dg hn kk
theorem wf_X5_10 : Cond.fieldLink RX5 10 "MarinaBerths" "now" "LMarinaBerths$Marina;" ∈ mb_GW := mb_tb 211 (by decide +kernel) (by decide +kernel)
theorem gf_X5_10 {l : Launch} {G : mb_G} {cc : ByteArray} {nL : Nat} {ret : Option FieldType} {d pc pn : Nat} {lv : List (Nat × mb_AV)} {st : List mb_AV} {h : mb_AH} {res : mb_RS} {a b : Nat} (dg : decode cc pc = .ok (.getfield 10, 3)) (hn : pc + 3 = pn) (kk : mb_Ev l G RX5 cc nL ret d pn lv (mb_F 1 0 0 :: st) h res) : mb_Ev l G RX5 cc nL ret d pc lv (mb_F 0 a b :: st) h res := mb_get (v := mb_F 1 0 0) (ci := 5) (j := 0) in_X5 rfl (by decide) wf_X5_10 rfl rfl (fun _ => ⟨by decide, by decide⟩) dg hn kk
theorem wl_X5_256 : Cond.methodLink RX5 256 yX2_copyFrom ∈ mb_GW := mb_tb 499 (by decide +kernel) (by decide +kernel)
theorem mi_X2_copyFrom : Cond.instanceMethod yX2_copyFrom ∈ mb_GW := mb_tb 500 (by decide +kernel) (by decide +kernel)
theorem ms_X2_copyFrom : Cond.selects RX2 yX2_copyFrom yX2_copyFrom ∈ mb_GW := mb_tb 501 (by decide +kernel) (by decide +kernel)
theorem mc_X2_copyFrom : Cond.code yX2_copyFrom cX2_copyFrom 3 none ∈ mb_GW := mb_tb 502 (by decide +kernel) (by decide +kernel)
theorem pf_X5_312 {l : Launch} {G : mb_G} {cc : ByteArray} {nL : Nat} {ret : Option FieldType} {d pc pn : Nat} {lv : List (Nat × mb_AV)} {st : List mb_AV} {h : mb_AH} {res : mb_RS} {a b : Nat} {x : Int32} {K : mb_AH → Option mb_RS} (dg : decode cc pc = .ok (.putfield 312, 3)) (hn : pc + 3 = pn) (hr : mb_up (mb_sI h 0 a b 3 x) K = some res) (kk : ∀ h2, K h2 = some res → mb_Ev l G RX5 cc nL ret d pn lv st h2 res) : mb_Ev l G RX5 cc nL ret d pc lv (.inl x :: mb_F 0 a b :: st) h res := mb_putI (ci := 5) (j := 3) (ty := .int) in_X5 tyX5 tyX5_ok nmX5 rfl (by decide) wf_X5_312 rfl rfl rfl rfl rfl (Nat.le_of_ble_eq_true rfl) rfl dg hn (kk _ hr)
theorem wl_X5_333 : Cond.methodLink RX5 333 yX5_dropOldestRecord ∈ mb_GW := mb_tb 495 (by decide +kernel) (by decide +kernel)
theorem mi_X5_dropOldestRecord : Cond.instanceMethod yX5_dropOldestRecord ∈ mb_GW := mb_tb 497 (by decide +kernel) (by decide +kernel)
theorem ms_X5_dropOldestRecord : Cond.selects RX5 yX5_dropOldestRecord yX5_dropOldestRecord ∈ mb_GW := mb_tp 9 (by decide +kernel) (by decide +kernel)
theorem mn_X5 : Cond.initialized RX5 ∈ mb_GW := mb_tb 1 (by decide +kernel) (by decide +kernel)
theorem mc_X5_dropOldestRecord : Cond.code yX5_dropOldestRecord cX5_dropOldestRecord 3 none ∈ mb_GW := mb_tb 498 (by decide +kernel) (by decide +kernel)
theorem wl_X5_48 : Cond.methodLink RX5 48 yX5_remember ∈ mb_GW := mb_tb 491 (by decide +kernel) (by decide +kernel)
theorem mi_X5_remember : Cond.instanceMethod yX5_remember ∈ mb_GW := mb_tb 493 (by decide +kernel) (by decide +kernel)
theorem ms_X5_remember : Cond.selects RX5 yX5_remember yX5_remember ∈ mb_GW := mb_tp 8 (by decide +kernel) (by decide +kernel)
theorem mc_X5_remember : Cond.code yX5_remember cX5_remember 1 none ∈ mb_GW := mb_tb 494 (by decide +kernel) (by decide +kernel)
theorem wl_X5_51 : Cond.methodLink RX5 51 yX2_takeLows ∈ mb_GW := mb_tb 515 (by decide +kernel) (by decide +kernel)
theorem mi_X2_takeLows : Cond.instanceMethod yX2_takeLows ∈ mb_GW := mb_tb 516 (by decide +kernel) (by decide +kernel)
theorem ms_X2_takeLows : Cond.selects RX2 yX2_takeLows yX2_takeLows ∈ mb_GW := mb_tb 517 (by decide +kernel) (by decide +kernel)
theorem mc_X2_takeLows : Cond.code yX2_takeLows cX2_takeLows 3 none ∈ mb_GW := mb_tb 518 (by decide +kernel) (by decide +kernel)
theorem wf_X5_55 : Cond.fieldLink RX5 55 "MarinaBerths$Marina" "lowCount" "I" ∈ mb_GW := mb_tb 119 (by decide +kernel) (by decide +kernel)
theorem gf_X5_55 {l : Launch} {G : mb_G} {cc : ByteArray} {nL : Nat} {ret : Option FieldType} {d pc pn : Nat} {lv : List (Nat × mb_AV)} {st : List mb_AV} {h : mb_AH} {res : mb_RS} {a b : Nat} (dg : decode cc pc = .ok (.getfield 55, 3)) (hn : pc + 3 = pn) (kk : mb_Ev l G RX5 cc nL ret d pn lv (.inl (h.1 1 a b 5) :: st) h res) : mb_Ev l G RX5 cc nL ret d pc lv (mb_F 1 a b :: st) h res := mb_get (v := .inl (h.1 1 a b 5)) (ci := 2) (j := 5) in_X2 rfl (by decide) wf_X5_55 rfl rfl (fun _ => trivial) dg hn kk
theorem wc_X5_41 : Cond.classLink RX5 41 "java/lang/IllegalArgumentException" ∈ mb_GW := mb_tb 331 (by decide +kernel) (by decide +kernel)
theorem mn_IAE : Cond.initialized "java/lang/IllegalArgumentException" ∈ mb_GW := mb_tb 11 (by decide +kernel) (by decide +kernel)
set_option maxRecDepth 100000 in
theorem at_X5_45 : ∀ w ∈ vx_atS RX5 45 "java/lang/IllegalArgumentException" ["java/lang/RuntimeException", "java/lang/Exception"], w ∈ mb_GW ∨ w ∈ mb_FW := by decide +kernel
theorem fn_X5_45 : ∀ n ∈ (["java/lang/RuntimeException", "java/lang/Exception"] : List String), Bundle.fit n = true := by decide +kernel
theorem wl_X5_61 : Cond.methodLink RX5 61 yX2_lowWater ∈ mb_GW := mb_tb 399 (by decide +kernel) (by decide +kernel)
theorem wl_X5_65 : Cond.methodLink RX5 65 yX5_isWithin ∈ mb_GW := mb_tb 535 (by decide +kernel) (by decide +kernel)
theorem mt_X5_isWithin : Cond.static yX5_isWithin ∈ mb_GW := mb_tb 536 (by decide +kernel) (by decide +kernel)
theorem mc_X5_isWithin : Cond.code yX5_isWithin cX5_isWithin 3 (some .boolean) ∈ mb_GW := mb_tb 537 (by decide +kernel) (by decide +kernel)
theorem wk_X5_354 : Cond.constant RX5 354 (9999999) ∈ mb_GW := mb_tb 541 (by decide +kernel) (by decide +kernel)
theorem wl_X5_69 : Cond.methodLink RX5 69 yX5_isRate ∈ mb_GW := mb_tb 538 (by decide +kernel) (by decide +kernel)
theorem mt_X5_isRate : Cond.static yX5_isRate ∈ mb_GW := mb_tb 539 (by decide +kernel) (by decide +kernel)
theorem mc_X5_isRate : Cond.code yX5_isRate cX5_isRate 1 (some .boolean) ∈ mb_GW := mb_tb 540 (by decide +kernel) (by decide +kernel)
theorem wf_X5_75 : Cond.fieldLink RX5 75 "MarinaBerths$Marina" "berthCount" "I" ∈ mb_GW := mb_tb 112 (by decide +kernel) (by decide +kernel)
theorem gf_X5_75 {l : Launch} {G : mb_G} {cc : ByteArray} {nL : Nat} {ret : Option FieldType} {d pc pn : Nat} {lv : List (Nat × mb_AV)} {st : List mb_AV} {h : mb_AH} {res : mb_RS} {a b : Nat} (dg : decode cc pc = .ok (.getfield 75, 3)) (hn : pc + 3 = pn) (kk : mb_Ev l G RX5 cc nL ret d pn lv (.inl (h.1 1 a b 1) :: st) h res) : mb_Ev l G RX5 cc nL ret d pc lv (mb_F 1 a b :: st) h res := mb_get (v := .inl (h.1 1 a b 1)) (ci := 2) (j := 1) in_X2 rfl (by decide) wf_X5_75 rfl rfl (fun _ => trivial) dg hn kk
theorem wf_X5_83 : Cond.fieldLink RX5 83 "MarinaBerths$Marina" "berths" "[LMarinaBerths$Berth;" ∈ mb_GW := mb_tb 110 (by decide +kernel) (by decide +kernel)
theorem gf_X5_83 {l : Launch} {G : mb_G} {cc : ByteArray} {nL : Nat} {ret : Option FieldType} {d pc pn : Nat} {lv : List (Nat × mb_AV)} {st : List mb_AV} {h : mb_AH} {res : mb_RS} {a b : Nat} (dg : decode cc pc = .ok (.getfield 83, 3)) (hn : pc + 3 = pn) (kk : mb_Ev l G RX5 cc nL ret d pn lv (mb_F 10 a 0 :: st) h res) : mb_Ev l G RX5 cc nL ret d pc lv (mb_F 1 a b :: st) h res := mb_get (v := mb_F 10 a 0) (ci := 2) (j := 0) in_X2 rfl (by decide) wf_X5_83 rfl rfl (fun z => ⟨z.1, Nat.zero_lt_one⟩) dg hn kk
theorem wl_X5_87 : Cond.methodLink RX5 87 yX0_become ∈ mb_GW := mb_tb 559 (by decide +kernel) (by decide +kernel)
theorem pf_X5_75 {l : Launch} {G : mb_G} {cc : ByteArray} {nL : Nat} {ret : Option FieldType} {d pc pn : Nat} {lv : List (Nat × mb_AV)} {st : List mb_AV} {h : mb_AH} {res : mb_RS} {a b : Nat} {x : Int32} {K : mb_AH → Option mb_RS} (dg : decode cc pc = .ok (.putfield 75, 3)) (hn : pc + 3 = pn) (hr : mb_up (mb_sI h 1 a b 1 x) K = some res) (kk : ∀ h2, K h2 = some res → mb_Ev l G RX5 cc nL ret d pn lv st h2 res) : mb_Ev l G RX5 cc nL ret d pc lv (.inl x :: mb_F 1 a b :: st) h res := mb_putI (ci := 2) (j := 1) (ty := .int) in_X2 tyX2 tyX2_ok nmX2 rfl (by decide) wf_X5_75 rfl rfl rfl rfl rfl (Nat.le_of_ble_eq_true rfl) rfl dg hn (kk _ hr)
theorem wc_X5_78 : Cond.classLink RX5 78 "java/lang/IllegalStateException" ∈ mb_GW := mb_tb 543 (by decide +kernel) (by decide +kernel)
theorem mn_ISE : Cond.initialized "java/lang/IllegalStateException" ∈ mb_GW := mb_tb 13 (by decide +kernel) (by decide +kernel)
set_option maxRecDepth 100000 in
theorem at_X5_82 : ∀ w ∈ vx_atS RX5 82 "java/lang/IllegalStateException" ["java/lang/RuntimeException", "java/lang/Exception"], w ∈ mb_GW ∨ w ∈ mb_FW := by decide +kernel
theorem fn_X5_82 : ∀ n ∈ (["java/lang/RuntimeException", "java/lang/Exception"] : List String), Bundle.fit n = true := by decide +kernel
theorem wf_X5_95 : Cond.fieldLink RX5 95 "MarinaBerths$Marina" "boatCount" "I" ∈ mb_GW := mb_tb 116 (by decide +kernel) (by decide +kernel)
theorem gf_X5_95 {l : Launch} {G : mb_G} {cc : ByteArray} {nL : Nat} {ret : Option FieldType} {d pc pn : Nat} {lv : List (Nat × mb_AV)} {st : List mb_AV} {h : mb_AH} {res : mb_RS} {a b : Nat} (dg : decode cc pc = .ok (.getfield 95, 3)) (hn : pc + 3 = pn) (kk : mb_Ev l G RX5 cc nL ret d pn lv (.inl (h.1 1 a b 3) :: st) h res) : mb_Ev l G RX5 cc nL ret d pc lv (mb_F 1 a b :: st) h res := mb_get (v := .inl (h.1 1 a b 3)) (ci := 2) (j := 3) in_X2 rfl (by decide) wf_X5_95 rfl rfl (fun _ => trivial) dg hn kk
theorem wf_X5_100 : Cond.fieldLink RX5 100 "MarinaBerths$Marina" "boats" "[LMarinaBerths$Boat;" ∈ mb_GW := mb_tb 114 (by decide +kernel) (by decide +kernel)
theorem gf_X5_100 {l : Launch} {G : mb_G} {cc : ByteArray} {nL : Nat} {ret : Option FieldType} {d pc pn : Nat} {lv : List (Nat × mb_AV)} {st : List mb_AV} {h : mb_AH} {res : mb_RS} {a b : Nat} (dg : decode cc pc = .ok (.getfield 100, 3)) (hn : pc + 3 = pn) (kk : mb_Ev l G RX5 cc nL ret d pn lv (mb_F 11 a 0 :: st) h res) : mb_Ev l G RX5 cc nL ret d pc lv (mb_F 1 a b :: st) h res := mb_get (v := mb_F 11 a 0) (ci := 2) (j := 2) in_X2 rfl (by decide) wf_X5_100 rfl rfl (fun z => ⟨z.1, Nat.zero_lt_one⟩) dg hn kk
theorem wl_X5_104 : Cond.methodLink RX5 104 yX1_become ∈ mb_GW := mb_tb 569 (by decide +kernel) (by decide +kernel)
theorem mi_X1_become : Cond.instanceMethod yX1_become ∈ mb_GW := mb_tb 570 (by decide +kernel) (by decide +kernel)
theorem ms_X1_become : Cond.selects RX1 yX1_become yX1_become ∈ mb_GW := mb_tb 571 (by decide +kernel) (by decide +kernel)
theorem mc_X1_become : Cond.code yX1_become cX1_become 4 none ∈ mb_GW := mb_tb 572 (by decide +kernel) (by decide +kernel)
theorem pf_X5_95 {l : Launch} {G : mb_G} {cc : ByteArray} {nL : Nat} {ret : Option FieldType} {d pc pn : Nat} {lv : List (Nat × mb_AV)} {st : List mb_AV} {h : mb_AH} {res : mb_RS} {a b : Nat} {x : Int32} {K : mb_AH → Option mb_RS} (dg : decode cc pc = .ok (.putfield 95, 3)) (hn : pc + 3 = pn) (hr : mb_up (mb_sI h 1 a b 3 x) K = some res) (kk : ∀ h2, K h2 = some res → mb_Ev l G RX5 cc nL ret d pn lv st h2 res) : mb_Ev l G RX5 cc nL ret d pc lv (.inl x :: mb_F 1 a b :: st) h res := mb_putI (ci := 2) (j := 3) (ty := .int) in_X2 tyX2 tyX2_ok nmX2 rfl (by decide) wf_X5_95 rfl rfl rfl rfl rfl (Nat.le_of_ble_eq_true rfl) rfl dg hn (kk _ hr)
theorem wl_X5_351 : Cond.methodLink RX5 351 yX5_isDayOfYear ∈ mb_GW := mb_tb 592 (by decide +kernel) (by decide +kernel)
theorem mt_X5_isDayOfYear : Cond.static yX5_isDayOfYear ∈ mb_GW := mb_tb 593 (by decide +kernel) (by decide +kernel)
theorem mc_X5_isDayOfYear : Cond.code yX5_isDayOfYear cX5_isDayOfYear 1 (some .boolean) ∈ mb_GW := mb_tb 594 (by decide +kernel) (by decide +kernel)
theorem wf_X5_127 : Cond.fieldLink RX5 127 "MarinaBerths$Marina" "firstOfSpring" "I" ∈ mb_GW := mb_tb 129 (by decide +kernel) (by decide +kernel)
theorem gf_X5_127 {l : Launch} {G : mb_G} {cc : ByteArray} {nL : Nat} {ret : Option FieldType} {d pc pn : Nat} {lv : List (Nat × mb_AV)} {st : List mb_AV} {h : mb_AH} {res : mb_RS} {a b : Nat} (dg : decode cc pc = .ok (.getfield 127, 3)) (hn : pc + 3 = pn) (kk : mb_Ev l G RX5 cc nL ret d pn lv (.inl (h.1 1 a b 10) :: st) h res) : mb_Ev l G RX5 cc nL ret d pc lv (mb_F 1 a b :: st) h res := mb_get (v := .inl (h.1 1 a b 10)) (ci := 2) (j := 10) in_X2 rfl (by decide) wf_X5_127 rfl rfl (fun _ => trivial) dg hn kk
theorem wf_X5_124 : Cond.fieldLink RX5 124 "MarinaBerths$Marina" "firstOfWinter" "I" ∈ mb_GW := mb_tb 127 (by decide +kernel) (by decide +kernel)
theorem gf_X5_124 {l : Launch} {G : mb_G} {cc : ByteArray} {nL : Nat} {ret : Option FieldType} {d pc pn : Nat} {lv : List (Nat × mb_AV)} {st : List mb_AV} {h : mb_AH} {res : mb_RS} {a b : Nat} (dg : decode cc pc = .ok (.getfield 124, 3)) (hn : pc + 3 = pn) (kk : mb_Ev l G RX5 cc nL ret d pn lv (.inl (h.1 1 a b 9) :: st) h res) : mb_Ev l G RX5 cc nL ret d pc lv (mb_F 1 a b :: st) h res := mb_get (v := .inl (h.1 1 a b 9)) (ci := 2) (j := 9) in_X2 rfl (by decide) wf_X5_124 rfl rfl (fun _ => trivial) dg hn kk
theorem mb_out0_3 {x : Int32} (q0 : x ≠ 0) (q1 : x ≠ 1) (q2 : x ≠ 2) (q3 : x ≠ 3) : x.toInt < 0 ∨ 3 < x.toInt := by
  rcases Int.lt_or_le x.toInt 0 with z | z
  · exact Or.inl z
  · rcases Int.lt_or_le 3 x.toInt with z2 | z2
    · exact Or.inr z2
    · exfalso
      have e : x.toInt = 0 ∨ x.toInt = 1 ∨ x.toInt = 2 ∨ x.toInt = 3 := by omega
      rcases e with e | e | e | e
      · exact q0 (Int32.toInt_inj.mp (e.trans (by decide)))
      · exact q1 (Int32.toInt_inj.mp (e.trans (by decide)))
      · exact q2 (Int32.toInt_inj.mp (e.trans (by decide)))
      · exact q3 (Int32.toInt_inj.mp (e.trans (by decide)))
theorem wl_X5_109 : Cond.methodLink RX5 109 yX5_maySet ∈ mb_GW := mb_tb 588 (by decide +kernel) (by decide +kernel)
theorem mi_X5_maySet : Cond.instanceMethod yX5_maySet ∈ mb_GW := mb_tb 590 (by decide +kernel) (by decide +kernel)
theorem ms_X5_maySet : Cond.selects RX5 yX5_maySet yX5_maySet ∈ mb_GW := mb_tp 10 (by decide +kernel) (by decide +kernel)
theorem mc_X5_maySet : Cond.code yX5_maySet cX5_maySet 3 (some .boolean) ∈ mb_GW := mb_tb 591 (by decide +kernel) (by decide +kernel)
theorem wf_X5_118 : Cond.fieldLink RX5 118 "MarinaBerths$Marina" "clearance" "I" ∈ mb_GW := mb_tb 123 (by decide +kernel) (by decide +kernel)
theorem gf_X5_118 {l : Launch} {G : mb_G} {cc : ByteArray} {nL : Nat} {ret : Option FieldType} {d pc pn : Nat} {lv : List (Nat × mb_AV)} {st : List mb_AV} {h : mb_AH} {res : mb_RS} {a b : Nat} (dg : decode cc pc = .ok (.getfield 118, 3)) (hn : pc + 3 = pn) (kk : mb_Ev l G RX5 cc nL ret d pn lv (.inl (h.1 1 a b 7) :: st) h res) : mb_Ev l G RX5 cc nL ret d pc lv (mb_F 1 a b :: st) h res := mb_get (v := .inl (h.1 1 a b 7)) (ci := 2) (j := 7) in_X2 rfl (by decide) wf_X5_118 rfl rfl (fun _ => trivial) dg hn kk
theorem wf_X5_121 : Cond.fieldLink RX5 121 "MarinaBerths$Marina" "rateAshore" "I" ∈ mb_GW := mb_tb 125 (by decide +kernel) (by decide +kernel)
theorem gf_X5_121 {l : Launch} {G : mb_G} {cc : ByteArray} {nL : Nat} {ret : Option FieldType} {d pc pn : Nat} {lv : List (Nat × mb_AV)} {st : List mb_AV} {h : mb_AH} {res : mb_RS} {a b : Nat} (dg : decode cc pc = .ok (.getfield 121, 3)) (hn : pc + 3 = pn) (kk : mb_Ev l G RX5 cc nL ret d pn lv (.inl (h.1 1 a b 8) :: st) h res) : mb_Ev l G RX5 cc nL ret d pc lv (mb_F 1 a b :: st) h res := mb_get (v := .inl (h.1 1 a b 8)) (ci := 2) (j := 8) in_X2 rfl (by decide) wf_X5_121 rfl rfl (fun _ => trivial) dg hn kk
theorem wf_X5_200 : Cond.fieldLink RX5 200 "MarinaBerths$Marina" "day" "I" ∈ mb_GW := mb_tb 131 (by decide +kernel) (by decide +kernel)
theorem gf_X5_200 {l : Launch} {G : mb_G} {cc : ByteArray} {nL : Nat} {ret : Option FieldType} {d pc pn : Nat} {lv : List (Nat × mb_AV)} {st : List mb_AV} {h : mb_AH} {res : mb_RS} {a b : Nat} (dg : decode cc pc = .ok (.getfield 200, 3)) (hn : pc + 3 = pn) (kk : mb_Ev l G RX5 cc nL ret d pn lv (.inl (h.1 1 a b 11) :: st) h res) : mb_Ev l G RX5 cc nL ret d pc lv (mb_F 1 a b :: st) h res := mb_get (v := .inl (h.1 1 a b 11)) (ci := 2) (j := 11) in_X2 rfl (by decide) wf_X5_200 rfl rfl (fun _ => trivial) dg hn kk
theorem wf_X5_203 : Cond.fieldLink RX5 203 "MarinaBerths$Marina" "winter" "Z" ∈ mb_GW := mb_tb 133 (by decide +kernel) (by decide +kernel)
theorem gf_X5_203 {l : Launch} {G : mb_G} {cc : ByteArray} {nL : Nat} {ret : Option FieldType} {d pc pn : Nat} {lv : List (Nat × mb_AV)} {st : List mb_AV} {h : mb_AH} {res : mb_RS} {a b : Nat} (dg : decode cc pc = .ok (.getfield 203, 3)) (hn : pc + 3 = pn) (kk : mb_Ev l G RX5 cc nL ret d pn lv (.inl (h.1 1 a b 12) :: st) h res) : mb_Ev l G RX5 cc nL ret d pc lv (mb_F 1 a b :: st) h res := mb_get (v := .inl (h.1 1 a b 12)) (ci := 2) (j := 12) in_X2 rfl (by decide) wf_X5_203 rfl rfl (fun _ => trivial) dg hn kk
theorem wl_X5_206 : Cond.methodLink RX5 206 yX2_countIn ∈ mb_GW := mb_tb 311 (by decide +kernel) (by decide +kernel)
theorem mi_X2_countIn : Cond.instanceMethod yX2_countIn ∈ mb_GW := mb_tb 312 (by decide +kernel) (by decide +kernel)
theorem ms_X2_countIn : Cond.selects RX2 yX2_countIn yX2_countIn ∈ mb_GW := mb_tb 313 (by decide +kernel) (by decide +kernel)
theorem mc_X2_countIn : Cond.code yX2_countIn cX2_countIn 4 (some .int) ∈ mb_GW := mb_tb 314 (by decide +kernel) (by decide +kernel)
theorem wl_X5_209 : Cond.methodLink RX5 209 yX2_countAground ∈ mb_GW := mb_tb 315 (by decide +kernel) (by decide +kernel)
theorem mi_X2_countAground : Cond.instanceMethod yX2_countAground ∈ mb_GW := mb_tb 316 (by decide +kernel) (by decide +kernel)
theorem ms_X2_countAground : Cond.selects RX2 yX2_countAground yX2_countAground ∈ mb_GW := mb_tb 317 (by decide +kernel) (by decide +kernel)
theorem mc_X2_countAground : Cond.code yX2_countAground cX2_countAground 3 (some .int) ∈ mb_GW := mb_tb 318 (by decide +kernel) (by decide +kernel)
theorem wf_X5_152 : Cond.fieldLink RX5 152 "MarinaBerths$Marina" "lowest" "I" ∈ mb_GW := mb_tb 121 (by decide +kernel) (by decide +kernel)
theorem gf_X5_152 {l : Launch} {G : mb_G} {cc : ByteArray} {nL : Nat} {ret : Option FieldType} {d pc pn : Nat} {lv : List (Nat × mb_AV)} {st : List mb_AV} {h : mb_AH} {res : mb_RS} {a b : Nat} (dg : decode cc pc = .ok (.getfield 152, 3)) (hn : pc + 3 = pn) (kk : mb_Ev l G RX5 cc nL ret d pn lv (.inl (h.1 1 a b 6) :: st) h res) : mb_Ev l G RX5 cc nL ret d pc lv (mb_F 1 a b :: st) h res := mb_get (v := .inl (h.1 1 a b 6)) (ci := 2) (j := 6) in_X2 rfl (by decide) wf_X5_152 rfl rfl (fun _ => trivial) dg hn kk
theorem mb_out0_13 {x : Int32} (q0 : x ≠ 0) (q1 : x ≠ 1) (q2 : x ≠ 2) (q3 : x ≠ 3) (q4 : x ≠ 4) (q5 : x ≠ 5) (q6 : x ≠ 6) (q7 : x ≠ 7) (q8 : x ≠ 8) (q9 : x ≠ 9) (q10 : x ≠ 10) (q11 : x ≠ 11) (q12 : x ≠ 12) (q13 : x ≠ 13) : x.toInt < 0 ∨ 13 < x.toInt := by
  rcases Int.lt_or_le x.toInt 0 with z | z
  · exact Or.inl z
  · rcases Int.lt_or_le 13 x.toInt with z2 | z2
    · exact Or.inr z2
    · exfalso
      have e : x.toInt = 0 ∨ x.toInt = 1 ∨ x.toInt = 2 ∨ x.toInt = 3 ∨ x.toInt = 4 ∨ x.toInt = 5 ∨ x.toInt = 6 ∨ x.toInt = 7 ∨ x.toInt = 8 ∨ x.toInt = 9 ∨ x.toInt = 10 ∨ x.toInt = 11 ∨ x.toInt = 12 ∨ x.toInt = 13 := by omega
      rcases e with e | e | e | e | e | e | e | e | e | e | e | e | e | e
      · exact q0 (Int32.toInt_inj.mp (e.trans (by decide)))
      · exact q1 (Int32.toInt_inj.mp (e.trans (by decide)))
      · exact q2 (Int32.toInt_inj.mp (e.trans (by decide)))
      · exact q3 (Int32.toInt_inj.mp (e.trans (by decide)))
      · exact q4 (Int32.toInt_inj.mp (e.trans (by decide)))
      · exact q5 (Int32.toInt_inj.mp (e.trans (by decide)))
      · exact q6 (Int32.toInt_inj.mp (e.trans (by decide)))
      · exact q7 (Int32.toInt_inj.mp (e.trans (by decide)))
      · exact q8 (Int32.toInt_inj.mp (e.trans (by decide)))
      · exact q9 (Int32.toInt_inj.mp (e.trans (by decide)))
      · exact q10 (Int32.toInt_inj.mp (e.trans (by decide)))
      · exact q11 (Int32.toInt_inj.mp (e.trans (by decide)))
      · exact q12 (Int32.toInt_inj.mp (e.trans (by decide)))
      · exact q13 (Int32.toInt_inj.mp (e.trans (by decide)))
theorem wl_X5_115 : Cond.methodLink RX5 115 yX5_info ∈ mb_GW := mb_tb 307 (by decide +kernel) (by decide +kernel)
theorem mi_X5_info : Cond.instanceMethod yX5_info ∈ mb_GW := mb_tb 308 (by decide +kernel) (by decide +kernel)
theorem ms_X5_info : Cond.selects RX5 yX5_info yX5_info ∈ mb_GW := mb_tb 309 (by decide +kernel) (by decide +kernel)
theorem mc_X5_info : Cond.code yX5_info cX5_info 2 (some .int) ∈ mb_GW := mb_tb 310 (by decide +kernel) (by decide +kernel)
theorem pf_X5_118 {l : Launch} {G : mb_G} {cc : ByteArray} {nL : Nat} {ret : Option FieldType} {d pc pn : Nat} {lv : List (Nat × mb_AV)} {st : List mb_AV} {h : mb_AH} {res : mb_RS} {a b : Nat} {x : Int32} {K : mb_AH → Option mb_RS} (dg : decode cc pc = .ok (.putfield 118, 3)) (hn : pc + 3 = pn) (hr : mb_up (mb_sI h 1 a b 7 x) K = some res) (kk : ∀ h2, K h2 = some res → mb_Ev l G RX5 cc nL ret d pn lv st h2 res) : mb_Ev l G RX5 cc nL ret d pc lv (.inl x :: mb_F 1 a b :: st) h res := mb_putI (ci := 2) (j := 7) (ty := .int) in_X2 tyX2 tyX2_ok nmX2 rfl (by decide) wf_X5_118 rfl rfl rfl rfl rfl (Nat.le_of_ble_eq_true rfl) rfl dg hn (kk _ hr)
theorem pf_X5_121 {l : Launch} {G : mb_G} {cc : ByteArray} {nL : Nat} {ret : Option FieldType} {d pc pn : Nat} {lv : List (Nat × mb_AV)} {st : List mb_AV} {h : mb_AH} {res : mb_RS} {a b : Nat} {x : Int32} {K : mb_AH → Option mb_RS} (dg : decode cc pc = .ok (.putfield 121, 3)) (hn : pc + 3 = pn) (hr : mb_up (mb_sI h 1 a b 8 x) K = some res) (kk : ∀ h2, K h2 = some res → mb_Ev l G RX5 cc nL ret d pn lv st h2 res) : mb_Ev l G RX5 cc nL ret d pc lv (.inl x :: mb_F 1 a b :: st) h res := mb_putI (ci := 2) (j := 8) (ty := .int) in_X2 tyX2 tyX2_ok nmX2 rfl (by decide) wf_X5_121 rfl rfl rfl rfl rfl (Nat.le_of_ble_eq_true rfl) rfl dg hn (kk _ hr)
theorem pf_X5_124 {l : Launch} {G : mb_G} {cc : ByteArray} {nL : Nat} {ret : Option FieldType} {d pc pn : Nat} {lv : List (Nat × mb_AV)} {st : List mb_AV} {h : mb_AH} {res : mb_RS} {a b : Nat} {x : Int32} {K : mb_AH → Option mb_RS} (dg : decode cc pc = .ok (.putfield 124, 3)) (hn : pc + 3 = pn) (hr : mb_up (mb_sI h 1 a b 9 x) K = some res) (kk : ∀ h2, K h2 = some res → mb_Ev l G RX5 cc nL ret d pn lv st h2 res) : mb_Ev l G RX5 cc nL ret d pc lv (.inl x :: mb_F 1 a b :: st) h res := mb_putI (ci := 2) (j := 9) (ty := .int) in_X2 tyX2 tyX2_ok nmX2 rfl (by decide) wf_X5_124 rfl rfl rfl rfl rfl (Nat.le_of_ble_eq_true rfl) rfl dg hn (kk _ hr)
theorem pf_X5_127 {l : Launch} {G : mb_G} {cc : ByteArray} {nL : Nat} {ret : Option FieldType} {d pc pn : Nat} {lv : List (Nat × mb_AV)} {st : List mb_AV} {h : mb_AH} {res : mb_RS} {a b : Nat} {x : Int32} {K : mb_AH → Option mb_RS} (dg : decode cc pc = .ok (.putfield 127, 3)) (hn : pc + 3 = pn) (hr : mb_up (mb_sI h 1 a b 10 x) K = some res) (kk : ∀ h2, K h2 = some res → mb_Ev l G RX5 cc nL ret d pn lv st h2 res) : mb_Ev l G RX5 cc nL ret d pc lv (.inl x :: mb_F 1 a b :: st) h res := mb_putI (ci := 2) (j := 10) (ty := .int) in_X2 tyX2 tyX2_ok nmX2 rfl (by decide) wf_X5_127 rfl rfl rfl rfl rfl (Nat.le_of_ble_eq_true rfl) rfl dg hn (kk _ hr)
theorem mb_out0_2 {x : Int32} (q0 : x ≠ 0) (q1 : x ≠ 1) (q2 : x ≠ 2) : x.toInt < 0 ∨ 2 < x.toInt := by
  rcases Int.lt_or_le x.toInt 0 with z | z
  · exact Or.inl z
  · rcases Int.lt_or_le 2 x.toInt with z2 | z2
    · exact Or.inr z2
    · exfalso
      have e : x.toInt = 0 ∨ x.toInt = 1 ∨ x.toInt = 2 := by omega
      rcases e with e | e | e
      · exact q0 (Int32.toInt_inj.mp (e.trans (by decide)))
      · exact q1 (Int32.toInt_inj.mp (e.trans (by decide)))
      · exact q2 (Int32.toInt_inj.mp (e.trans (by decide)))
theorem wc_X5_342 : Cond.classLink RX5 342 "java/lang/IndexOutOfBoundsException" ∈ mb_GW := mb_tb 412 (by decide +kernel) (by decide +kernel)
theorem mn_IOE : Cond.initialized "java/lang/IndexOutOfBoundsException" ∈ mb_GW := mb_tb 14 (by decide +kernel) (by decide +kernel)
set_option maxRecDepth 100000 in
theorem at_X5_346 : ∀ w ∈ vx_atS RX5 346 "java/lang/IndexOutOfBoundsException" ["java/lang/RuntimeException", "java/lang/Exception"], w ∈ mb_GW ∨ w ∈ mb_FW := by decide +kernel
theorem fn_X5_346 : ∀ n ∈ (["java/lang/RuntimeException", "java/lang/Exception"] : List String), Bundle.fit n = true := by decide +kernel
theorem wl_X5_130 : Cond.methodLink RX5 130 yX5_checkBerth ∈ mb_GW := mb_tb 408 (by decide +kernel) (by decide +kernel)
theorem mi_X5_checkBerth : Cond.instanceMethod yX5_checkBerth ∈ mb_GW := mb_tb 410 (by decide +kernel) (by decide +kernel)
theorem ms_X5_checkBerth : Cond.selects RX5 yX5_checkBerth yX5_checkBerth ∈ mb_GW := mb_tp 5 (by decide +kernel) (by decide +kernel)
theorem mc_X5_checkBerth : Cond.code yX5_checkBerth cX5_checkBerth 2 none ∈ mb_GW := mb_tb 411 (by decide +kernel) (by decide +kernel)
theorem wf_X5_136 : Cond.fieldLink RX5 136 "MarinaBerths$Berth" "rate" "I" ∈ mb_GW := mb_tb 48 (by decide +kernel) (by decide +kernel)
theorem gf_X5_136 {l : Launch} {G : mb_G} {cc : ByteArray} {nL : Nat} {ret : Option FieldType} {d pc pn : Nat} {lv : List (Nat × mb_AV)} {st : List mb_AV} {h : mb_AH} {res : mb_RS} {a b : Nat} (dg : decode cc pc = .ok (.getfield 136, 3)) (hn : pc + 3 = pn) (kk : mb_Ev l G RX5 cc nL ret d pn lv (.inl (h.1 2 a b 3) :: st) h res) : mb_Ev l G RX5 cc nL ret d pc lv (mb_F 2 a b :: st) h res := mb_get (v := .inl (h.1 2 a b 3)) (ci := 0) (j := 3) in_X0 rfl (by decide) wf_X5_136 rfl rfl (fun _ => trivial) dg hn kk
theorem pf_X5_136 {l : Launch} {G : mb_G} {cc : ByteArray} {nL : Nat} {ret : Option FieldType} {d pc pn : Nat} {lv : List (Nat × mb_AV)} {st : List mb_AV} {h : mb_AH} {res : mb_RS} {a b : Nat} {x : Int32} {K : mb_AH → Option mb_RS} (dg : decode cc pc = .ok (.putfield 136, 3)) (hn : pc + 3 = pn) (hr : mb_up (mb_sI h 2 a b 3 x) K = some res) (kk : ∀ h2, K h2 = some res → mb_Ev l G RX5 cc nL ret d pn lv st h2 res) : mb_Ev l G RX5 cc nL ret d pc lv (.inl x :: mb_F 2 a b :: st) h res := mb_putI (ci := 0) (j := 3) (ty := .int) in_X0 tyX0 tyX0_ok nmX0 rfl (by decide) wf_X5_136 rfl rfl rfl rfl rfl (Nat.le_of_ble_eq_true rfl) rfl dg hn (kk _ hr)
theorem wf_X5_139 : Cond.fieldLink RX5 139 "MarinaBerths$Berth" "depth" "I" ∈ mb_GW := mb_tb 40 (by decide +kernel) (by decide +kernel)
theorem gf_X5_139 {l : Launch} {G : mb_G} {cc : ByteArray} {nL : Nat} {ret : Option FieldType} {d pc pn : Nat} {lv : List (Nat × mb_AV)} {st : List mb_AV} {h : mb_AH} {res : mb_RS} {a b : Nat} (dg : decode cc pc = .ok (.getfield 139, 3)) (hn : pc + 3 = pn) (kk : mb_Ev l G RX5 cc nL ret d pn lv (.inl (h.1 2 a b 0) :: st) h res) : mb_Ev l G RX5 cc nL ret d pc lv (mb_F 2 a b :: st) h res := mb_get (v := .inl (h.1 2 a b 0)) (ci := 0) (j := 0) in_X0 rfl (by decide) wf_X5_139 rfl rfl (fun _ => trivial) dg hn kk
theorem wf_X5_142 : Cond.fieldLink RX5 142 "MarinaBerths$Berth" "length" "I" ∈ mb_GW := mb_tb 43 (by decide +kernel) (by decide +kernel)
theorem gf_X5_142 {l : Launch} {G : mb_G} {cc : ByteArray} {nL : Nat} {ret : Option FieldType} {d pc pn : Nat} {lv : List (Nat × mb_AV)} {st : List mb_AV} {h : mb_AH} {res : mb_RS} {a b : Nat} (dg : decode cc pc = .ok (.getfield 142, 3)) (hn : pc + 3 = pn) (kk : mb_Ev l G RX5 cc nL ret d pn lv (.inl (h.1 2 a b 1) :: st) h res) : mb_Ev l G RX5 cc nL ret d pc lv (mb_F 2 a b :: st) h res := mb_get (v := .inl (h.1 2 a b 1)) (ci := 0) (j := 1) in_X0 rfl (by decide) wf_X5_142 rfl rfl (fun _ => trivial) dg hn kk
theorem wf_X5_145 : Cond.fieldLink RX5 145 "MarinaBerths$Berth" "exposed" "Z" ∈ mb_GW := mb_tb 45 (by decide +kernel) (by decide +kernel)
theorem gf_X5_145 {l : Launch} {G : mb_G} {cc : ByteArray} {nL : Nat} {ret : Option FieldType} {d pc pn : Nat} {lv : List (Nat × mb_AV)} {st : List mb_AV} {h : mb_AH} {res : mb_RS} {a b : Nat} (dg : decode cc pc = .ok (.getfield 145, 3)) (hn : pc + 3 = pn) (kk : mb_Ev l G RX5 cc nL ret d pn lv (.inl (h.1 2 a b 2) :: st) h res) : mb_Ev l G RX5 cc nL ret d pc lv (mb_F 2 a b :: st) h res := mb_get (v := .inl (h.1 2 a b 2)) (ci := 0) (j := 2) in_X0 rfl (by decide) wf_X5_145 rfl rfl (fun _ => trivial) dg hn kk
theorem wl_X5_149 : Cond.methodLink RX5 149 yX2_boatIn ∈ mb_GW := mb_tb 428 (by decide +kernel) (by decide +kernel)
theorem wl_X5_155 : Cond.methodLink RX5 155 yX2_countFitting ∈ mb_GW := mb_tb 432 (by decide +kernel) (by decide +kernel)
theorem mi_X2_countFitting : Cond.instanceMethod yX2_countFitting ∈ mb_GW := mb_tb 433 (by decide +kernel) (by decide +kernel)
theorem ms_X2_countFitting : Cond.selects RX2 yX2_countFitting yX2_countFitting ∈ mb_GW := mb_tb 434 (by decide +kernel) (by decide +kernel)
theorem mc_X2_countFitting : Cond.code yX2_countFitting cX2_countFitting 4 (some .int) ∈ mb_GW := mb_tb 435 (by decide +kernel) (by decide +kernel)
theorem mb_out0_6 {x : Int32} (q0 : x ≠ 0) (q1 : x ≠ 1) (q2 : x ≠ 2) (q3 : x ≠ 3) (q4 : x ≠ 4) (q5 : x ≠ 5) (q6 : x ≠ 6) : x.toInt < 0 ∨ 6 < x.toInt := by
  rcases Int.lt_or_le x.toInt 0 with z | z
  · exact Or.inl z
  · rcases Int.lt_or_le 6 x.toInt with z2 | z2
    · exact Or.inr z2
    · exfalso
      have e : x.toInt = 0 ∨ x.toInt = 1 ∨ x.toInt = 2 ∨ x.toInt = 3 ∨ x.toInt = 4 ∨ x.toInt = 5 ∨ x.toInt = 6 := by omega
      rcases e with e | e | e | e | e | e | e
      · exact q0 (Int32.toInt_inj.mp (e.trans (by decide)))
      · exact q1 (Int32.toInt_inj.mp (e.trans (by decide)))
      · exact q2 (Int32.toInt_inj.mp (e.trans (by decide)))
      · exact q3 (Int32.toInt_inj.mp (e.trans (by decide)))
      · exact q4 (Int32.toInt_inj.mp (e.trans (by decide)))
      · exact q5 (Int32.toInt_inj.mp (e.trans (by decide)))
      · exact q6 (Int32.toInt_inj.mp (e.trans (by decide)))
theorem wl_X5_161 : Cond.methodLink RX5 161 yX5_checkBoat ∈ mb_GW := mb_tb 453 (by decide +kernel) (by decide +kernel)
theorem mi_X5_checkBoat : Cond.instanceMethod yX5_checkBoat ∈ mb_GW := mb_tb 455 (by decide +kernel) (by decide +kernel)
theorem ms_X5_checkBoat : Cond.selects RX5 yX5_checkBoat yX5_checkBoat ∈ mb_GW := mb_tp 7 (by decide +kernel) (by decide +kernel)
theorem mc_X5_checkBoat : Cond.code yX5_checkBoat cX5_checkBoat 2 none ∈ mb_GW := mb_tb 456 (by decide +kernel) (by decide +kernel)
theorem wf_X5_164 : Cond.fieldLink RX5 164 "MarinaBerths$Boat" "length" "I" ∈ mb_GW := mb_tb 67 (by decide +kernel) (by decide +kernel)
theorem gf_X5_164 {l : Launch} {G : mb_G} {cc : ByteArray} {nL : Nat} {ret : Option FieldType} {d pc pn : Nat} {lv : List (Nat × mb_AV)} {st : List mb_AV} {h : mb_AH} {res : mb_RS} {a b : Nat} (dg : decode cc pc = .ok (.getfield 164, 3)) (hn : pc + 3 = pn) (kk : mb_Ev l G RX5 cc nL ret d pn lv (.inl (h.1 3 a b 0) :: st) h res) : mb_Ev l G RX5 cc nL ret d pc lv (mb_F 3 a b :: st) h res := mb_get (v := .inl (h.1 3 a b 0)) (ci := 1) (j := 0) in_X1 rfl (by decide) wf_X5_164 rfl rfl (fun _ => trivial) dg hn kk
theorem wf_X5_165 : Cond.fieldLink RX5 165 "MarinaBerths$Boat" "draft" "I" ∈ mb_GW := mb_tb 70 (by decide +kernel) (by decide +kernel)
theorem gf_X5_165 {l : Launch} {G : mb_G} {cc : ByteArray} {nL : Nat} {ret : Option FieldType} {d pc pn : Nat} {lv : List (Nat × mb_AV)} {st : List mb_AV} {h : mb_AH} {res : mb_RS} {a b : Nat} (dg : decode cc pc = .ok (.getfield 165, 3)) (hn : pc + 3 = pn) (kk : mb_Ev l G RX5 cc nL ret d pn lv (.inl (h.1 3 a b 1) :: st) h res) : mb_Ev l G RX5 cc nL ret d pc lv (mb_F 3 a b :: st) h res := mb_get (v := .inl (h.1 3 a b 1)) (ci := 1) (j := 1) in_X1 rfl (by decide) wf_X5_165 rfl rfl (fun _ => trivial) dg hn kk
theorem wf_X5_168 : Cond.fieldLink RX5 168 "MarinaBerths$Boat" "bonus" "I" ∈ mb_GW := mb_tb 72 (by decide +kernel) (by decide +kernel)
theorem gf_X5_168 {l : Launch} {G : mb_G} {cc : ByteArray} {nL : Nat} {ret : Option FieldType} {d pc pn : Nat} {lv : List (Nat × mb_AV)} {st : List mb_AV} {h : mb_AH} {res : mb_RS} {a b : Nat} (dg : decode cc pc = .ok (.getfield 168, 3)) (hn : pc + 3 = pn) (kk : mb_Ev l G RX5 cc nL ret d pn lv (.inl (h.1 3 a b 2) :: st) h res) : mb_Ev l G RX5 cc nL ret d pc lv (mb_F 3 a b :: st) h res := mb_get (v := .inl (h.1 3 a b 2)) (ci := 1) (j := 2) in_X1 rfl (by decide) wf_X5_168 rfl rfl (fun _ => trivial) dg hn kk
theorem wf_X5_171 : Cond.fieldLink RX5 171 "MarinaBerths$Boat" "state" "I" ∈ mb_GW := mb_tb 75 (by decide +kernel) (by decide +kernel)
theorem gf_X5_171 {l : Launch} {G : mb_G} {cc : ByteArray} {nL : Nat} {ret : Option FieldType} {d pc pn : Nat} {lv : List (Nat × mb_AV)} {st : List mb_AV} {h : mb_AH} {res : mb_RS} {a b : Nat} (dg : decode cc pc = .ok (.getfield 171, 3)) (hn : pc + 3 = pn) (kk : mb_Ev l G RX5 cc nL ret d pn lv (.inl (h.1 3 a b 3) :: st) h res) : mb_Ev l G RX5 cc nL ret d pc lv (mb_F 3 a b :: st) h res := mb_get (v := .inl (h.1 3 a b 3)) (ci := 1) (j := 3) in_X1 rfl (by decide) wf_X5_171 rfl rfl (fun _ => trivial) dg hn kk
theorem wf_X5_174 : Cond.fieldLink RX5 174 "MarinaBerths$Boat" "berth" "I" ∈ mb_GW := mb_tb 79 (by decide +kernel) (by decide +kernel)
theorem gf_X5_174 {l : Launch} {G : mb_G} {cc : ByteArray} {nL : Nat} {ret : Option FieldType} {d pc pn : Nat} {lv : List (Nat × mb_AV)} {st : List mb_AV} {h : mb_AH} {res : mb_RS} {a b : Nat} (dg : decode cc pc = .ok (.getfield 174, 3)) (hn : pc + 3 = pn) (kk : mb_Ev l G RX5 cc nL ret d pn lv (.inl (h.1 3 a b 4) :: st) h res) : mb_Ev l G RX5 cc nL ret d pc lv (mb_F 3 a b :: st) h res := mb_get (v := .inl (h.1 3 a b 4)) (ci := 1) (j := 4) in_X1 rfl (by decide) wf_X5_174 rfl rfl (fun _ => trivial) dg hn kk
theorem wl_X5_177 : Cond.methodLink RX5 177 yX2_points ∈ mb_GW := mb_tb 458 (by decide +kernel) (by decide +kernel)
theorem wf_X5_181 : Cond.fieldLink RX5 181 "MarinaBerths$Boat" "home" "I" ∈ mb_GW := mb_tb 81 (by decide +kernel) (by decide +kernel)
theorem gf_X5_181 {l : Launch} {G : mb_G} {cc : ByteArray} {nL : Nat} {ret : Option FieldType} {d pc pn : Nat} {lv : List (Nat × mb_AV)} {st : List mb_AV} {h : mb_AH} {res : mb_RS} {a b : Nat} (dg : decode cc pc = .ok (.getfield 181, 3)) (hn : pc + 3 = pn) (kk : mb_Ev l G RX5 cc nL ret d pn lv (.inl (h.1 3 a b 5) :: st) h res) : mb_Ev l G RX5 cc nL ret d pc lv (mb_F 3 a b :: st) h res := mb_get (v := .inl (h.1 3 a b 5)) (ci := 1) (j := 5) in_X1 rfl (by decide) wf_X5_181 rfl rfl (fun _ => trivial) dg hn kk
theorem wf_X5_184 : Cond.fieldLink RX5 184 "MarinaBerths$Boat" "owes" "I" ∈ mb_GW := mb_tb 84 (by decide +kernel) (by decide +kernel)
theorem gf_X5_184 {l : Launch} {G : mb_G} {cc : ByteArray} {nL : Nat} {ret : Option FieldType} {d pc pn : Nat} {lv : List (Nat × mb_AV)} {st : List mb_AV} {h : mb_AH} {res : mb_RS} {a b : Nat} (dg : decode cc pc = .ok (.getfield 184, 3)) (hn : pc + 3 = pn) (kk : mb_Ev l G RX5 cc nL ret d pn lv (.inl (h.1 3 a b 6) :: st) h res) : mb_Ev l G RX5 cc nL ret d pc lv (mb_F 3 a b :: st) h res := mb_get (v := .inl (h.1 3 a b 6)) (ci := 1) (j := 6) in_X1 rfl (by decide) wf_X5_184 rfl rfl (fun _ => trivial) dg hn kk
theorem wl_X5_187 : Cond.methodLink RX5 187 yX2_isAground ∈ mb_GW := mb_tb 459 (by decide +kernel) (by decide +kernel)
theorem wl_X5_191 : Cond.methodLink RX5 191 yX2_isWhereItFits ∈ mb_GW := mb_tb 460 (by decide +kernel) (by decide +kernel)
theorem mi_X2_isWhereItFits : Cond.instanceMethod yX2_isWhereItFits ∈ mb_GW := mb_tb 461 (by decide +kernel) (by decide +kernel)
theorem ms_X2_isWhereItFits : Cond.selects RX2 yX2_isWhereItFits yX2_isWhereItFits ∈ mb_GW := mb_tb 462 (by decide +kernel) (by decide +kernel)
theorem mc_X2_isWhereItFits : Cond.code yX2_isWhereItFits cX2_isWhereItFits 3 (some .boolean) ∈ mb_GW := mb_tb 463 (by decide +kernel) (by decide +kernel)
theorem mb_out0_9 {x : Int32} (q0 : x ≠ 0) (q1 : x ≠ 1) (q2 : x ≠ 2) (q3 : x ≠ 3) (q4 : x ≠ 4) (q5 : x ≠ 5) (q6 : x ≠ 6) (q7 : x ≠ 7) (q8 : x ≠ 8) (q9 : x ≠ 9) : x.toInt < 0 ∨ 9 < x.toInt := by
  rcases Int.lt_or_le x.toInt 0 with z | z
  · exact Or.inl z
  · rcases Int.lt_or_le 9 x.toInt with z2 | z2
    · exact Or.inr z2
    · exfalso
      have e : x.toInt = 0 ∨ x.toInt = 1 ∨ x.toInt = 2 ∨ x.toInt = 3 ∨ x.toInt = 4 ∨ x.toInt = 5 ∨ x.toInt = 6 ∨ x.toInt = 7 ∨ x.toInt = 8 ∨ x.toInt = 9 := by omega
      rcases e with e | e | e | e | e | e | e | e | e | e
      · exact q0 (Int32.toInt_inj.mp (e.trans (by decide)))
      · exact q1 (Int32.toInt_inj.mp (e.trans (by decide)))
      · exact q2 (Int32.toInt_inj.mp (e.trans (by decide)))
      · exact q3 (Int32.toInt_inj.mp (e.trans (by decide)))
      · exact q4 (Int32.toInt_inj.mp (e.trans (by decide)))
      · exact q5 (Int32.toInt_inj.mp (e.trans (by decide)))
      · exact q6 (Int32.toInt_inj.mp (e.trans (by decide)))
      · exact q7 (Int32.toInt_inj.mp (e.trans (by decide)))
      · exact q8 (Int32.toInt_inj.mp (e.trans (by decide)))
      · exact q9 (Int32.toInt_inj.mp (e.trans (by decide)))
theorem wl_X5_196 : Cond.methodLink RX5 196 yX2_suits ∈ mb_GW := mb_tb 620 (by decide +kernel) (by decide +kernel)
theorem wl_X5_214 : Cond.methodLink RX5 214 yX2_isOpen ∈ mb_GW := mb_tb 632 (by decide +kernel) (by decide +kernel)
theorem wl_X5_219 : Cond.methodLink RX5 219 yX1_moveForGood ∈ mb_GW := mb_tb 634 (by decide +kernel) (by decide +kernel)
theorem wl_X5_227 : Cond.methodLink RX5 227 yX2_suitsBerthOf ∈ mb_GW := mb_tb 651 (by decide +kernel) (by decide +kernel)
theorem mi_X2_suitsBerthOf : Cond.instanceMethod yX2_suitsBerthOf ∈ mb_GW := mb_tb 652 (by decide +kernel) (by decide +kernel)
theorem ms_X2_suitsBerthOf : Cond.selects RX2 yX2_suitsBerthOf yX2_suitsBerthOf ∈ mb_GW := mb_tb 653 (by decide +kernel) (by decide +kernel)
theorem mc_X2_suitsBerthOf : Cond.code yX2_suitsBerthOf cX2_suitsBerthOf 4 (some .boolean) ∈ mb_GW := mb_tb 654 (by decide +kernel) (by decide +kernel)
theorem wl_X5_235 : Cond.methodLink RX5 235 yX2_beginToWait ∈ mb_GW := mb_tb 664 (by decide +kernel) (by decide +kernel)
theorem wl_X5_239 : Cond.methodLink RX5 239 yX2_countAheadOf ∈ mb_GW := mb_tb 669 (by decide +kernel) (by decide +kernel)
theorem wl_X5_244 : Cond.methodLink RX5 244 yX2_firstWaitingFor ∈ mb_GW := mb_tb 678 (by decide +kernel) (by decide +kernel)
theorem mi_X2_firstWaitingFor : Cond.instanceMethod yX2_firstWaitingFor ∈ mb_GW := mb_tb 679 (by decide +kernel) (by decide +kernel)
theorem ms_X2_firstWaitingFor : Cond.selects RX2 yX2_firstWaitingFor yX2_firstWaitingFor ∈ mb_GW := mb_tb 680 (by decide +kernel) (by decide +kernel)
theorem mc_X2_firstWaitingFor : Cond.code yX2_firstWaitingFor cX2_firstWaitingFor 4 (some .int) ∈ mb_GW := mb_tb 681 (by decide +kernel) (by decide +kernel)
theorem wl_X5_247 : Cond.methodLink RX5 247 yX2_waitingAt ∈ mb_GW := mb_tb 234 (by decide +kernel) (by decide +kernel)
theorem mi_X2_waitingAt : Cond.instanceMethod yX2_waitingAt ∈ mb_GW := mb_tb 235 (by decide +kernel) (by decide +kernel)
theorem ms_X2_waitingAt : Cond.selects RX2 yX2_waitingAt yX2_waitingAt ∈ mb_GW := mb_tb 236 (by decide +kernel) (by decide +kernel)
theorem mc_X2_waitingAt : Cond.code yX2_waitingAt cX2_waitingAt 3 (some .int) ∈ mb_GW := mb_tb 237 (by decide +kernel) (by decide +kernel)
theorem wl_X5_250 : Cond.methodLink RX5 250 yX2_bestBerthFor ∈ mb_GW := mb_tb 465 (by decide +kernel) (by decide +kernel)
theorem mi_X2_bestBerthFor : Cond.instanceMethod yX2_bestBerthFor ∈ mb_GW := mb_tb 466 (by decide +kernel) (by decide +kernel)
theorem ms_X2_bestBerthFor : Cond.selects RX2 yX2_bestBerthFor yX2_bestBerthFor ∈ mb_GW := mb_tb 467 (by decide +kernel) (by decide +kernel)
theorem mc_X2_bestBerthFor : Cond.code yX2_bestBerthFor cX2_bestBerthFor 4 (some .int) ∈ mb_GW := mb_tb 468 (by decide +kernel) (by decide +kernel)
theorem wl_X5_253 : Cond.methodLink RX5 253 yX5_checkDays ∈ mb_GW := mb_tb 696 (by decide +kernel) (by decide +kernel)
theorem mt_X5_checkDays : Cond.static yX5_checkDays ∈ mb_GW := mb_tb 697 (by decide +kernel) (by decide +kernel)
theorem mc_X5_checkDays : Cond.code yX5_checkDays cX5_checkDays 1 none ∈ mb_GW := mb_tb 698 (by decide +kernel) (by decide +kernel)
theorem wf_X5_16 : Cond.fieldLink RX5 16 "MarinaBerths" "thought" "LMarinaBerths$Marina;" ∈ mb_GW := mb_tb 212 (by decide +kernel) (by decide +kernel)
theorem gf_X5_16 {l : Launch} {G : mb_G} {cc : ByteArray} {nL : Nat} {ret : Option FieldType} {d pc pn : Nat} {lv : List (Nat × mb_AV)} {st : List mb_AV} {h : mb_AH} {res : mb_RS} {a b : Nat} (dg : decode cc pc = .ok (.getfield 16, 3)) (hn : pc + 3 = pn) (kk : mb_Ev l G RX5 cc nL ret d pn lv (mb_F 1 1 0 :: st) h res) : mb_Ev l G RX5 cc nL ret d pc lv (mb_F 0 a b :: st) h res := mb_get (v := mb_F 1 1 0) (ci := 5) (j := 1) in_X5 rfl (by decide) wf_X5_16 rfl rfl (fun _ => ⟨by decide, by decide⟩) dg hn kk
theorem wf_X5_26 : Cond.fieldLink RX5 26 "MarinaBerths" "plan" "LMarinaBerths$WinterPlan;" ∈ mb_GW := mb_tb 215 (by decide +kernel) (by decide +kernel)
theorem gf_X5_26 {l : Launch} {G : mb_G} {cc : ByteArray} {nL : Nat} {ret : Option FieldType} {d pc pn : Nat} {lv : List (Nat × mb_AV)} {st : List mb_AV} {h : mb_AH} {res : mb_RS} {a b : Nat} (dg : decode cc pc = .ok (.getfield 26, 3)) (hn : pc + 3 = pn) (kk : mb_Ev l G RX5 cc nL ret d pn lv (mb_F 4 0 0 :: st) h res) : mb_Ev l G RX5 cc nL ret d pc lv (mb_F 0 a b :: st) h res := mb_get (v := mb_F 4 0 0) (ci := 5) (j := 4) in_X5 rfl (by decide) wf_X5_26 rfl rfl (fun _ => ⟨by decide, by decide⟩) dg hn kk
theorem wl_X5_260 : Cond.methodLink RX5 260 yX2_letPass ∈ mb_GW := mb_tb 700 (by decide +kernel) (by decide +kernel)
theorem mi_X2_letPass : Cond.instanceMethod yX2_letPass ∈ mb_GW := mb_tb 701 (by decide +kernel) (by decide +kernel)
theorem ms_X2_letPass : Cond.selects RX2 yX2_letPass yX2_letPass ∈ mb_GW := mb_tb 702 (by decide +kernel) (by decide +kernel)
theorem mc_X2_letPass : Cond.code yX2_letPass cX2_letPass 6 (some .int) ∈ mb_GW := mb_tb 703 (by decide +kernel) (by decide +kernel)
theorem pf_X5_184 {l : Launch} {G : mb_G} {cc : ByteArray} {nL : Nat} {ret : Option FieldType} {d pc pn : Nat} {lv : List (Nat × mb_AV)} {st : List mb_AV} {h : mb_AH} {res : mb_RS} {a b : Nat} {x : Int32} {K : mb_AH → Option mb_RS} (dg : decode cc pc = .ok (.putfield 184, 3)) (hn : pc + 3 = pn) (hr : mb_up (mb_sI h 3 a b 6 x) K = some res) (kk : ∀ h2, K h2 = some res → mb_Ev l G RX5 cc nL ret d pn lv st h2 res) : mb_Ev l G RX5 cc nL ret d pc lv (.inl x :: mb_F 3 a b :: st) h res := mb_putI (ci := 1) (j := 6) (ty := .int) in_X1 tyX1 tyX1_ok nmX1 rfl (by decide) wf_X5_184 rfl rfl rfl rfl rfl (Nat.le_of_ble_eq_true rfl) rfl dg hn (kk _ hr)
theorem wf_X5_268 : Cond.fieldLink RX5 268 "MarinaBerths$Marina" "paidInAll" "J" ∈ mb_GW := mb_tb 135 (by decide +kernel) (by decide +kernel)
theorem gf_X5_268 {l : Launch} {G : mb_G} {cc : ByteArray} {nL : Nat} {ret : Option FieldType} {d pc pn : Nat} {lv : List (Nat × mb_AV)} {st : List mb_AV} {h : mb_AH} {res : mb_RS} {a b : Nat} (dg : decode cc pc = .ok (.getfield 268, 3)) (hn : pc + 3 = pn) (kk : mb_Ev l G RX5 cc nL ret d pn lv (.inr (.inl (h.2.1 1 a b 13)) :: st) h res) : mb_Ev l G RX5 cc nL ret d pc lv (mb_F 1 a b :: st) h res := mb_get (v := .inr (.inl (h.2.1 1 a b 13))) (ci := 2) (j := 13) in_X2 rfl (by decide) wf_X5_268 rfl rfl (fun _ => trivial) dg hn kk
theorem pf_X5_268 {l : Launch} {G : mb_G} {cc : ByteArray} {nL : Nat} {ret : Option FieldType} {d pc pn : Nat} {lv : List (Nat × mb_AV)} {st : List mb_AV} {h : mb_AH} {res : mb_RS} {a b : Nat} {x : Int64} {K : mb_AH → Option mb_RS} (dg : decode cc pc = .ok (.putfield 268, 3)) (hn : pc + 3 = pn) (hr : mb_up (mb_sL h 1 a b 13 x) K = some res) (kk : ∀ h2, K h2 = some res → mb_Ev l G RX5 cc nL ret d pn lv st h2 res) : mb_Ev l G RX5 cc nL ret d pc lv (.inr (.inl x) :: mb_F 1 a b :: st) h res := mb_putL (ci := 2) (j := 13) (ty := .long) in_X2 tyX2 tyX2_ok nmX2 rfl (by decide) wf_X5_268 rfl rfl rfl rfl rfl (Nat.le_of_ble_eq_true rfl) rfl dg hn (kk _ hr)
theorem wl_X5_274 : Cond.methodLink RX5 274 yX1_canOweMore ∈ mb_GW := mb_tb 769 (by decide +kernel) (by decide +kernel)
theorem wl_X5_280 : Cond.methodLink RX5 280 yX2_owedInAll ∈ mb_GW := mb_tb 254 (by decide +kernel) (by decide +kernel)
theorem mi_X2_owedInAll : Cond.instanceMethod yX2_owedInAll ∈ mb_GW := mb_tb 255 (by decide +kernel) (by decide +kernel)
theorem ms_X2_owedInAll : Cond.selects RX2 yX2_owedInAll yX2_owedInAll ∈ mb_GW := mb_tb 256 (by decide +kernel) (by decide +kernel)
theorem mc_X2_owedInAll : Cond.code yX2_owedInAll cX2_owedInAll 4 (some .long) ∈ mb_GW := mb_tb 257 (by decide +kernel) (by decide +kernel)
theorem wl_X5_284 : Cond.methodLink RX5 284 yX2_daysUntilAground ∈ mb_GW := mb_tb 478 (by decide +kernel) (by decide +kernel)
theorem mi_X2_daysUntilAground : Cond.instanceMethod yX2_daysUntilAground ∈ mb_GW := mb_tb 479 (by decide +kernel) (by decide +kernel)
theorem ms_X2_daysUntilAground : Cond.selects RX2 yX2_daysUntilAground yX2_daysUntilAground ∈ mb_GW := mb_tb 480 (by decide +kernel) (by decide +kernel)
theorem mc_X2_daysUntilAground : Cond.code yX2_daysUntilAground cX2_daysUntilAground 3 (some .int) ∈ mb_GW := mb_tb 481 (by decide +kernel) (by decide +kernel)
theorem wl_X5_338 : Cond.methodLink RX5 338 yX2_beginWinter ∈ mb_GW := mb_tb 797 (by decide +kernel) (by decide +kernel)
theorem wl_X5_287 : Cond.methodLink RX5 287 yX5_thinkOfWinter ∈ mb_GW := mb_tb 792 (by decide +kernel) (by decide +kernel)
theorem mi_X5_thinkOfWinter : Cond.instanceMethod yX5_thinkOfWinter ∈ mb_GW := mb_tb 794 (by decide +kernel) (by decide +kernel)
theorem ms_X5_thinkOfWinter : Cond.selects RX5 yX5_thinkOfWinter yX5_thinkOfWinter ∈ mb_GW := mb_tp 16 (by decide +kernel) (by decide +kernel)
theorem mc_X5_thinkOfWinter : Cond.code yX5_thinkOfWinter cX5_thinkOfWinter 1 none ∈ mb_GW := mb_tb 795 (by decide +kernel) (by decide +kernel)
theorem wl_X5_290 : Cond.methodLink RX5 290 yX2_clearanceForAll ∈ mb_GW := mb_tb 266 (by decide +kernel) (by decide +kernel)
theorem mi_X2_clearanceForAll : Cond.instanceMethod yX2_clearanceForAll ∈ mb_GW := mb_tb 267 (by decide +kernel) (by decide +kernel)
theorem ms_X2_clearanceForAll : Cond.selects RX2 yX2_clearanceForAll yX2_clearanceForAll ∈ mb_GW := mb_tb 268 (by decide +kernel) (by decide +kernel)
theorem mc_X2_clearanceForAll : Cond.code yX2_clearanceForAll cX2_clearanceForAll 4 (some .int) ∈ mb_GW := mb_tb 269 (by decide +kernel) (by decide +kernel)
theorem wl_X5_293 : Cond.methodLink RX5 293 yX2_lackOfWater ∈ mb_GW := mb_tb 812 (by decide +kernel) (by decide +kernel)
theorem wl_X5_297 : Cond.methodLink RX5 297 Lib.Math.max.name ∈ mb_GW := mb_tb 813 (by decide +kernel) (by decide +kernel)
theorem mM_max_s : Cond.static Lib.Math.max.name ∈ mb_GW := mb_tb 814 (by decide +kernel) (by decide +kernel)
theorem mM_max_c : Cond.code Lib.Math.max.name Lib.Math.max.code 2 (some .int) ∈ mb_GW := mb_tb 815 (by decide +kernel) (by decide +kernel)
theorem wf_X5_305 : Cond.fieldLink RX5 305 "MarinaBerths$TableText" "length" "I" ∈ mb_GW := mb_tb 196 (by decide +kernel) (by decide +kernel)
theorem gf_X5_305 {l : Launch} {G : mb_G} {cc : ByteArray} {nL : Nat} {ret : Option FieldType} {d pc pn : Nat} {lv : List (Nat × mb_AV)} {st : List mb_AV} {h : mb_AH} {res : mb_RS} {a b : Nat} (dg : decode cc pc = .ok (.getfield 305, 3)) (hn : pc + 3 = pn) (kk : mb_Ev l G RX5 cc nL ret d pn lv (.inl (h.1 5 a b 1) :: st) h res) : mb_Ev l G RX5 cc nL ret d pc lv (mb_F 5 a b :: st) h res := mb_get (v := .inl (h.1 5 a b 1)) (ci := 3) (j := 1) in_X3 rfl (by decide) wf_X5_305 rfl rfl (fun _ => trivial) dg hn kk
theorem wl_X5_308 : Cond.methodLink RX5 308 yX3_append ∈ mb_GW := mb_tb 825 (by decide +kernel) (by decide +kernel)
theorem mi_X3_append : Cond.instanceMethod yX3_append ∈ mb_GW := mb_tb 826 (by decide +kernel) (by decide +kernel)
theorem ms_X3_append : Cond.selects RX3 yX3_append yX3_append ∈ mb_GW := mb_tb 827 (by decide +kernel) (by decide +kernel)
theorem mc_X3_append : Cond.code yX3_append cX3_append 2 none ∈ mb_GW := mb_tb 828 (by decide +kernel) (by decide +kernel)
theorem pf_X5_305 {l : Launch} {G : mb_G} {cc : ByteArray} {nL : Nat} {ret : Option FieldType} {d pc pn : Nat} {lv : List (Nat × mb_AV)} {st : List mb_AV} {h : mb_AH} {res : mb_RS} {a b : Nat} {x : Int32} {K : mb_AH → Option mb_RS} (dg : decode cc pc = .ok (.putfield 305, 3)) (hn : pc + 3 = pn) (hr : mb_up (mb_sI h 5 a b 1 x) K = some res) (kk : ∀ h2, K h2 = some res → mb_Ev l G RX5 cc nL ret d pn lv st h2 res) : mb_Ev l G RX5 cc nL ret d pc lv (.inl x :: mb_F 5 a b :: st) h res := mb_putI (ci := 3) (j := 1) (ty := .int) in_X3 tyX3 tyX3_ok nmX3 rfl (by decide) wf_X5_305 rfl rfl rfl rfl rfl (Nat.le_of_ble_eq_true rfl) rfl dg hn (kk _ hr)
theorem wk_X5_317 : Cond.constantLong RX5 317 (43079) ∈ mb_GW := mb_tb 305 (by decide +kernel) (by decide +kernel)
theorem wk_X5_319 : Cond.constantLong RX5 319 (31) ∈ mb_GW := mb_tb 306 (by decide +kernel) (by decide +kernel)
theorem wl_X5_328 : Cond.methodLink RX5 328 yX5_berth ∈ mb_GW := mb_tb 404 (by decide +kernel) (by decide +kernel)
theorem mi_X5_berth : Cond.instanceMethod yX5_berth ∈ mb_GW := mb_tb 405 (by decide +kernel) (by decide +kernel)
theorem ms_X5_berth : Cond.selects RX5 yX5_berth yX5_berth ∈ mb_GW := mb_tb 406 (by decide +kernel) (by decide +kernel)
theorem mc_X5_berth : Cond.code yX5_berth cX5_berth 4 (some .int) ∈ mb_GW := mb_tb 407 (by decide +kernel) (by decide +kernel)
theorem wl_X5_321 : Cond.methodLink RX5 321 yX5_withBerths ∈ mb_GW := mb_tb 400 (by decide +kernel) (by decide +kernel)
theorem mi_X5_withBerths : Cond.instanceMethod yX5_withBerths ∈ mb_GW := mb_tb 402 (by decide +kernel) (by decide +kernel)
theorem ms_X5_withBerths : Cond.selects RX5 yX5_withBerths yX5_withBerths ∈ mb_GW := mb_tp 4 (by decide +kernel) (by decide +kernel)
theorem mc_X5_withBerths : Cond.code yX5_withBerths cX5_withBerths 7 (some .long) ∈ mb_GW := mb_tb 403 (by decide +kernel) (by decide +kernel)
theorem wl_X5_330 : Cond.methodLink RX5 330 yX5_boat ∈ mb_GW := mb_tb 449 (by decide +kernel) (by decide +kernel)
theorem mi_X5_boat : Cond.instanceMethod yX5_boat ∈ mb_GW := mb_tb 450 (by decide +kernel) (by decide +kernel)
theorem ms_X5_boat : Cond.selects RX5 yX5_boat yX5_boat ∈ mb_GW := mb_tb 451 (by decide +kernel) (by decide +kernel)
theorem mc_X5_boat : Cond.code yX5_boat cX5_boat 4 (some .int) ∈ mb_GW := mb_tb 452 (by decide +kernel) (by decide +kernel)
theorem wl_X5_325 : Cond.methodLink RX5 325 yX5_withBoats ∈ mb_GW := mb_tb 445 (by decide +kernel) (by decide +kernel)
theorem mi_X5_withBoats : Cond.instanceMethod yX5_withBoats ∈ mb_GW := mb_tb 447 (by decide +kernel) (by decide +kernel)
theorem ms_X5_withBoats : Cond.selects RX5 yX5_withBoats yX5_withBoats ∈ mb_GW := mb_tp 6 (by decide +kernel) (by decide +kernel)
theorem mc_X5_withBoats : Cond.code yX5_withBoats cX5_withBoats 7 (some .long) ∈ mb_GW := mb_tb 448 (by decide +kernel) (by decide +kernel)
theorem wf_X6_35 : Cond.fieldLink RX6 35 "MarinaBerthsModel" "refusal" "I" ∈ mb_GW := mb_tb 848 (by decide +kernel) (by decide +kernel)
theorem in_X6 : ∀ w ∈ u_ws RX6 TX6 16, w ∈ mb_GW := by
  have e : u_ws RX6 TX6 16 = [Cond.laysFinal RX6 "MarinaBerthsModel" "now" "[I", Cond.laysFinal RX6 "MarinaBerthsModel" "past" "[I", Cond.laysFinal RX6 "MarinaBerthsModel" "kept" "[I", Cond.lays RX6 "MarinaBerthsModel" "saved" "I", Cond.lays RX6 "MarinaBerthsModel" "refusal" "I", Cond.laysFinal RX6 "MarinaBerthsModel" "text" "[I", Cond.lays RX6 "MarinaBerthsModel" "length" "I", Cond.laysFinal RX6 "MarinaBerthsModel" "movers" "[I", Cond.laysFinal RX6 "MarinaBerthsModel" "shelters" "[I", Cond.laysFinal RX6 "MarinaBerthsModel" "best" "[I", Cond.lays RX6 "MarinaBerthsModel" "place" "I", Cond.lays RX6 "MarinaBerthsModel" "wrong" "I", Cond.lays RX6 "MarinaBerthsModel" "range" "I", Cond.lays RX6 "MarinaBerthsModel" "told" "I", Cond.laysFinal RX6 "MarinaBerthsModel" "numbers" "[I", Cond.lays RX6 "MarinaBerthsModel" "hash" "J"] := rfl
  rw [e]
  intro w hw
  simp only [List.mem_cons, List.not_mem_nil, or_false] at hw
  rcases hw with rfl | rfl | rfl | rfl | rfl | rfl | rfl | rfl | rfl | rfl | rfl | rfl | rfl | rfl | rfl | rfl
  · exact mb_tb 860 (by decide +kernel) (by decide +kernel)
  · exact mb_tb 862 (by decide +kernel) (by decide +kernel)
  · exact mb_tb 864 (by decide +kernel) (by decide +kernel)
  · exact mb_tb 866 (by decide +kernel) (by decide +kernel)
  · exact mb_tb 868 (by decide +kernel) (by decide +kernel)
  · exact mb_tb 870 (by decide +kernel) (by decide +kernel)
  · exact mb_tb 872 (by decide +kernel) (by decide +kernel)
  · exact mb_tb 874 (by decide +kernel) (by decide +kernel)
  · exact mb_tb 876 (by decide +kernel) (by decide +kernel)
  · exact mb_tb 878 (by decide +kernel) (by decide +kernel)
  · exact mb_tb 880 (by decide +kernel) (by decide +kernel)
  · exact mb_tb 882 (by decide +kernel) (by decide +kernel)
  · exact mb_tb 884 (by decide +kernel) (by decide +kernel)
  · exact mb_tb 886 (by decide +kernel) (by decide +kernel)
  · exact mb_tb 888 (by decide +kernel) (by decide +kernel)
  · exact mb_tb 890 (by decide +kernel) (by decide +kernel)
theorem gf_X6_35 {l : Launch} {G : mb_G} {cc : ByteArray} {nL : Nat} {ret : Option FieldType} {d pc pn : Nat} {lv : List (Nat × mb_AV)} {st : List mb_AV} {h : mb_AH} {res : mb_RS} {a b : Nat} (dg : decode cc pc = .ok (.getfield 35, 3)) (hn : pc + 3 = pn) (kk : mb_Ev l G RX6 cc nL ret d pn lv (.inl (h.1 6 a b 4) :: st) h res) : mb_Ev l G RX6 cc nL ret d pc lv (mb_F 6 a b :: st) h res := mb_get (v := .inl (h.1 6 a b 4)) (ci := 6) (j := 4) in_X6 rfl (by decide) wf_X6_35 rfl rfl (fun _ => trivial) dg hn kk
theorem pf_X6_35 {l : Launch} {G : mb_G} {cc : ByteArray} {nL : Nat} {ret : Option FieldType} {d pc pn : Nat} {lv : List (Nat × mb_AV)} {st : List mb_AV} {h : mb_AH} {res : mb_RS} {a b : Nat} {x : Int32} {K : mb_AH → Option mb_RS} (dg : decode cc pc = .ok (.putfield 35, 3)) (hn : pc + 3 = pn) (hr : mb_up (mb_sI h 6 a b 4 x) K = some res) (kk : ∀ h2, K h2 = some res → mb_Ev l G RX6 cc nL ret d pn lv st h2 res) : mb_Ev l G RX6 cc nL ret d pc lv (.inl x :: mb_F 6 a b :: st) h res := mb_putI (ci := 6) (j := 4) (ty := .int) in_X6 tyX6 tyX6_ok nmX6 rfl (by decide) wf_X6_35 rfl rfl rfl rfl rfl (Nat.le_of_ble_eq_true rfl) rfl dg hn (kk _ hr)
theorem wf_X6_39 : Cond.fieldLink RX6 39 "MarinaBerthsModel" "saved" "I" ∈ mb_GW := mb_tb 847 (by decide +kernel) (by decide +kernel)
theorem gf_X6_39 {l : Launch} {G : mb_G} {cc : ByteArray} {nL : Nat} {ret : Option FieldType} {d pc pn : Nat} {lv : List (Nat × mb_AV)} {st : List mb_AV} {h : mb_AH} {res : mb_RS} {a b : Nat} (dg : decode cc pc = .ok (.getfield 39, 3)) (hn : pc + 3 = pn) (kk : mb_Ev l G RX6 cc nL ret d pn lv (.inl (h.1 6 a b 3) :: st) h res) : mb_Ev l G RX6 cc nL ret d pc lv (mb_F 6 a b :: st) h res := mb_get (v := .inl (h.1 6 a b 3)) (ci := 6) (j := 3) in_X6 rfl (by decide) wf_X6_39 rfl rfl (fun _ => trivial) dg hn kk
theorem pf_X6_39 {l : Launch} {G : mb_G} {cc : ByteArray} {nL : Nat} {ret : Option FieldType} {d pc pn : Nat} {lv : List (Nat × mb_AV)} {st : List mb_AV} {h : mb_AH} {res : mb_RS} {a b : Nat} {x : Int32} {K : mb_AH → Option mb_RS} (dg : decode cc pc = .ok (.putfield 39, 3)) (hn : pc + 3 = pn) (hr : mb_up (mb_sI h 6 a b 3 x) K = some res) (kk : ∀ h2, K h2 = some res → mb_Ev l G RX6 cc nL ret d pn lv st h2 res) : mb_Ev l G RX6 cc nL ret d pc lv (.inl x :: mb_F 6 a b :: st) h res := mb_putI (ci := 6) (j := 3) (ty := .int) in_X6 tyX6 tyX6_ok nmX6 rfl (by decide) wf_X6_39 rfl rfl rfl rfl rfl (Nat.le_of_ble_eq_true rfl) rfl dg hn (kk _ hr)
theorem wf_X6_13 : Cond.fieldLink RX6 13 "MarinaBerthsModel" "past" "[I" ∈ mb_GW := mb_tb 845 (by decide +kernel) (by decide +kernel)
theorem gf_X6_13 {l : Launch} {G : mb_G} {cc : ByteArray} {nL : Nat} {ret : Option FieldType} {d pc pn : Nat} {lv : List (Nat × mb_AV)} {st : List mb_AV} {h : mb_AH} {res : mb_RS} {a b : Nat} (dg : decode cc pc = .ok (.getfield 13, 3)) (hn : pc + 3 = pn) (kk : mb_Ev l G RX6 cc nL ret d pn lv (mb_F 21 0 0 :: st) h res) : mb_Ev l G RX6 cc nL ret d pc lv (mb_F 6 a b :: st) h res := mb_get (v := mb_F 21 0 0) (ci := 6) (j := 1) in_X6 rfl (by decide) wf_X6_13 rfl rfl (fun _ => ⟨by decide, by decide⟩) dg hn kk
theorem wf_X6_7 : Cond.fieldLink RX6 7 "MarinaBerthsModel" "now" "[I" ∈ mb_GW := mb_tb 844 (by decide +kernel) (by decide +kernel)
theorem gf_X6_7 {l : Launch} {G : mb_G} {cc : ByteArray} {nL : Nat} {ret : Option FieldType} {d pc pn : Nat} {lv : List (Nat × mb_AV)} {st : List mb_AV} {h : mb_AH} {res : mb_RS} {a b : Nat} (dg : decode cc pc = .ok (.getfield 7, 3)) (hn : pc + 3 = pn) (kk : mb_Ev l G RX6 cc nL ret d pn lv (mb_F 20 0 0 :: st) h res) : mb_Ev l G RX6 cc nL ret d pc lv (mb_F 6 a b :: st) h res := mb_get (v := mb_F 20 0 0) (ci := 6) (j := 0) in_X6 rfl (by decide) wf_X6_7 rfl rfl (fun _ => ⟨by decide, by decide⟩) dg hn kk
theorem wl_X6_42 : Cond.methodLink RX6 42 yX6_refused ∈ mb_GW := mb_tb 901 (by decide +kernel) (by decide +kernel)
theorem mi_X6_refused : Cond.instanceMethod yX6_refused ∈ mb_GW := mb_tb 903 (by decide +kernel) (by decide +kernel)
theorem ms_X6_refused : Cond.selects RX6 yX6_refused yX6_refused ∈ mb_GW := mb_tp 17 (by decide +kernel) (by decide +kernel)
theorem mn_X6 : Cond.initialized RX6 ∈ mb_GW := mb_tb 7 (by decide +kernel) (by decide +kernel)
theorem mc_X6_refused : Cond.code yX6_refused cX6_refused 2 (some .boolean) ∈ mb_GW := mb_tb 904 (by decide +kernel) (by decide +kernel)
theorem wf_X6_16 : Cond.fieldLink RX6 16 "MarinaBerthsModel" "kept" "[I" ∈ mb_GW := mb_tb 846 (by decide +kernel) (by decide +kernel)
theorem gf_X6_16 {l : Launch} {G : mb_G} {cc : ByteArray} {nL : Nat} {ret : Option FieldType} {d pc pn : Nat} {lv : List (Nat × mb_AV)} {st : List mb_AV} {h : mb_AH} {res : mb_RS} {a b : Nat} (dg : decode cc pc = .ok (.getfield 16, 3)) (hn : pc + 3 = pn) (kk : mb_Ev l G RX6 cc nL ret d pn lv (mb_F 22 0 0 :: st) h res) : mb_Ev l G RX6 cc nL ret d pc lv (mb_F 6 a b :: st) h res := mb_get (v := mb_F 22 0 0) (ci := 6) (j := 2) in_X6 rfl (by decide) wf_X6_16 rfl rfl (fun _ => ⟨by decide, by decide⟩) dg hn kk
theorem wl_X6_46 : Cond.methodLink RX6 46 yX6_within ∈ mb_GW := mb_tb 925 (by decide +kernel) (by decide +kernel)
theorem mt_X6_within : Cond.static yX6_within ∈ mb_GW := mb_tb 926 (by decide +kernel) (by decide +kernel)
theorem mc_X6_within : Cond.code yX6_within cX6_within 3 (some .boolean) ∈ mb_GW := mb_tb 927 (by decide +kernel) (by decide +kernel)
theorem wl_X6_50 : Cond.methodLink RX6 50 yX6_ofBoat ∈ mb_GW := mb_tb 988 (by decide +kernel) (by decide +kernel)
theorem mi_X6_ofBoat : Cond.instanceMethod yX6_ofBoat ∈ mb_GW := mb_tb 990 (by decide +kernel) (by decide +kernel)
theorem ms_X6_ofBoat : Cond.selects RX6 yX6_ofBoat yX6_ofBoat ∈ mb_GW := mb_tp 30 (by decide +kernel) (by decide +kernel)
theorem mc_X6_ofBoat : Cond.code yX6_ofBoat cX6_ofBoat 3 (some .int) ∈ mb_GW := mb_tb 991 (by decide +kernel) (by decide +kernel)
theorem wl_X6_54 : Cond.methodLink RX6 54 yX6_ofBerth ∈ mb_GW := mb_tb 972 (by decide +kernel) (by decide +kernel)
theorem mi_X6_ofBerth : Cond.instanceMethod yX6_ofBerth ∈ mb_GW := mb_tb 974 (by decide +kernel) (by decide +kernel)
theorem ms_X6_ofBerth : Cond.selects RX6 yX6_ofBerth yX6_ofBerth ∈ mb_GW := mb_tp 27 (by decide +kernel) (by decide +kernel)
theorem mc_X6_ofBerth : Cond.code yX6_ofBerth cX6_ofBerth 3 (some .int) ∈ mb_GW := mb_tb 975 (by decide +kernel) (by decide +kernel)
theorem wl_X6_57 : Cond.methodLink RX6 57 yX6_lowest ∈ mb_GW := mb_tb 992 (by decide +kernel) (by decide +kernel)
theorem mi_X6_lowest : Cond.instanceMethod yX6_lowest ∈ mb_GW := mb_tb 994 (by decide +kernel) (by decide +kernel)
theorem ms_X6_lowest : Cond.selects RX6 yX6_lowest yX6_lowest ∈ mb_GW := mb_tp 31 (by decide +kernel) (by decide +kernel)
theorem mc_X6_lowest : Cond.code yX6_lowest cX6_lowest 3 (some .int) ∈ mb_GW := mb_tb 995 (by decide +kernel) (by decide +kernel)
theorem wl_X6_61 : Cond.methodLink RX6 61 yX6_isLongEnough ∈ mb_GW := mb_tb 1000 (by decide +kernel) (by decide +kernel)
theorem mi_X6_isLongEnough : Cond.instanceMethod yX6_isLongEnough ∈ mb_GW := mb_tb 1002 (by decide +kernel) (by decide +kernel)
theorem ms_X6_isLongEnough : Cond.selects RX6 yX6_isLongEnough yX6_isLongEnough ∈ mb_GW := mb_tp 33 (by decide +kernel) (by decide +kernel)
theorem mc_X6_isLongEnough : Cond.code yX6_isLongEnough cX6_isLongEnough 3 (some .boolean) ∈ mb_GW := mb_tb 1003 (by decide +kernel) (by decide +kernel)
theorem wl_X6_65 : Cond.methodLink RX6 65 yX6_missing ∈ mb_GW := mb_tb 1004 (by decide +kernel) (by decide +kernel)
theorem mi_X6_missing : Cond.instanceMethod yX6_missing ∈ mb_GW := mb_tb 1006 (by decide +kernel) (by decide +kernel)
theorem ms_X6_missing : Cond.selects RX6 yX6_missing yX6_missing ∈ mb_GW := mb_tp 34 (by decide +kernel) (by decide +kernel)
theorem mc_X6_missing : Cond.code yX6_missing cX6_missing 4 (some .int) ∈ mb_GW := mb_tb 1007 (by decide +kernel) (by decide +kernel)
theorem wl_X6_68 : Cond.methodLink RX6 68 yX6_boatIn ∈ mb_GW := mb_tb 984 (by decide +kernel) (by decide +kernel)
theorem mi_X6_boatIn : Cond.instanceMethod yX6_boatIn ∈ mb_GW := mb_tb 986 (by decide +kernel) (by decide +kernel)
theorem ms_X6_boatIn : Cond.selects RX6 yX6_boatIn yX6_boatIn ∈ mb_GW := mb_tp 29 (by decide +kernel) (by decide +kernel)
theorem mc_X6_boatIn : Cond.code yX6_boatIn cX6_boatIn 3 (some .int) ∈ mb_GW := mb_tb 987 (by decide +kernel) (by decide +kernel)
theorem wl_X6_72 : Cond.methodLink RX6 72 yX6_lowOn ∈ mb_GW := mb_tb 936 (by decide +kernel) (by decide +kernel)
theorem mi_X6_lowOn : Cond.instanceMethod yX6_lowOn ∈ mb_GW := mb_tb 938 (by decide +kernel) (by decide +kernel)
theorem ms_X6_lowOn : Cond.selects RX6 yX6_lowOn yX6_lowOn ∈ mb_GW := mb_tp 23 (by decide +kernel) (by decide +kernel)
theorem mc_X6_lowOn : Cond.code yX6_lowOn cX6_lowOn 2 (some .int) ∈ mb_GW := mb_tb 939 (by decide +kernel) (by decide +kernel)
theorem wl_X6_75 : Cond.methodLink RX6 75 yX6_sets ∈ mb_GW := mb_tb 952 (by decide +kernel) (by decide +kernel)
theorem mi_X6_sets : Cond.instanceMethod yX6_sets ∈ mb_GW := mb_tb 954 (by decide +kernel) (by decide +kernel)
theorem ms_X6_sets : Cond.selects RX6 yX6_sets yX6_sets ∈ mb_GW := mb_tp 24 (by decide +kernel) (by decide +kernel)
theorem mc_X6_sets : Cond.code yX6_sets cX6_sets 4 none ∈ mb_GW := mb_tb 955 (by decide +kernel) (by decide +kernel)
theorem wl_X6_79 : Cond.methodLink RX6 79 yX6_puts ∈ mb_GW := mb_tb 1064 (by decide +kernel) (by decide +kernel)
theorem mi_X6_puts : Cond.instanceMethod yX6_puts ∈ mb_GW := mb_tb 1066 (by decide +kernel) (by decide +kernel)
theorem ms_X6_puts : Cond.selects RX6 yX6_puts yX6_puts ∈ mb_GW := mb_tp 45 (by decide +kernel) (by decide +kernel)
theorem mc_X6_puts : Cond.code yX6_puts cX6_puts 4 none ∈ mb_GW := mb_tb 1067 (by decide +kernel) (by decide +kernel)
theorem wl_X6_82 : Cond.methodLink RX6 82 yX6_points ∈ mb_GW := mb_tb 1020 (by decide +kernel) (by decide +kernel)
theorem mi_X6_points : Cond.instanceMethod yX6_points ∈ mb_GW := mb_tb 1022 (by decide +kernel) (by decide +kernel)
theorem ms_X6_points : Cond.selects RX6 yX6_points yX6_points ∈ mb_GW := mb_tp 37 (by decide +kernel) (by decide +kernel)
theorem mc_X6_points : Cond.code yX6_points cX6_points 2 (some .int) ∈ mb_GW := mb_tb 1023 (by decide +kernel) (by decide +kernel)
theorem wl_X6_85 : Cond.methodLink RX6 85 yX6_ahead ∈ mb_GW := mb_tb 1088 (by decide +kernel) (by decide +kernel)
theorem mi_X6_ahead : Cond.instanceMethod yX6_ahead ∈ mb_GW := mb_tb 1090 (by decide +kernel) (by decide +kernel)
theorem ms_X6_ahead : Cond.selects RX6 yX6_ahead yX6_ahead ∈ mb_GW := mb_tp 48 (by decide +kernel) (by decide +kernel)
theorem mc_X6_ahead : Cond.code yX6_ahead cX6_ahead 5 (some .int) ∈ mb_GW := mb_tb 1091 (by decide +kernel) (by decide +kernel)
theorem wf_X6_29 : Cond.fieldLink RX6 29 "MarinaBerthsModel" "best" "[I" ∈ mb_GW := mb_tb 853 (by decide +kernel) (by decide +kernel)
theorem gf_X6_29 {l : Launch} {G : mb_G} {cc : ByteArray} {nL : Nat} {ret : Option FieldType} {d pc pn : Nat} {lv : List (Nat × mb_AV)} {st : List mb_AV} {h : mb_AH} {res : mb_RS} {a b : Nat} (dg : decode cc pc = .ok (.getfield 29, 3)) (hn : pc + 3 = pn) (kk : mb_Ev l G RX6 cc nL ret d pn lv (mb_F 26 0 0 :: st) h res) : mb_Ev l G RX6 cc nL ret d pc lv (mb_F 6 a b :: st) h res := mb_get (v := mb_F 26 0 0) (ci := 6) (j := 9) in_X6 rfl (by decide) wf_X6_29 rfl rfl (fun _ => ⟨by decide, by decide⟩) dg hn kk
theorem wf_X6_22 : Cond.fieldLink RX6 22 "MarinaBerthsModel" "movers" "[I" ∈ mb_GW := mb_tb 851 (by decide +kernel) (by decide +kernel)
theorem gf_X6_22 {l : Launch} {G : mb_G} {cc : ByteArray} {nL : Nat} {ret : Option FieldType} {d pc pn : Nat} {lv : List (Nat × mb_AV)} {st : List mb_AV} {h : mb_AH} {res : mb_RS} {a b : Nat} (dg : decode cc pc = .ok (.getfield 22, 3)) (hn : pc + 3 = pn) (kk : mb_Ev l G RX6 cc nL ret d pn lv (mb_F 24 0 0 :: st) h res) : mb_Ev l G RX6 cc nL ret d pc lv (mb_F 6 a b :: st) h res := mb_get (v := mb_F 24 0 0) (ci := 6) (j := 7) in_X6 rfl (by decide) wf_X6_22 rfl rfl (fun _ => ⟨by decide, by decide⟩) dg hn kk
theorem wf_X6_25 : Cond.fieldLink RX6 25 "MarinaBerthsModel" "shelters" "[I" ∈ mb_GW := mb_tb 852 (by decide +kernel) (by decide +kernel)
theorem gf_X6_25 {l : Launch} {G : mb_G} {cc : ByteArray} {nL : Nat} {ret : Option FieldType} {d pc pn : Nat} {lv : List (Nat × mb_AV)} {st : List mb_AV} {h : mb_AH} {res : mb_RS} {a b : Nat} (dg : decode cc pc = .ok (.getfield 25, 3)) (hn : pc + 3 = pn) (kk : mb_Ev l G RX6 cc nL ret d pn lv (mb_F 25 0 0 :: st) h res) : mb_Ev l G RX6 cc nL ret d pc lv (mb_F 6 a b :: st) h res := mb_get (v := mb_F 25 0 0) (ci := 6) (j := 8) in_X6 rfl (by decide) wf_X6_25 rfl rfl (fun _ => ⟨by decide, by decide⟩) dg hn kk
theorem wl_X6_96 : Cond.methodLink RX6 96 yX6_isFit ∈ mb_GW := mb_tb 996 (by decide +kernel) (by decide +kernel)
theorem mi_X6_isFit : Cond.instanceMethod yX6_isFit ∈ mb_GW := mb_tb 998 (by decide +kernel) (by decide +kernel)
theorem ms_X6_isFit : Cond.selects RX6 yX6_isFit yX6_isFit ∈ mb_GW := mb_tp 32 (by decide +kernel) (by decide +kernel)
theorem mc_X6_isFit : Cond.code yX6_isFit cX6_isFit 3 (some .boolean) ∈ mb_GW := mb_tb 999 (by decide +kernel) (by decide +kernel)
theorem wl_X6_92 : Cond.methodLink RX6 92 yX6_withShelter ∈ mb_GW := mb_tb 1138 (by decide +kernel) (by decide +kernel)
theorem mi_X6_withShelter : Cond.instanceMethod yX6_withShelter ∈ mb_GW := mb_tb 1140 (by decide +kernel) (by decide +kernel)
theorem ms_X6_withShelter : Cond.selects RX6 yX6_withShelter yX6_withShelter ∈ mb_GW := mb_tp 56 (by decide +kernel) (by decide +kernel)
theorem mc_X6_withShelter : Cond.code yX6_withShelter cX6_withShelter 6 (some .int) ∈ mb_GW := mb_tb 1141 (by decide +kernel) (by decide +kernel)
theorem wl_X6_88 : Cond.methodLink RX6 88 yX6_lays ∈ mb_GW := mb_tb 1134 (by decide +kernel) (by decide +kernel)
theorem mi_X6_lays : Cond.instanceMethod yX6_lays ∈ mb_GW := mb_tb 1136 (by decide +kernel) (by decide +kernel)
theorem ms_X6_lays : Cond.selects RX6 yX6_lays yX6_lays ∈ mb_GW := mb_tp 55 (by decide +kernel) (by decide +kernel)
theorem mc_X6_lays : Cond.code yX6_lays cX6_lays 8 none ∈ mb_GW := mb_tb 1137 (by decide +kernel) (by decide +kernel)
theorem wl_X6_99 : Cond.methodLink RX6 99 yX6_waits ∈ mb_GW := mb_tb 1084 (by decide +kernel) (by decide +kernel)
theorem mi_X6_waits : Cond.instanceMethod yX6_waits ∈ mb_GW := mb_tb 1086 (by decide +kernel) (by decide +kernel)
theorem ms_X6_waits : Cond.selects RX6 yX6_waits yX6_waits ∈ mb_GW := mb_tp 47 (by decide +kernel) (by decide +kernel)
theorem mc_X6_waits : Cond.code yX6_waits cX6_waits 2 none ∈ mb_GW := mb_tb 1087 (by decide +kernel) (by decide +kernel)
theorem wk_X6_103 : Cond.constantLong RX6 103 (10) ∈ mb_GW := mb_tb 1128 (by decide +kernel) (by decide +kernel)
theorem wl_X6_112 : Cond.methodLink RX6 112 yX6_ends ∈ mb_GW := mb_tb 1142 (by decide +kernel) (by decide +kernel)
theorem mi_X6_ends : Cond.instanceMethod yX6_ends ∈ mb_GW := mb_tb 1144 (by decide +kernel) (by decide +kernel)
theorem ms_X6_ends : Cond.selects RX6 yX6_ends yX6_ends ∈ mb_GW := mb_tp 57 (by decide +kernel) (by decide +kernel)
theorem mc_X6_ends : Cond.code yX6_ends cX6_ends 3 none ∈ mb_GW := mb_tb 1145 (by decide +kernel) (by decide +kernel)
theorem wl_X6_109 : Cond.methodLink RX6 109 yX6_begins ∈ mb_GW := mb_tb 1130 (by decide +kernel) (by decide +kernel)
theorem mi_X6_begins : Cond.instanceMethod yX6_begins ∈ mb_GW := mb_tb 1132 (by decide +kernel) (by decide +kernel)
theorem ms_X6_begins : Cond.selects RX6 yX6_begins yX6_begins ∈ mb_GW := mb_tp 54 (by decide +kernel) (by decide +kernel)
theorem mc_X6_begins : Cond.code yX6_begins cX6_begins 8 none ∈ mb_GW := mb_tb 1133 (by decide +kernel) (by decide +kernel)
theorem wl_X6_105 : Cond.methodLink RX6 105 yX6_fee ∈ mb_GW := mb_tb 1124 (by decide +kernel) (by decide +kernel)
theorem mi_X6_fee : Cond.instanceMethod yX6_fee ∈ mb_GW := mb_tb 1126 (by decide +kernel) (by decide +kernel)
theorem ms_X6_fee : Cond.selects RX6 yX6_fee yX6_fee ∈ mb_GW := mb_tp 53 (by decide +kernel) (by decide +kernel)
theorem mc_X6_fee : Cond.code yX6_fee cX6_fee 5 (some .int) ∈ mb_GW := mb_tb 1127 (by decide +kernel) (by decide +kernel)
theorem wk_X6_108 : Cond.constant RX6 108 (2147483647) ∈ mb_GW := mb_tb 1129 (by decide +kernel) (by decide +kernel)
theorem wf_X6_115 : Cond.fieldLink RX6 115 "MarinaBerthsModel" "place" "I" ∈ mb_GW := mb_tb 854 (by decide +kernel) (by decide +kernel)
theorem gf_X6_115 {l : Launch} {G : mb_G} {cc : ByteArray} {nL : Nat} {ret : Option FieldType} {d pc pn : Nat} {lv : List (Nat × mb_AV)} {st : List mb_AV} {h : mb_AH} {res : mb_RS} {a b : Nat} (dg : decode cc pc = .ok (.getfield 115, 3)) (hn : pc + 3 = pn) (kk : mb_Ev l G RX6 cc nL ret d pn lv (.inl (h.1 6 a b 10) :: st) h res) : mb_Ev l G RX6 cc nL ret d pc lv (mb_F 6 a b :: st) h res := mb_get (v := .inl (h.1 6 a b 10)) (ci := 6) (j := 10) in_X6 rfl (by decide) wf_X6_115 rfl rfl (fun _ => trivial) dg hn kk
theorem wf_X6_118 : Cond.fieldLink RX6 118 "MarinaBerthsModel" "length" "I" ∈ mb_GW := mb_tb 850 (by decide +kernel) (by decide +kernel)
theorem gf_X6_118 {l : Launch} {G : mb_G} {cc : ByteArray} {nL : Nat} {ret : Option FieldType} {d pc pn : Nat} {lv : List (Nat × mb_AV)} {st : List mb_AV} {h : mb_AH} {res : mb_RS} {a b : Nat} (dg : decode cc pc = .ok (.getfield 118, 3)) (hn : pc + 3 = pn) (kk : mb_Ev l G RX6 cc nL ret d pn lv (.inl (h.1 6 a b 6) :: st) h res) : mb_Ev l G RX6 cc nL ret d pc lv (mb_F 6 a b :: st) h res := mb_get (v := .inl (h.1 6 a b 6)) (ci := 6) (j := 6) in_X6 rfl (by decide) wf_X6_118 rfl rfl (fun _ => trivial) dg hn kk
theorem wf_X6_19 : Cond.fieldLink RX6 19 "MarinaBerthsModel" "text" "[I" ∈ mb_GW := mb_tb 849 (by decide +kernel) (by decide +kernel)
theorem gf_X6_19 {l : Launch} {G : mb_G} {cc : ByteArray} {nL : Nat} {ret : Option FieldType} {d pc pn : Nat} {lv : List (Nat × mb_AV)} {st : List mb_AV} {h : mb_AH} {res : mb_RS} {a b : Nat} (dg : decode cc pc = .ok (.getfield 19, 3)) (hn : pc + 3 = pn) (kk : mb_Ev l G RX6 cc nL ret d pn lv (mb_F 23 0 0 :: st) h res) : mb_Ev l G RX6 cc nL ret d pc lv (mb_F 6 a b :: st) h res := mb_get (v := mb_F 23 0 0) (ci := 6) (j := 5) in_X6 rfl (by decide) wf_X6_19 rfl rfl (fun _ => ⟨by decide, by decide⟩) dg hn kk
theorem wf_X6_121 : Cond.fieldLink RX6 121 "MarinaBerthsModel" "wrong" "I" ∈ mb_GW := mb_tb 855 (by decide +kernel) (by decide +kernel)
theorem gf_X6_121 {l : Launch} {G : mb_G} {cc : ByteArray} {nL : Nat} {ret : Option FieldType} {d pc pn : Nat} {lv : List (Nat × mb_AV)} {st : List mb_AV} {h : mb_AH} {res : mb_RS} {a b : Nat} (dg : decode cc pc = .ok (.getfield 121, 3)) (hn : pc + 3 = pn) (kk : mb_Ev l G RX6 cc nL ret d pn lv (.inl (h.1 6 a b 11) :: st) h res) : mb_Ev l G RX6 cc nL ret d pc lv (mb_F 6 a b :: st) h res := mb_get (v := .inl (h.1 6 a b 11)) (ci := 6) (j := 11) in_X6 rfl (by decide) wf_X6_121 rfl rfl (fun _ => trivial) dg hn kk
theorem pf_X6_121 {l : Launch} {G : mb_G} {cc : ByteArray} {nL : Nat} {ret : Option FieldType} {d pc pn : Nat} {lv : List (Nat × mb_AV)} {st : List mb_AV} {h : mb_AH} {res : mb_RS} {a b : Nat} {x : Int32} {K : mb_AH → Option mb_RS} (dg : decode cc pc = .ok (.putfield 121, 3)) (hn : pc + 3 = pn) (hr : mb_up (mb_sI h 6 a b 11 x) K = some res) (kk : ∀ h2, K h2 = some res → mb_Ev l G RX6 cc nL ret d pn lv st h2 res) : mb_Ev l G RX6 cc nL ret d pc lv (.inl x :: mb_F 6 a b :: st) h res := mb_putI (ci := 6) (j := 11) (ty := .int) in_X6 tyX6 tyX6_ok nmX6 rfl (by decide) wf_X6_121 rfl rfl rfl rfl rfl (Nat.le_of_ble_eq_true rfl) rfl dg hn (kk _ hr)
theorem wl_X6_124 : Cond.methodLink RX6 124 yX6_next ∈ mb_GW := mb_tb 917 (by decide +kernel) (by decide +kernel)
theorem mi_X6_next : Cond.instanceMethod yX6_next ∈ mb_GW := mb_tb 919 (by decide +kernel) (by decide +kernel)
theorem ms_X6_next : Cond.selects RX6 yX6_next yX6_next ∈ mb_GW := mb_tp 20 (by decide +kernel) (by decide +kernel)
theorem mc_X6_next : Cond.code yX6_next cX6_next 1 (some .int) ∈ mb_GW := mb_tb 920 (by decide +kernel) (by decide +kernel)
theorem pf_X6_115 {l : Launch} {G : mb_G} {cc : ByteArray} {nL : Nat} {ret : Option FieldType} {d pc pn : Nat} {lv : List (Nat × mb_AV)} {st : List mb_AV} {h : mb_AH} {res : mb_RS} {a b : Nat} {x : Int32} {K : mb_AH → Option mb_RS} (dg : decode cc pc = .ok (.putfield 115, 3)) (hn : pc + 3 = pn) (hr : mb_up (mb_sI h 6 a b 10 x) K = some res) (kk : ∀ h2, K h2 = some res → mb_Ev l G RX6 cc nL ret d pn lv st h2 res) : mb_Ev l G RX6 cc nL ret d pc lv (.inl x :: mb_F 6 a b :: st) h res := mb_putI (ci := 6) (j := 10) (ty := .int) in_X6 tyX6 tyX6_ok nmX6 rfl (by decide) wf_X6_115 rfl rfl rfl rfl rfl (Nat.le_of_ble_eq_true rfl) rfl dg hn (kk _ hr)
theorem wl_X6_127 : Cond.methodLink RX6 127 yX6_takes ∈ mb_GW := mb_tb 921 (by decide +kernel) (by decide +kernel)
theorem mi_X6_takes : Cond.instanceMethod yX6_takes ∈ mb_GW := mb_tb 923 (by decide +kernel) (by decide +kernel)
theorem ms_X6_takes : Cond.selects RX6 yX6_takes yX6_takes ∈ mb_GW := mb_tp 21 (by decide +kernel) (by decide +kernel)
theorem mc_X6_takes : Cond.code yX6_takes cX6_takes 3 (some .int) ∈ mb_GW := mb_tb 924 (by decide +kernel) (by decide +kernel)
theorem wf_X6_130 : Cond.fieldLink RX6 130 "MarinaBerthsModel" "range" "I" ∈ mb_GW := mb_tb 856 (by decide +kernel) (by decide +kernel)
theorem gf_X6_130 {l : Launch} {G : mb_G} {cc : ByteArray} {nL : Nat} {ret : Option FieldType} {d pc pn : Nat} {lv : List (Nat × mb_AV)} {st : List mb_AV} {h : mb_AH} {res : mb_RS} {a b : Nat} (dg : decode cc pc = .ok (.getfield 130, 3)) (hn : pc + 3 = pn) (kk : mb_Ev l G RX6 cc nL ret d pn lv (.inl (h.1 6 a b 12) :: st) h res) : mb_Ev l G RX6 cc nL ret d pc lv (mb_F 6 a b :: st) h res := mb_get (v := .inl (h.1 6 a b 12)) (ci := 6) (j := 12) in_X6 rfl (by decide) wf_X6_130 rfl rfl (fun _ => trivial) dg hn kk
theorem pf_X6_130 {l : Launch} {G : mb_G} {cc : ByteArray} {nL : Nat} {ret : Option FieldType} {d pc pn : Nat} {lv : List (Nat × mb_AV)} {st : List mb_AV} {h : mb_AH} {res : mb_RS} {a b : Nat} {x : Int32} {K : mb_AH → Option mb_RS} (dg : decode cc pc = .ok (.putfield 130, 3)) (hn : pc + 3 = pn) (hr : mb_up (mb_sI h 6 a b 12 x) K = some res) (kk : ∀ h2, K h2 = some res → mb_Ev l G RX6 cc nL ret d pn lv st h2 res) : mb_Ev l G RX6 cc nL ret d pc lv (.inl x :: mb_F 6 a b :: st) h res := mb_putI (ci := 6) (j := 12) (ty := .int) in_X6 tyX6 tyX6_ok nmX6 rfl (by decide) wf_X6_130 rfl rfl rfl rfl rfl (Nat.le_of_ble_eq_true rfl) rfl dg hn (kk _ hr)
theorem wf_X6_32 : Cond.fieldLink RX6 32 "MarinaBerthsModel" "numbers" "[I" ∈ mb_GW := mb_tb 858 (by decide +kernel) (by decide +kernel)
theorem gf_X6_32 {l : Launch} {G : mb_G} {cc : ByteArray} {nL : Nat} {ret : Option FieldType} {d pc pn : Nat} {lv : List (Nat × mb_AV)} {st : List mb_AV} {h : mb_AH} {res : mb_RS} {a b : Nat} (dg : decode cc pc = .ok (.getfield 32, 3)) (hn : pc + 3 = pn) (kk : mb_Ev l G RX6 cc nL ret d pn lv (mb_F 27 0 0 :: st) h res) : mb_Ev l G RX6 cc nL ret d pc lv (mb_F 6 a b :: st) h res := mb_get (v := mb_F 27 0 0) (ci := 6) (j := 14) in_X6 rfl (by decide) wf_X6_32 rfl rfl (fun _ => ⟨by decide, by decide⟩) dg hn kk
theorem wf_X6_133 : Cond.fieldLink RX6 133 "MarinaBerthsModel" "told" "I" ∈ mb_GW := mb_tb 857 (by decide +kernel) (by decide +kernel)
theorem gf_X6_133 {l : Launch} {G : mb_G} {cc : ByteArray} {nL : Nat} {ret : Option FieldType} {d pc pn : Nat} {lv : List (Nat × mb_AV)} {st : List mb_AV} {h : mb_AH} {res : mb_RS} {a b : Nat} (dg : decode cc pc = .ok (.getfield 133, 3)) (hn : pc + 3 = pn) (kk : mb_Ev l G RX6 cc nL ret d pn lv (.inl (h.1 6 a b 13) :: st) h res) : mb_Ev l G RX6 cc nL ret d pc lv (mb_F 6 a b :: st) h res := mb_get (v := .inl (h.1 6 a b 13)) (ci := 6) (j := 13) in_X6 rfl (by decide) wf_X6_133 rfl rfl (fun _ => trivial) dg hn kk
theorem pf_X6_133 {l : Launch} {G : mb_G} {cc : ByteArray} {nL : Nat} {ret : Option FieldType} {d pc pn : Nat} {lv : List (Nat × mb_AV)} {st : List mb_AV} {h : mb_AH} {res : mb_RS} {a b : Nat} {x : Int32} {K : mb_AH → Option mb_RS} (dg : decode cc pc = .ok (.putfield 133, 3)) (hn : pc + 3 = pn) (hr : mb_up (mb_sI h 6 a b 13 x) K = some res) (kk : ∀ h2, K h2 = some res → mb_Ev l G RX6 cc nL ret d pn lv st h2 res) : mb_Ev l G RX6 cc nL ret d pc lv (.inl x :: mb_F 6 a b :: st) h res := mb_putI (ci := 6) (j := 13) (ty := .int) in_X6 tyX6 tyX6_ok nmX6 rfl (by decide) wf_X6_133 rfl rfl rfl rfl rfl (Nat.le_of_ble_eq_true rfl) rfl dg hn (kk _ hr)
theorem wl_X6_136 : Cond.methodLink RX6 136 yX6_readsNumber ∈ mb_GW := mb_tb 913 (by decide +kernel) (by decide +kernel)
theorem mi_X6_readsNumber : Cond.instanceMethod yX6_readsNumber ∈ mb_GW := mb_tb 915 (by decide +kernel) (by decide +kernel)
theorem ms_X6_readsNumber : Cond.selects RX6 yX6_readsNumber yX6_readsNumber ∈ mb_GW := mb_tp 19 (by decide +kernel) (by decide +kernel)
theorem mc_X6_readsNumber : Cond.code yX6_readsNumber cX6_readsNumber 5 none ∈ mb_GW := mb_tb 916 (by decide +kernel) (by decide +kernel)
theorem wl_X6_139 : Cond.methodLink RX6 139 yX6_reads ∈ mb_GW := mb_tb 909 (by decide +kernel) (by decide +kernel)
theorem mi_X6_reads : Cond.instanceMethod yX6_reads ∈ mb_GW := mb_tb 911 (by decide +kernel) (by decide +kernel)
theorem ms_X6_reads : Cond.selects RX6 yX6_reads yX6_reads ∈ mb_GW := mb_tp 18 (by decide +kernel) (by decide +kernel)
theorem mc_X6_reads : Cond.code yX6_reads cX6_reads 2 (some .int) ∈ mb_GW := mb_tb 912 (by decide +kernel) (by decide +kernel)
theorem wl_X6_142 : Cond.methodLink RX6 142 yX6_saves ∈ mb_GW := mb_tb 928 (by decide +kernel) (by decide +kernel)
theorem mi_X6_saves : Cond.instanceMethod yX6_saves ∈ mb_GW := mb_tb 930 (by decide +kernel) (by decide +kernel)
theorem ms_X6_saves : Cond.selects RX6 yX6_saves yX6_saves ∈ mb_GW := mb_tp 22 (by decide +kernel) (by decide +kernel)
theorem mc_X6_saves : Cond.code yX6_saves cX6_saves 2 none ∈ mb_GW := mb_tb 931 (by decide +kernel) (by decide +kernel)
theorem wk_X6_145 : Cond.constant RX6 145 (9999999) ∈ mb_GW := mb_tb 947 (by decide +kernel) (by decide +kernel)
theorem wl_X6_146 : Cond.methodLink RX6 146 yX6_isRate ∈ mb_GW := mb_tb 944 (by decide +kernel) (by decide +kernel)
theorem mt_X6_isRate : Cond.static yX6_isRate ∈ mb_GW := mb_tb 945 (by decide +kernel) (by decide +kernel)
theorem mc_X6_isRate : Cond.code yX6_isRate cX6_isRate 1 (some .boolean) ∈ mb_GW := mb_tb 946 (by decide +kernel) (by decide +kernel)
theorem wl_X6_149 : Cond.methodLink RX6 149 yX6_canSet ∈ mb_GW := mb_tb 960 (by decide +kernel) (by decide +kernel)
theorem mi_X6_canSet : Cond.instanceMethod yX6_canSet ∈ mb_GW := mb_tb 962 (by decide +kernel) (by decide +kernel)
theorem ms_X6_canSet : Cond.selects RX6 yX6_canSet yX6_canSet ∈ mb_GW := mb_tp 25 (by decide +kernel) (by decide +kernel)
theorem mc_X6_canSet : Cond.code yX6_canSet cX6_canSet 3 (some .boolean) ∈ mb_GW := mb_tb 963 (by decide +kernel) (by decide +kernel)
theorem wl_X6_152 : Cond.methodLink RX6 152 yX6_isBerth ∈ mb_GW := mb_tb 968 (by decide +kernel) (by decide +kernel)
theorem mi_X6_isBerth : Cond.instanceMethod yX6_isBerth ∈ mb_GW := mb_tb 970 (by decide +kernel) (by decide +kernel)
theorem ms_X6_isBerth : Cond.selects RX6 yX6_isBerth yX6_isBerth ∈ mb_GW := mb_tp 26 (by decide +kernel) (by decide +kernel)
theorem mc_X6_isBerth : Cond.code yX6_isBerth cX6_isBerth 2 (some .boolean) ∈ mb_GW := mb_tb 971 (by decide +kernel) (by decide +kernel)
theorem wl_X6_155 : Cond.methodLink RX6 155 yX6_berthTold ∈ mb_GW := mb_tb 980 (by decide +kernel) (by decide +kernel)
theorem mi_X6_berthTold : Cond.instanceMethod yX6_berthTold ∈ mb_GW := mb_tb 982 (by decide +kernel) (by decide +kernel)
theorem ms_X6_berthTold : Cond.selects RX6 yX6_berthTold yX6_berthTold ∈ mb_GW := mb_tp 28 (by decide +kernel) (by decide +kernel)
theorem mc_X6_berthTold : Cond.code yX6_berthTold cX6_berthTold 5 (some .int) ∈ mb_GW := mb_tb 983 (by decide +kernel) (by decide +kernel)
theorem wl_X6_158 : Cond.methodLink RX6 158 yX6_isAground ∈ mb_GW := mb_tb 1024 (by decide +kernel) (by decide +kernel)
theorem mi_X6_isAground : Cond.instanceMethod yX6_isAground ∈ mb_GW := mb_tb 1026 (by decide +kernel) (by decide +kernel)
theorem ms_X6_isAground : Cond.selects RX6 yX6_isAground yX6_isAground ∈ mb_GW := mb_tp 38 (by decide +kernel) (by decide +kernel)
theorem mc_X6_isAground : Cond.code yX6_isAground cX6_isAground 3 (some .boolean) ∈ mb_GW := mb_tb 1027 (by decide +kernel) (by decide +kernel)
theorem mb_out5_9 {x : Int32} (q5 : x ≠ 5) (q6 : x ≠ 6) (q7 : x ≠ 7) (q8 : x ≠ 8) (q9 : x ≠ 9) : x.toInt < 5 ∨ 9 < x.toInt := by
  rcases Int.lt_or_le x.toInt 5 with z | z
  · exact Or.inl z
  · rcases Int.lt_or_le 9 x.toInt with z2 | z2
    · exact Or.inr z2
    · exfalso
      have e : x.toInt = 5 ∨ x.toInt = 6 ∨ x.toInt = 7 ∨ x.toInt = 8 ∨ x.toInt = 9 := by omega
      rcases e with e | e | e | e | e
      · exact q5 (Int32.toInt_inj.mp (e.trans (by decide)))
      · exact q6 (Int32.toInt_inj.mp (e.trans (by decide)))
      · exact q7 (Int32.toInt_inj.mp (e.trans (by decide)))
      · exact q8 (Int32.toInt_inj.mp (e.trans (by decide)))
      · exact q9 (Int32.toInt_inj.mp (e.trans (by decide)))
theorem wl_X6_161 : Cond.methodLink RX6 161 yX6_isBoat ∈ mb_GW := mb_tb 1012 (by decide +kernel) (by decide +kernel)
theorem mi_X6_isBoat : Cond.instanceMethod yX6_isBoat ∈ mb_GW := mb_tb 1014 (by decide +kernel) (by decide +kernel)
theorem ms_X6_isBoat : Cond.selects RX6 yX6_isBoat yX6_isBoat ∈ mb_GW := mb_tp 35 (by decide +kernel) (by decide +kernel)
theorem mc_X6_isBoat : Cond.code yX6_isBoat cX6_isBoat 2 (some .boolean) ∈ mb_GW := mb_tb 1015 (by decide +kernel) (by decide +kernel)
theorem wl_X6_164 : Cond.methodLink RX6 164 yX6_boatTold ∈ mb_GW := mb_tb 1016 (by decide +kernel) (by decide +kernel)
theorem mi_X6_boatTold : Cond.instanceMethod yX6_boatTold ∈ mb_GW := mb_tb 1018 (by decide +kernel) (by decide +kernel)
theorem ms_X6_boatTold : Cond.selects RX6 yX6_boatTold yX6_boatTold ∈ mb_GW := mb_tp 36 (by decide +kernel) (by decide +kernel)
theorem mc_X6_boatTold : Cond.code yX6_boatTold cX6_boatTold 3 (some .int) ∈ mb_GW := mb_tb 1019 (by decide +kernel) (by decide +kernel)
theorem wl_X6_167 : Cond.methodLink RX6 167 yX6_areBoth ∈ mb_GW := mb_tb 1032 (by decide +kernel) (by decide +kernel)
theorem mi_X6_areBoth : Cond.instanceMethod yX6_areBoth ∈ mb_GW := mb_tb 1034 (by decide +kernel) (by decide +kernel)
theorem ms_X6_areBoth : Cond.selects RX6 yX6_areBoth yX6_areBoth ∈ mb_GW := mb_tp 39 (by decide +kernel) (by decide +kernel)
theorem mc_X6_areBoth : Cond.code yX6_areBoth cX6_areBoth 3 (some .boolean) ∈ mb_GW := mb_tb 1035 (by decide +kernel) (by decide +kernel)
theorem wl_X6_170 : Cond.methodLink RX6 170 yX6_countIn ∈ mb_GW := mb_tb 1048 (by decide +kernel) (by decide +kernel)
theorem mi_X6_countIn : Cond.instanceMethod yX6_countIn ∈ mb_GW := mb_tb 1050 (by decide +kernel) (by decide +kernel)
theorem ms_X6_countIn : Cond.selects RX6 yX6_countIn yX6_countIn ∈ mb_GW := mb_tp 42 (by decide +kernel) (by decide +kernel)
theorem mc_X6_countIn : Cond.code yX6_countIn cX6_countIn 4 (some .int) ∈ mb_GW := mb_tb 1051 (by decide +kernel) (by decide +kernel)
theorem wl_X6_173 : Cond.methodLink RX6 173 yX6_free ∈ mb_GW := mb_tb 1044 (by decide +kernel) (by decide +kernel)
theorem mi_X6_free : Cond.instanceMethod yX6_free ∈ mb_GW := mb_tb 1046 (by decide +kernel) (by decide +kernel)
theorem ms_X6_free : Cond.selects RX6 yX6_free yX6_free ∈ mb_GW := mb_tp 41 (by decide +kernel) (by decide +kernel)
theorem mc_X6_free : Cond.code yX6_free cX6_free 1 (some .int) ∈ mb_GW := mb_tb 1047 (by decide +kernel) (by decide +kernel)
theorem wl_X6_176 : Cond.methodLink RX6 176 yX6_aground ∈ mb_GW := mb_tb 1052 (by decide +kernel) (by decide +kernel)
theorem mi_X6_aground : Cond.instanceMethod yX6_aground ∈ mb_GW := mb_tb 1054 (by decide +kernel) (by decide +kernel)
theorem ms_X6_aground : Cond.selects RX6 yX6_aground yX6_aground ∈ mb_GW := mb_tp 43 (by decide +kernel) (by decide +kernel)
theorem mc_X6_aground : Cond.code yX6_aground cX6_aground 3 (some .int) ∈ mb_GW := mb_tb 1055 (by decide +kernel) (by decide +kernel)
theorem mb_out8_13 {x : Int32} (q8 : x ≠ 8) (q9 : x ≠ 9) (q10 : x ≠ 10) (q11 : x ≠ 11) (q12 : x ≠ 12) (q13 : x ≠ 13) : x.toInt < 8 ∨ 13 < x.toInt := by
  rcases Int.lt_or_le x.toInt 8 with z | z
  · exact Or.inl z
  · rcases Int.lt_or_le 13 x.toInt with z2 | z2
    · exact Or.inr z2
    · exfalso
      have e : x.toInt = 8 ∨ x.toInt = 9 ∨ x.toInt = 10 ∨ x.toInt = 11 ∨ x.toInt = 12 ∨ x.toInt = 13 := by omega
      rcases e with e | e | e | e | e | e
      · exact q8 (Int32.toInt_inj.mp (e.trans (by decide)))
      · exact q9 (Int32.toInt_inj.mp (e.trans (by decide)))
      · exact q10 (Int32.toInt_inj.mp (e.trans (by decide)))
      · exact q11 (Int32.toInt_inj.mp (e.trans (by decide)))
      · exact q12 (Int32.toInt_inj.mp (e.trans (by decide)))
      · exact q13 (Int32.toInt_inj.mp (e.trans (by decide)))
theorem wl_X6_179 : Cond.methodLink RX6 179 yX6_infoTold ∈ mb_GW := mb_tb 1040 (by decide +kernel) (by decide +kernel)
theorem mi_X6_infoTold : Cond.instanceMethod yX6_infoTold ∈ mb_GW := mb_tb 1042 (by decide +kernel) (by decide +kernel)
theorem ms_X6_infoTold : Cond.selects RX6 yX6_infoTold yX6_infoTold ∈ mb_GW := mb_tp 40 (by decide +kernel) (by decide +kernel)
theorem mc_X6_infoTold : Cond.code yX6_infoTold cX6_infoTold 2 (some .int) ∈ mb_GW := mb_tb 1043 (by decide +kernel) (by decide +kernel)
theorem wl_X6_182 : Cond.methodLink RX6 182 yX6_isOpen ∈ mb_GW := mb_tb 1060 (by decide +kernel) (by decide +kernel)
theorem mi_X6_isOpen : Cond.instanceMethod yX6_isOpen ∈ mb_GW := mb_tb 1062 (by decide +kernel) (by decide +kernel)
theorem ms_X6_isOpen : Cond.selects RX6 yX6_isOpen yX6_isOpen ∈ mb_GW := mb_tp 44 (by decide +kernel) (by decide +kernel)
theorem mc_X6_isOpen : Cond.code yX6_isOpen cX6_isOpen 2 (some .boolean) ∈ mb_GW := mb_tb 1063 (by decide +kernel) (by decide +kernel)
theorem wl_X6_185 : Cond.methodLink RX6 185 yX6_canChange ∈ mb_GW := mb_tb 1076 (by decide +kernel) (by decide +kernel)
theorem mi_X6_canChange : Cond.instanceMethod yX6_canChange ∈ mb_GW := mb_tb 1078 (by decide +kernel) (by decide +kernel)
theorem ms_X6_canChange : Cond.selects RX6 yX6_canChange yX6_canChange ∈ mb_GW := mb_tp 46 (by decide +kernel) (by decide +kernel)
theorem mc_X6_canChange : Cond.code yX6_canChange cX6_canChange 4 (some .boolean) ∈ mb_GW := mb_tb 1079 (by decide +kernel) (by decide +kernel)
theorem wl_X6_188 : Cond.methodLink RX6 188 yX6_waitingAt ∈ mb_GW := mb_tb 1096 (by decide +kernel) (by decide +kernel)
theorem mi_X6_waitingAt : Cond.instanceMethod yX6_waitingAt ∈ mb_GW := mb_tb 1098 (by decide +kernel) (by decide +kernel)
theorem ms_X6_waitingAt : Cond.selects RX6 yX6_waitingAt yX6_waitingAt ∈ mb_GW := mb_tp 49 (by decide +kernel) (by decide +kernel)
theorem mc_X6_waitingAt : Cond.code yX6_waitingAt cX6_waitingAt 3 (some .int) ∈ mb_GW := mb_tb 1099 (by decide +kernel) (by decide +kernel)
theorem wl_X6_191 : Cond.methodLink RX6 191 yX6_bestOf ∈ mb_GW := mb_tb 1108 (by decide +kernel) (by decide +kernel)
theorem mi_X6_bestOf : Cond.instanceMethod yX6_bestOf ∈ mb_GW := mb_tb 1110 (by decide +kernel) (by decide +kernel)
theorem ms_X6_bestOf : Cond.selects RX6 yX6_bestOf yX6_bestOf ∈ mb_GW := mb_tp 50 (by decide +kernel) (by decide +kernel)
theorem mc_X6_bestOf : Cond.code yX6_bestOf cX6_bestOf 6 (some .int) ∈ mb_GW := mb_tb 1111 (by decide +kernel) (by decide +kernel)
theorem wl_X6_194 : Cond.methodLink RX6 194 yX6_keeps ∈ mb_GW := mb_tb 1116 (by decide +kernel) (by decide +kernel)
theorem mi_X6_keeps : Cond.instanceMethod yX6_keeps ∈ mb_GW := mb_tb 1118 (by decide +kernel) (by decide +kernel)
theorem ms_X6_keeps : Cond.selects RX6 yX6_keeps yX6_keeps ∈ mb_GW := mb_tp 51 (by decide +kernel) (by decide +kernel)
theorem mc_X6_keeps : Cond.code yX6_keeps cX6_keeps 2 none ∈ mb_GW := mb_tb 1119 (by decide +kernel) (by decide +kernel)
theorem wl_X6_200 : Cond.methodLink RX6 200 yX6_returns ∈ mb_GW := mb_tb 1146 (by decide +kernel) (by decide +kernel)
theorem mi_X6_returns : Cond.instanceMethod yX6_returns ∈ mb_GW := mb_tb 1148 (by decide +kernel) (by decide +kernel)
theorem ms_X6_returns : Cond.selects RX6 yX6_returns yX6_returns ∈ mb_GW := mb_tp 58 (by decide +kernel) (by decide +kernel)
theorem mc_X6_returns : Cond.code yX6_returns cX6_returns 2 none ∈ mb_GW := mb_tb 1149 (by decide +kernel) (by decide +kernel)
theorem wl_X6_197 : Cond.methodLink RX6 197 yX6_passes ∈ mb_GW := mb_tb 1120 (by decide +kernel) (by decide +kernel)
theorem mi_X6_passes : Cond.instanceMethod yX6_passes ∈ mb_GW := mb_tb 1122 (by decide +kernel) (by decide +kernel)
theorem ms_X6_passes : Cond.selects RX6 yX6_passes yX6_passes ∈ mb_GW := mb_tp 52 (by decide +kernel) (by decide +kernel)
theorem mc_X6_passes : Cond.code yX6_passes cX6_passes 2 (some .int) ∈ mb_GW := mb_tb 1123 (by decide +kernel) (by decide +kernel)
theorem wk_X6_207 : Cond.constantLong RX6 207 (1000000000) ∈ mb_GW := mb_tb 1158 (by decide +kernel) (by decide +kernel)
theorem wl_X6_203 : Cond.methodLink RX6 203 yX6_paidNow ∈ mb_GW := mb_tb 1154 (by decide +kernel) (by decide +kernel)
theorem mi_X6_paidNow : Cond.instanceMethod yX6_paidNow ∈ mb_GW := mb_tb 1156 (by decide +kernel) (by decide +kernel)
theorem ms_X6_paidNow : Cond.selects RX6 yX6_paidNow yX6_paidNow ∈ mb_GW := mb_tp 59 (by decide +kernel) (by decide +kernel)
theorem mc_X6_paidNow : Cond.code yX6_paidNow cX6_paidNow 1 (some .long) ∈ mb_GW := mb_tb 1157 (by decide +kernel) (by decide +kernel)
theorem wl_X6_209 : Cond.methodLink RX6 209 yX6_owedNow ∈ mb_GW := mb_tb 1167 (by decide +kernel) (by decide +kernel)
theorem mi_X6_owedNow : Cond.instanceMethod yX6_owedNow ∈ mb_GW := mb_tb 1169 (by decide +kernel) (by decide +kernel)
theorem ms_X6_owedNow : Cond.selects RX6 yX6_owedNow yX6_owedNow ∈ mb_GW := mb_tp 60 (by decide +kernel) (by decide +kernel)
theorem mc_X6_owedNow : Cond.code yX6_owedNow cX6_owedNow 4 (some .long) ∈ mb_GW := mb_tb 1170 (by decide +kernel) (by decide +kernel)
theorem wl_X6_212 : Cond.methodLink RX6 212 yX6_grounds ∈ mb_GW := mb_tb 1183 (by decide +kernel) (by decide +kernel)
theorem mi_X6_grounds : Cond.instanceMethod yX6_grounds ∈ mb_GW := mb_tb 1185 (by decide +kernel) (by decide +kernel)
theorem ms_X6_grounds : Cond.selects RX6 yX6_grounds yX6_grounds ∈ mb_GW := mb_tp 61 (by decide +kernel) (by decide +kernel)
theorem mc_X6_grounds : Cond.code yX6_grounds cX6_grounds 3 (some .int) ∈ mb_GW := mb_tb 1186 (by decide +kernel) (by decide +kernel)
theorem pf_X6_118 {l : Launch} {G : mb_G} {cc : ByteArray} {nL : Nat} {ret : Option FieldType} {d pc pn : Nat} {lv : List (Nat × mb_AV)} {st : List mb_AV} {h : mb_AH} {res : mb_RS} {a b : Nat} {x : Int32} {K : mb_AH → Option mb_RS} (dg : decode cc pc = .ok (.putfield 118, 3)) (hn : pc + 3 = pn) (hr : mb_up (mb_sI h 6 a b 6 x) K = some res) (kk : ∀ h2, K h2 = some res → mb_Ev l G RX6 cc nL ret d pn lv st h2 res) : mb_Ev l G RX6 cc nL ret d pc lv (.inl x :: mb_F 6 a b :: st) h res := mb_putI (ci := 6) (j := 6) (ty := .int) in_X6 tyX6 tyX6_ok nmX6 rfl (by decide) wf_X6_118 rfl rfl rfl rfl rfl (Nat.le_of_ble_eq_true rfl) rfl dg hn (kk _ hr)
theorem wk_X6_215 : Cond.constantLong RX6 215 (31) ∈ mb_GW := mb_tb 1224 (by decide +kernel) (by decide +kernel)
theorem wf_X6_217 : Cond.fieldLink RX6 217 "MarinaBerthsModel" "hash" "J" ∈ mb_GW := mb_tb 859 (by decide +kernel) (by decide +kernel)
theorem gf_X6_217 {l : Launch} {G : mb_G} {cc : ByteArray} {nL : Nat} {ret : Option FieldType} {d pc pn : Nat} {lv : List (Nat × mb_AV)} {st : List mb_AV} {h : mb_AH} {res : mb_RS} {a b : Nat} (dg : decode cc pc = .ok (.getfield 217, 3)) (hn : pc + 3 = pn) (kk : mb_Ev l G RX6 cc nL ret d pn lv (.inr (.inl (h.2.1 6 a b 15)) :: st) h res) : mb_Ev l G RX6 cc nL ret d pc lv (mb_F 6 a b :: st) h res := mb_get (v := .inr (.inl (h.2.1 6 a b 15))) (ci := 6) (j := 15) in_X6 rfl (by decide) wf_X6_217 rfl rfl (fun _ => trivial) dg hn kk
theorem pf_X6_217 {l : Launch} {G : mb_G} {cc : ByteArray} {nL : Nat} {ret : Option FieldType} {d pc pn : Nat} {lv : List (Nat × mb_AV)} {st : List mb_AV} {h : mb_AH} {res : mb_RS} {a b : Nat} {x : Int64} {K : mb_AH → Option mb_RS} (dg : decode cc pc = .ok (.putfield 217, 3)) (hn : pc + 3 = pn) (hr : mb_up (mb_sL h 6 a b 15 x) K = some res) (kk : ∀ h2, K h2 = some res → mb_Ev l G RX6 cc nL ret d pn lv st h2 res) : mb_Ev l G RX6 cc nL ret d pc lv (.inr (.inl x) :: mb_F 6 a b :: st) h res := mb_putL (ci := 6) (j := 15) (ty := .long) in_X6 tyX6 tyX6_ok nmX6 rfl (by decide) wf_X6_217 rfl rfl rfl rfl rfl (Nat.le_of_ble_eq_true rfl) rfl dg hn (kk _ hr)
theorem wk_X6_221 : Cond.constantLong RX6 221 (43079) ∈ mb_GW := mb_tb 1219 (by decide +kernel) (by decide +kernel)
theorem wl_X6_223 : Cond.methodLink RX6 223 yX6_mix ∈ mb_GW := mb_tb 1220 (by decide +kernel) (by decide +kernel)
theorem mi_X6_mix : Cond.instanceMethod yX6_mix ∈ mb_GW := mb_tb 1222 (by decide +kernel) (by decide +kernel)
theorem ms_X6_mix : Cond.selects RX6 yX6_mix yX6_mix ∈ mb_GW := mb_tp 62 (by decide +kernel) (by decide +kernel)
theorem mc_X6_mix : Cond.code yX6_mix cX6_mix 3 none ∈ mb_GW := mb_tb 1223 (by decide +kernel) (by decide +kernel)
