def mb_gB (x : Int32) (n : Nat) (X : Option mb_RS) : Option mb_RS := if x < 0 ∨ n ≤ x.toNatClampNeg then none else X
def mb_gZ (x : Int32) (X : Option mb_RS) : Option mb_RS := if x = 0 ∨ x = 1 then X else none
def mb_g0 (x : Int32) (X : Option mb_RS) : Option mb_RS := if x = 0 then none else X
def mb_gL (x : Int64) (X : Option mb_RS) : Option mb_RS := if x = 0 then none else X
/-- what a call gives, and what is done with it; a throw goes on -/
def mb_cI (f : Option mb_RS) (k : Int32 → mb_AH → Option mb_RS) : Option mb_RS := match f with
  | some (.inl (some (.inl x)), h) => k x h
  | some (.inr E, h) => some (.inr E, h)
  | _ => none
def mb_cL (f : Option mb_RS) (k : Int64 → mb_AH → Option mb_RS) : Option mb_RS := match f with
  | some (.inl (some (.inr (.inl x))), h) => k x h
  | some (.inr E, h) => some (.inr E, h)
  | _ => none
def mb_cV (f : Option mb_RS) (k : mb_AH → Option mb_RS) : Option mb_RS := match f with
  | some (.inl none, h) => k h
  | some (.inr E, h) => some (.inr E, h)
  | _ => none
def mb_cR (kd : Nat) (f : Option mb_RS) (k0 : mb_AH → Option mb_RS) (k : Nat → Nat → mb_AH → Option mb_RS) : Option mb_RS := match f with
  | some (.inl (some (.inr (.inr none))), h) => k0 h
  | some (.inl (some (.inr (.inr (some (k9, a, b))))), h) => if k9 = kd then k a b h else none
  | some (.inr E, h) => some (.inr E, h)
  | _ => none
theorem mb_GW_mem {w : Cond} (h : w ∈ lw_tbl) (g : goodWord w = true) : w ∈ mb_GW := List.mem_filter.mpr ⟨h, g⟩
theorem mb_tb {w : Cond} (i : Nat) (h : tables_1[i]? = some w) (g : goodWord w = true) : w ∈ mb_GW := mb_GW_mem (List.mem_append_right _ (List.mem_of_getElem? h)) g
theorem mb_tp {w : Cond} (i : Nat) (h : (k2_sels lw_privs)[i]? = some w) (g : goodWord w = true) : w ∈ mb_GW := mb_GW_mem (List.mem_append_left _ (List.mem_of_getElem? h)) g
theorem mb_good {ws : List Cond} (h : ∀ w ∈ ws, w ∈ mb_GW) : GoodIn mb_GW ws := fun w hw => ⟨h w hw, good_of_word (List.mem_filter.mp (h w hw)).2⟩
theorem mb_gV {own C : String} {idx nL : Nat} {y : MethodName} {cc : ByteArray} {ret : Option FieldType} (h1 : Cond.methodLink own idx y ∈ mb_GW) (h2 : Cond.instanceMethod y ∈ mb_GW) (h3 : Cond.selects C y y ∈ mb_GW) (h4 : Cond.initialized C ∈ mb_GW) (h5 : Cond.code y cc nL ret ∈ mb_GW) : GoodIn mb_GW (wsV own idx C y (Cond.code y cc nL ret :: mb_GW)) := by
  apply mb_good
  intro w hw
  unfold wsV at hw
  simp only [List.cons_append, List.nil_append, List.mem_cons] at hw
  rcases hw with rfl | rfl | rfl | rfl | rfl | h
  · exact h1
  · exact h2
  · exact h3
  · exact h4
  · exact h5
  · exact h
theorem mb_gS {own : String} {idx nL : Nat} {y : MethodName} {cc : ByteArray} {ret : Option FieldType} (h1 : Cond.methodLink own idx y ∈ mb_GW) (h2 : Cond.static y ∈ mb_GW) (h4 : Cond.initialized own ∈ mb_GW) (h5 : Cond.code y cc nL ret ∈ mb_GW) : GoodIn mb_GW (wsS own idx y (Cond.code y cc nL ret :: mb_GW)) := by
  apply mb_good
  intro w hw
  unfold wsS at hw
  simp only [List.cons_append, List.nil_append, List.mem_cons] at hw
  rcases hw with rfl | rfl | rfl | rfl | h
  · exact h1
  · exact h2
  · exact h4
  · exact h5
  · exact h
theorem mb_cc2 (v : mb_AV) (G : mb_G) : (mb_cz G v).category ≤ 2 := by
  rcases v with x | x | _ | t <;> simp [mb_cz, Value.category]
theorem mb_rest (G : mb_G) : ∀ (st : List mb_AV) (n : Nat), st.length ≤ n → ((st.map (mb_cz G)).map fun v => v.category).sum ≤ 2 * n := by
  intro st
  induction st with
  | nil => intro n _; simp
  | cons v r ih =>
    intro n hn
    cases n with
    | zero => simp at hn
    | succ n =>
      have h1 := ih n (by simpa using hn)
      have h2 := mb_cc2 v G
      simp only [List.map_cons, List.sum_cons]
      omega
section MBS
variable {l : Launch} {G : mb_G} {own : String} {cc : ByteArray} {nL : Nat} {ret : Option FieldType} {d pc pn tgt : Nat} {off : Int} {lv : List (Nat × mb_AV)} {st : List mb_AV} {h : mb_AH} {res : mb_RS} {X Y : Option mb_RS}
theorem mb_if_eq {x : Int32} (dg : decode cc pc = .ok (.ifCond .eq off, 3)) (ht : (pc : Int) + off = (tgt : Int)) (hn : pc + 3 = pn) (hr : (if x = 0 then X else Y) = some res) (kt : X = some res → mb_Ev l G own cc nL ret d tgt lv st h res) (kf : Y = some res → mb_Ev l G own cc nL ret d pn lv st h res) : mb_Ev l G own cc nL ret d pc lv (.inl x :: st) h res := by
  subst hn
  exact fun p e R s m args below meth c H locs ls C hS hw hl ol os => lv_if_eq C.1 C.2.1 dg ht (fun q => kt (by rw [if_pos q] at hr; exact hr) p e R s m args below meth c H locs ls C hS hw hl ol os.2) (fun q => kf (by rw [if_neg q] at hr; exact hr) p e R s m args below meth c H locs ls C hS hw hl ol os.2)
theorem mb_if_ne {x : Int32} (dg : decode cc pc = .ok (.ifCond .ne off, 3)) (ht : (pc : Int) + off = (tgt : Int)) (hn : pc + 3 = pn) (hr : (if x = 0 then X else Y) = some res) (kt : Y = some res → mb_Ev l G own cc nL ret d tgt lv st h res) (kf : X = some res → mb_Ev l G own cc nL ret d pn lv st h res) : mb_Ev l G own cc nL ret d pc lv (.inl x :: st) h res := by
  subst hn
  exact fun p e R s m args below meth c H locs ls C hS hw hl ol os => lv_if_ne C.1 C.2.1 dg ht (fun q => kt (by rw [if_neg q] at hr; exact hr) p e R s m args below meth c H locs ls C hS hw hl ol os.2) (fun q => kf (by rw [if_pos q] at hr; exact hr) p e R s m args below meth c H locs ls C hS hw hl ol os.2)
theorem mb_if_lt {x : Int32} (dg : decode cc pc = .ok (.ifCond .lt off, 3)) (ht : (pc : Int) + off = (tgt : Int)) (hn : pc + 3 = pn) (hr : (if x < 0 then X else Y) = some res) (kt : X = some res → mb_Ev l G own cc nL ret d tgt lv st h res) (kf : Y = some res → mb_Ev l G own cc nL ret d pn lv st h res) : mb_Ev l G own cc nL ret d pc lv (.inl x :: st) h res := by
  subst hn
  exact fun p e R s m args below meth c H locs ls C hS hw hl ol os => lv_if_lt C.1 C.2.1 dg ht (fun q => kt (by rw [if_pos q] at hr; exact hr) p e R s m args below meth c H locs ls C hS hw hl ol os.2) (fun q => kf (by rw [if_neg q] at hr; exact hr) p e R s m args below meth c H locs ls C hS hw hl ol os.2)
theorem mb_if_ge {x : Int32} (dg : decode cc pc = .ok (.ifCond .ge off, 3)) (ht : (pc : Int) + off = (tgt : Int)) (hn : pc + 3 = pn) (hr : (if 0 ≤ x then X else Y) = some res) (kt : X = some res → mb_Ev l G own cc nL ret d tgt lv st h res) (kf : Y = some res → mb_Ev l G own cc nL ret d pn lv st h res) : mb_Ev l G own cc nL ret d pc lv (.inl x :: st) h res := by
  subst hn
  exact fun p e R s m args below meth c H locs ls C hS hw hl ol os => lv_if_ge C.1 C.2.1 dg ht (fun q => kt (by rw [if_pos q] at hr; exact hr) p e R s m args below meth c H locs ls C hS hw hl ol os.2) (fun q => kf (by rw [if_neg q] at hr; exact hr) p e R s m args below meth c H locs ls C hS hw hl ol os.2)
theorem mb_if_gt {x : Int32} (dg : decode cc pc = .ok (.ifCond .gt off, 3)) (ht : (pc : Int) + off = (tgt : Int)) (hn : pc + 3 = pn) (hr : (if 0 < x then X else Y) = some res) (kt : X = some res → mb_Ev l G own cc nL ret d tgt lv st h res) (kf : Y = some res → mb_Ev l G own cc nL ret d pn lv st h res) : mb_Ev l G own cc nL ret d pc lv (.inl x :: st) h res := by
  subst hn
  exact fun p e R s m args below meth c H locs ls C hS hw hl ol os => lv_if_gt C.1 C.2.1 dg ht (fun q => kt (by rw [if_pos q] at hr; exact hr) p e R s m args below meth c H locs ls C hS hw hl ol os.2) (fun q => kf (by rw [if_neg q] at hr; exact hr) p e R s m args below meth c H locs ls C hS hw hl ol os.2)
theorem mb_if_le {x : Int32} (dg : decode cc pc = .ok (.ifCond .le off, 3)) (ht : (pc : Int) + off = (tgt : Int)) (hn : pc + 3 = pn) (hr : (if x ≤ 0 then X else Y) = some res) (kt : X = some res → mb_Ev l G own cc nL ret d tgt lv st h res) (kf : Y = some res → mb_Ev l G own cc nL ret d pn lv st h res) : mb_Ev l G own cc nL ret d pc lv (.inl x :: st) h res := by
  subst hn
  exact fun p e R s m args below meth c H locs ls C hS hw hl ol os => lv_if_le C.1 C.2.1 dg ht (fun q => kt (by rw [if_pos q] at hr; exact hr) p e R s m args below meth c H locs ls C hS hw hl ol os.2) (fun q => kf (by rw [if_neg q] at hr; exact hr) p e R s m args below meth c H locs ls C hS hw hl ol os.2)
theorem mb_ic_eq {x y : Int32} (dg : decode cc pc = .ok (.if_icmp .eq off, 3)) (ht : (pc : Int) + off = (tgt : Int)) (hn : pc + 3 = pn) (hr : (if x = y then X else Y) = some res) (kt : X = some res → mb_Ev l G own cc nL ret d tgt lv st h res) (kf : Y = some res → mb_Ev l G own cc nL ret d pn lv st h res) : mb_Ev l G own cc nL ret d pc lv (.inl y :: .inl x :: st) h res := by
  subst hn
  exact fun p e R s m args below meth c H locs ls C hS hw hl ol os => lv_icmp_eq C.1 C.2.1 dg ht (fun q => kt (by rw [if_pos q] at hr; exact hr) p e R s m args below meth c H locs ls C hS hw hl ol os.2.2) (fun q => kf (by rw [if_neg q] at hr; exact hr) p e R s m args below meth c H locs ls C hS hw hl ol os.2.2)
theorem mb_ic_ne {x y : Int32} (dg : decode cc pc = .ok (.if_icmp .ne off, 3)) (ht : (pc : Int) + off = (tgt : Int)) (hn : pc + 3 = pn) (hr : (if x = y then X else Y) = some res) (kt : Y = some res → mb_Ev l G own cc nL ret d tgt lv st h res) (kf : X = some res → mb_Ev l G own cc nL ret d pn lv st h res) : mb_Ev l G own cc nL ret d pc lv (.inl y :: .inl x :: st) h res := by
  subst hn
  exact fun p e R s m args below meth c H locs ls C hS hw hl ol os => lv_icmp_ne C.1 C.2.1 dg ht (fun q => kt (by rw [if_neg q] at hr; exact hr) p e R s m args below meth c H locs ls C hS hw hl ol os.2.2) (fun q => kf (by rw [if_pos q] at hr; exact hr) p e R s m args below meth c H locs ls C hS hw hl ol os.2.2)
theorem mb_ic_lt {x y : Int32} (dg : decode cc pc = .ok (.if_icmp .lt off, 3)) (ht : (pc : Int) + off = (tgt : Int)) (hn : pc + 3 = pn) (hr : (if x < y then X else Y) = some res) (kt : X = some res → mb_Ev l G own cc nL ret d tgt lv st h res) (kf : Y = some res → mb_Ev l G own cc nL ret d pn lv st h res) : mb_Ev l G own cc nL ret d pc lv (.inl y :: .inl x :: st) h res := by
  subst hn
  exact fun p e R s m args below meth c H locs ls C hS hw hl ol os => lv_icmp_lt C.1 C.2.1 dg ht (fun q => kt (by rw [if_pos q] at hr; exact hr) p e R s m args below meth c H locs ls C hS hw hl ol os.2.2) (fun q => kf (by rw [if_neg q] at hr; exact hr) p e R s m args below meth c H locs ls C hS hw hl ol os.2.2)
theorem mb_ic_ge {x y : Int32} (dg : decode cc pc = .ok (.if_icmp .ge off, 3)) (ht : (pc : Int) + off = (tgt : Int)) (hn : pc + 3 = pn) (hr : (if y ≤ x then X else Y) = some res) (kt : X = some res → mb_Ev l G own cc nL ret d tgt lv st h res) (kf : Y = some res → mb_Ev l G own cc nL ret d pn lv st h res) : mb_Ev l G own cc nL ret d pc lv (.inl y :: .inl x :: st) h res := by
  subst hn
  exact fun p e R s m args below meth c H locs ls C hS hw hl ol os => lv_icmp_ge C.1 C.2.1 dg ht (fun q => kt (by rw [if_pos q] at hr; exact hr) p e R s m args below meth c H locs ls C hS hw hl ol os.2.2) (fun q => kf (by rw [if_neg q] at hr; exact hr) p e R s m args below meth c H locs ls C hS hw hl ol os.2.2)
theorem mb_ic_gt {x y : Int32} (dg : decode cc pc = .ok (.if_icmp .gt off, 3)) (ht : (pc : Int) + off = (tgt : Int)) (hn : pc + 3 = pn) (hr : (if y < x then X else Y) = some res) (kt : X = some res → mb_Ev l G own cc nL ret d tgt lv st h res) (kf : Y = some res → mb_Ev l G own cc nL ret d pn lv st h res) : mb_Ev l G own cc nL ret d pc lv (.inl y :: .inl x :: st) h res := by
  subst hn
  exact fun p e R s m args below meth c H locs ls C hS hw hl ol os => lv_icmp_gt C.1 C.2.1 dg ht (fun q => kt (by rw [if_pos q] at hr; exact hr) p e R s m args below meth c H locs ls C hS hw hl ol os.2.2) (fun q => kf (by rw [if_neg q] at hr; exact hr) p e R s m args below meth c H locs ls C hS hw hl ol os.2.2)
theorem mb_ic_le {x y : Int32} (dg : decode cc pc = .ok (.if_icmp .le off, 3)) (ht : (pc : Int) + off = (tgt : Int)) (hn : pc + 3 = pn) (hr : (if x ≤ y then X else Y) = some res) (kt : X = some res → mb_Ev l G own cc nL ret d tgt lv st h res) (kf : Y = some res → mb_Ev l G own cc nL ret d pn lv st h res) : mb_Ev l G own cc nL ret d pc lv (.inl y :: .inl x :: st) h res := by
  subst hn
  exact fun p e R s m args below meth c H locs ls C hS hw hl ol os => lv_icmp_le C.1 C.2.1 dg ht (fun q => kt (by rw [if_pos q] at hr; exact hr) p e R s m args below meth c H locs ls C hS hw hl ol os.2.2) (fun q => kf (by rw [if_neg q] at hr; exact hr) p e R s m args below meth c H locs ls C hS hw hl ol os.2.2)
theorem mb_goto (dg : decode cc pc = .ok (.goto off, 3)) (ht : (pc : Int) + off = (tgt : Int)) (k : mb_Ev l G own cc nL ret d tgt lv st h res) : mb_Ev l G own cc nL ret d pc lv st h res :=
  fun p e R s m args below meth c H locs ls C hS hw hl ol os => lv_goto C.1 C.2.1 dg ht (k p e R s m args below meth c H locs ls C hS hw hl ol os)
theorem mb_ifnull (k9 a9 b9 : Nat) (dg : decode cc pc = .ok (.ifnull off, 3)) (hn : pc + 3 = pn) (k : mb_Ev l G own cc nL ret d pn lv st h res) : mb_Ev l G own cc nL ret d pc lv (mb_F k9 a9 b9 :: st) h res := by
  subst hn
  exact fun p e R s m args below meth c H locs ls C hS hw hl ol os => lv_ifnull C.1 C.2.1 dg (k p e R s m args below meth c H locs ls C hS hw hl ol os.2)
theorem mb_ifnullN (dg : decode cc pc = .ok (.ifnull off, 3)) (ht : (pc : Int) + off = (tgt : Int)) (k : mb_Ev l G own cc nL ret d tgt lv st h res) : mb_Ev l G own cc nL ret d pc lv (mb_N :: st) h res :=
  fun p e R s m args below meth c H locs ls C hS hw hl ol os => lv_ifnullN C.1 C.2.1 dg ht (k p e R s m args below meth c H locs ls C hS hw hl ol os.2)
theorem mb_sw1 {x : Int32} (c9 : Int32) (hr : (if x = c9 then X else Y) = some res) (kt : X = some res → mb_Ev l G own cc nL ret d pc lv (.inl c9 :: st) h res) (kf : x ≠ c9 → Y = some res → mb_Ev l G own cc nL ret d pc lv (.inl x :: st) h res) : mb_Ev l G own cc nL ret d pc lv (.inl x :: st) h res := by
  by_cases q : x = c9
  · rw [if_pos q] at hr
    subst q
    exact kt hr
  · rw [if_neg q] at hr
    exact kf q hr
theorem mb_swIn {x : Int32} {dflt lo hi : Int} {offs : Array Int} {len : Nat} (dg : decode cc pc = .ok (.tableswitch dflt lo hi offs, len)) (h1 : ¬ x.toInt < lo) (h2 : ¬ hi < x.toInt) (ho : offs[(x.toInt - lo).toNat]? = some off) (ht : (pc : Int) + off = (tgt : Int)) (k : mb_Ev l G own cc nL ret d tgt lv st h res) : mb_Ev l G own cc nL ret d pc lv (.inl x :: st) h res :=
  fun p e R s m args below meth c H locs ls C hS hw hl ol os => lv_tableIn C.1 C.2.1 dg h1 h2 ho ht (k p e R s m args below meth c H locs ls C hS hw hl ol os.2)
theorem mb_swOut {x : Int32} {dflt lo hi : Int} {offs : Array Int} {len : Nat} (dg : decode cc pc = .ok (.tableswitch dflt lo hi offs, len)) (h1 : x.toInt < lo ∨ hi < x.toInt) (ht : (pc : Int) + dflt = (tgt : Int)) (k : mb_Ev l G own cc nL ret d tgt lv st h res) : mb_Ev l G own cc nL ret d pc lv (.inl x :: st) h res :=
  fun p e R s m args below meth c H locs ls C hS hw hl ol os => lv_tableOut C.1 C.2.1 dg h1 ht (k p e R s m args below meth c H locs ls C hS hw hl ol os.2)
theorem mb_lcmp {x y : Int64} (dg : decode cc pc = .ok (.lcmp, 1)) (hn : pc + 1 = pn) (k : mb_Ev l G own cc nL ret d pn lv (.inl (lg_cmp x y) :: st) h res) : mb_Ev l G own cc nL ret d pc lv (.inr (.inl y) :: .inr (.inl x) :: st) h res := by
  subst hn
  exact fun p e R s m args below meth c H locs ls C hS hw hl ol os => W.lcmp C.1 C.2.1 dg (k p e R s m args below meth c H locs ls C hS hw hl ol ⟨trivial, os.2.2⟩)
theorem mb_irem {x y : Int32} (dg : decode cc pc = .ok (.irem, 1)) (hn : pc + 1 = pn) (hr : mb_g0 y X = some res) (k : X = some res → mb_Ev l G own cc nL ret d pn lv (.inl (x - x / y * y) :: st) h res) : mb_Ev l G own cc nL ret d pc lv (.inl y :: .inl x :: st) h res := by
  subst hn
  unfold mb_g0 at hr
  by_cases q : y = 0
  · rw [if_pos q] at hr; cases hr
  · rw [if_neg q] at hr
    exact fun p e R s m args below meth c H locs ls C hS hw hl ol os => lv_irem C.1 C.2.1 dg q (k hr p e R s m args below meth c H locs ls C hS hw hl ol ⟨trivial, os.2.2⟩)
theorem mb_ldiv {x y : Int64} (dg : decode cc pc = .ok (.ldiv, 1)) (hn : pc + 1 = pn) (hr : mb_gL y X = some res) (k : X = some res → mb_Ev l G own cc nL ret d pn lv (.inr (.inl (x / y)) :: st) h res) : mb_Ev l G own cc nL ret d pc lv (.inr (.inl y) :: .inr (.inl x) :: st) h res := by
  subst hn
  unfold mb_gL at hr
  by_cases q : y = 0
  · rw [if_pos q] at hr; cases hr
  · rw [if_neg q] at hr
    exact fun p e R s m args below meth c H locs ls C hS hw hl ol os => lv_ldiv C.1 C.2.1 dg q (k hr p e R s m args below meth c H locs ls C hS hw hl ol ⟨trivial, os.2.2⟩)
theorem mb_lrem {x y : Int64} (dg : decode cc pc = .ok (.lrem, 1)) (hn : pc + 1 = pn) (hr : mb_gL y X = some res) (k : X = some res → mb_Ev l G own cc nL ret d pn lv (.inr (.inl (x - x / y * y)) :: st) h res) : mb_Ev l G own cc nL ret d pc lv (.inr (.inl y) :: .inr (.inl x) :: st) h res := by
  subst hn
  unfold mb_gL at hr
  by_cases q : y = 0
  · rw [if_pos q] at hr; cases hr
  · rw [if_neg q] at hr
    exact fun p e R s m args below meth c H locs ls C hS hw hl ol os => lv_lrem C.1 C.2.1 dg q (k hr p e R s m args below meth c H locs ls C hS hw hl ol ⟨trivial, os.2.2⟩)
theorem mb_ishl {x y : Int32} (dg : decode cc pc = .ok (.ishl, 1)) (hn : pc + 1 = pn) (k : mb_Ev l G own cc nL ret d pn lv (.inl (x <<< (y &&& 31)) :: st) h res) : mb_Ev l G own cc nL ret d pc lv (.inl y :: .inl x :: st) h res := by
  subst hn
  exact fun p e R s m args below meth c H locs ls C hS hw hl ol os => lv_ishl C.1 C.2.1 dg (k p e R s m args below meth c H locs ls C hS hw hl ol ⟨trivial, os.2.2⟩)
theorem mb_ishr {x y : Int32} (dg : decode cc pc = .ok (.ishr, 1)) (hn : pc + 1 = pn) (k : mb_Ev l G own cc nL ret d pn lv (.inl (x >>> (y &&& 31)) :: st) h res) : mb_Ev l G own cc nL ret d pc lv (.inl y :: .inl x :: st) h res := by
  subst hn
  exact fun p e R s m args below meth c H locs ls C hS hw hl ol os => lv_ishr C.1 C.2.1 dg (k p e R s m args below meth c H locs ls C hS hw hl ol ⟨trivial, os.2.2⟩)
theorem mb_max {x y : Int32} {i : Nat} (h1 : Cond.methodLink own i Lib.Math.max.name ∈ mb_GW) (h2 : Cond.static Lib.Math.max.name ∈ mb_GW) (h3 : Cond.initialized "java/lang/Math" ∈ mb_GW) (h4 : Cond.code Lib.Math.max.name Lib.Math.max.code 2 (some .int) ∈ mb_GW) (hst : st.length ≤ 4) (dg : decode cc pc = .ok (.invokestatic i, 3)) (hn : pc + 3 = pn) (k : mb_Ev l G own cc nL ret d pn lv (.inl (if x < y then y else x) :: st) h res) : mb_Ev l G own cc nL ret d pc lv (.inl y :: .inl x :: st) h res := by
  subst hn
  exact fun p e R s m args below meth c H locs ls C hS hw hl ol os => va_mmax C.1 C.2.1 (C.2.2.1.trans hl.1.symm) C.2.2.2.1 (C.2.2.2.2.1 _ h1) (C.2.2.2.2.1 _ h2) (C.2.2.2.2.1 _ h3) (C.2.2.2.2.1 _ h4) (by have q := C.2.2.2.2.2.2.2.2.1.1; omega) (by have q := C.2.2.2.2.2.2.2.2.1.2.1; have q2 := mb_rest G st 4 hst; omega) (Nat.zero_le _) (Nat.zero_le _) dg (k p e R s m args below meth c H locs ls C hS hw hl ol ⟨trivial, os.2.2⟩)
theorem mb_min {x y : Int32} {i : Nat} (h1 : Cond.methodLink own i Lib.Math.min.name ∈ mb_GW) (h2 : Cond.static Lib.Math.min.name ∈ mb_GW) (h3 : Cond.initialized "java/lang/Math" ∈ mb_GW) (h4 : Cond.code Lib.Math.min.name Lib.Math.min.code 2 (some .int) ∈ mb_GW) (hst : st.length ≤ 4) (dg : decode cc pc = .ok (.invokestatic i, 3)) (hn : pc + 3 = pn) (k : mb_Ev l G own cc nL ret d pn lv (.inl (if y < x then y else x) :: st) h res) : mb_Ev l G own cc nL ret d pc lv (.inl y :: .inl x :: st) h res := by
  subst hn
  exact fun p e R s m args below meth c H locs ls C hS hw hl ol os => va_mmin C.1 C.2.1 (C.2.2.1.trans hl.1.symm) C.2.2.2.1 (C.2.2.2.2.1 _ h1) (C.2.2.2.2.1 _ h2) (C.2.2.2.2.1 _ h3) (C.2.2.2.2.1 _ h4) (by have q := C.2.2.2.2.2.2.2.2.1.1; omega) (by have q := C.2.2.2.2.2.2.2.2.1.2.1; have q2 := mb_rest G st 4 hst; omega) (Nat.zero_le _) (Nat.zero_le _) dg (k p e R s m args below meth c H locs ls C hS hw hl ol ⟨trivial, os.2.2⟩)
theorem mb_get {k a b ci N j i : Nat} {C9 : String} {T9 : u_T} {fs : List Value} {v : mb_AV} (hin : ∀ w ∈ u_ws C9 T9 N, w ∈ mb_GW) (hc : vwCl[ci]? = some (C9, T9, N)) (hj : j < N) (hlk : Cond.fieldLink own i (T9 j).1 (T9 j).2.1 (T9 j).2.2.1 ∈ mb_GW) (he : mb_eh G h (k, a, b) = .inr (ci, fs)) (hv : fs[j]? = some (mb_cz G v)) (hok : mb_okr (k, a, b) → mb_ok v) (dg : decode cc pc = .ok (.getfield i, 3)) (hn : pc + 3 = pn) (kk : mb_Ev l G own cc nL ret d pn lv (v :: st) h res) : mb_Ev l G own cc nL ret d pc lv (mb_F k a b :: st) h res := by
  subst hn
  intro p e R s m args below meth c H locs ls C hS hw hl ol os
  obtain ⟨q, hq⟩ := mb_at os.1
  exact va_get C.1 C.2.1 C.2.2.2.2.1 hin C.2.2.2.1 C.2.2.2.2.2.2.2.2.2.1 hw.1 q ((mb_wl_at G h hq).trans (congrArg (fun e9 => some (G.2.2 (k, a, b), e9)) he)) hc j hj (C.2.2.2.2.1 _ hlk) (fun _ z => z) hv dg (kk p e R s m args below meth c H locs ls C hS hw hl ol ⟨hok os.1, os.2⟩)
theorem mb_putI {k a b ci N j i : Nat} {C9 : String} {T9 : u_T} {fs : List Value} {ty : FieldType} {x : Int32} (hin : ∀ w ∈ u_ws C9 T9 N, w ∈ mb_GW) (ty0 : Nat → FieldType) (hty : ∀ k, k < N → parseFieldDescriptor (T9 k).2.2.1 = some (ty0 k)) (hnm : ∀ a, a < N → ∀ b, b < N → a ≠ b → (T9 a).2.1 ≠ (T9 b).2.1) (hc : vwCl[ci]? = some (C9, T9, N)) (hj : j < N) (hlk : Cond.fieldLink own i (T9 j).1 (T9 j).2.1 (T9 j).2.2.1 ∈ mb_GW) (hfin : (T9 j).2.2.2 = false) (hd : parseFieldDescriptor (T9 j).2.2.1 = some ty) (hnr : narrow ty (Value.int x) = Value.int x) (hft : fits ty (Value.int x) = true) (he : mb_eh G h (k, a, b) = .inr (ci, fs)) (hlt : j < fs.length) (he2 : mb_ek G (upd (h.1 k a b) j x) (h.2.1 k a b) h.2.2 (k, a, b) = .inr (ci, fs.set j (Value.int x))) (dg : decode cc pc = .ok (.putfield i, 3)) (hn : pc + 3 = pn) (kk : mb_Ev l G own cc nL ret d pn lv st (mb_sI h k a b j x) res) : mb_Ev l G own cc nL ret d pc lv (.inl x :: mb_F k a b :: st) h res := by
  subst hn
  intro p e R s m args below meth c H locs ls C hS hw hl ol os
  obtain ⟨q, hq⟩ := mb_at os.2.1
  refine va_put C.1 C.2.1 C.2.2.2.2.1 hin ty0 hty hnm C.2.2.2.1 C.2.2.2.2.2.2.2.2.2.1 hw.1 (mb_D C.2.2.2.2.2.2.2.2.2.2.2.2 h) hS q ((mb_wl_at G h hq).trans (congrArg (fun e9 => some (G.2.2 (k, a, b), e9)) he)) hc j hj (C.2.2.2.2.1 _ hlk) (fun _ z => z) hfin hd hnr hft hlt dg (fun H1 locs1 hP1 _ hS1 => ?_)
  rw [mb_set hq (h2 := mb_sI h k a b j x) (fun u _ hu => mb_sI_ne G h k a b j x u hu) (by show mb_ek G _ _ _ (k, a, b) = _; simp only [mb_sI_eq]; exact he2)] at hP1
  exact kk p e R s m args below meth c H1 locs1 ls C hS1 ⟨hP1, hw.2⟩ hl ol os.2.2
theorem mb_putL {k a b ci N j i : Nat} {C9 : String} {T9 : u_T} {fs : List Value} {ty : FieldType} {x : Int64} (hin : ∀ w ∈ u_ws C9 T9 N, w ∈ mb_GW) (ty0 : Nat → FieldType) (hty : ∀ k, k < N → parseFieldDescriptor (T9 k).2.2.1 = some (ty0 k)) (hnm : ∀ a, a < N → ∀ b, b < N → a ≠ b → (T9 a).2.1 ≠ (T9 b).2.1) (hc : vwCl[ci]? = some (C9, T9, N)) (hj : j < N) (hlk : Cond.fieldLink own i (T9 j).1 (T9 j).2.1 (T9 j).2.2.1 ∈ mb_GW) (hfin : (T9 j).2.2.2 = false) (hd : parseFieldDescriptor (T9 j).2.2.1 = some ty) (hnr : narrow ty (Value.long x) = Value.long x) (hft : fits ty (Value.long x) = true) (he : mb_eh G h (k, a, b) = .inr (ci, fs)) (hlt : j < fs.length) (he2 : mb_ek G (h.1 k a b) (vp_updL (h.2.1 k a b) j x) h.2.2 (k, a, b) = .inr (ci, fs.set j (Value.long x))) (dg : decode cc pc = .ok (.putfield i, 3)) (hn : pc + 3 = pn) (kk : mb_Ev l G own cc nL ret d pn lv st (mb_sL h k a b j x) res) : mb_Ev l G own cc nL ret d pc lv (.inr (.inl x) :: mb_F k a b :: st) h res := by
  subst hn
  intro p e R s m args below meth c H locs ls C hS hw hl ol os
  obtain ⟨q, hq⟩ := mb_at os.2.1
  refine va_put C.1 C.2.1 C.2.2.2.2.1 hin ty0 hty hnm C.2.2.2.1 C.2.2.2.2.2.2.2.2.2.1 hw.1 (mb_D C.2.2.2.2.2.2.2.2.2.2.2.2 h) hS q ((mb_wl_at G h hq).trans (congrArg (fun e9 => some (G.2.2 (k, a, b), e9)) he)) hc j hj (C.2.2.2.2.1 _ hlk) (fun _ z => z) hfin hd hnr hft hlt dg (fun H1 locs1 hP1 _ hS1 => ?_)
  rw [mb_set hq (h2 := mb_sL h k a b j x) (fun u _ hu => mb_sL_ne G h k a b j x u hu) (by show mb_ek G _ _ _ (k, a, b) = _; simp only [mb_sL_eq]; exact he2)] at hP1
  exact kk p e R s m args below meth c H1 locs1 ls C hS1 ⟨hP1, hw.2⟩ hl ol os.2.2
theorem mb_iald {k a b n : Nat} {x : Int32} (he : mb_eh G h (k, a, b) = .inl (G.2.1 0, (n, .inl (h.1 k a b)))) (dg : decode cc pc = .ok (.iaload, 1)) (hn : pc + 1 = pn) (hr : mb_gB x n X = some res) (kk : X = some res → mb_Ev l G own cc nL ret d pn lv (.inl (h.1 k a b x.toNatClampNeg) :: st) h res) : mb_Ev l G own cc nL ret d pc lv (.inl x :: mb_F k a b :: st) h res := by
  subst hn
  unfold mb_gB at hr
  by_cases q9 : x < 0 ∨ n ≤ x.toNatClampNeg
  · rw [if_pos q9] at hr; cases hr
  · rw [if_neg q9] at hr
    intro p e R s m args below meth c H locs ls C hS hw hl ol os
    obtain ⟨q, hq⟩ := mb_at os.2.1
    exact va_iald C.1 C.2.1 C.2.2.2.2.2.2.2.2.2.1 hw.1 q 0 ((mb_wl_at G h hq).trans (congrArg (fun e9 => some (G.2.2 (k, a, b), e9)) he)) rfl q9 dg (kk hr p e R s m args below meth c H locs ls C hS hw hl ol ⟨trivial, os.2.2⟩)
theorem mb_cald {k a b n : Nat} {x : Int32} (he : mb_eh G h (k, a, b) = .inl (G.2.1 1, (n, .inl (h.1 k a b)))) (dg : decode cc pc = .ok (.caload, 1)) (hn : pc + 1 = pn) (hr : mb_gB x n X = some res) (kk : X = some res → mb_Ev l G own cc nL ret d pn lv (.inl (h.1 k a b x.toNatClampNeg) :: st) h res) : mb_Ev l G own cc nL ret d pc lv (.inl x :: mb_F k a b :: st) h res := by
  subst hn
  unfold mb_gB at hr
  by_cases q9 : x < 0 ∨ n ≤ x.toNatClampNeg
  · rw [if_pos q9] at hr; cases hr
  · rw [if_neg q9] at hr
    intro p e R s m args below meth c H locs ls C hS hw hl ol os
    obtain ⟨q, hq⟩ := mb_at os.2.1
    exact va_cald C.1 C.2.1 C.2.2.2.2.2.2.2.2.2.1 hw.1 q 1 ((mb_wl_at G h hq).trans (congrArg (fun e9 => some (G.2.2 (k, a, b), e9)) he)) rfl q9 dg (kk hr p e R s m args below meth c H locs ls C hS hw hl ol ⟨trivial, os.2.2⟩)
theorem mb_aald10 {a : Nat} {x : Int32} (dg : decode cc pc = .ok (.aaload, 1)) (hn : pc + 1 = pn) (hr : mb_gB x 16 X = some res) (kk : X = some res → mb_Ev l G own cc nL ret d pn lv (mb_F 2 a x.toNatClampNeg :: st) h res) : mb_Ev l G own cc nL ret d pc lv (.inl x :: mb_F 10 a 0 :: st) h res := by
  subst hn
  unfold mb_gB at hr
  by_cases q9 : x < 0 ∨ 16 ≤ x.toNatClampNeg
  · rw [if_pos q9] at hr; cases hr
  · rw [if_neg q9] at hr
    intro p e R s m args below meth c H locs ls C hS hw hl ol os
    obtain ⟨q, hq⟩ := mb_at os.2.1
    have h1 : a < mb_nA 10 := os.2.1.1
    have h2 : x.toNatClampNeg < 16 := Nat.not_le.mp fun z => q9 (Or.inr z)
    exact va_aldq C.1 C.2.1 C.2.2.2.2.2.2.2.2.2.1 hw.1 q 3 (mb_wl_at G h hq) rfl q9 dg (kk hr p e R s m args below meth c H locs ls C hS hw hl ol ⟨⟨h1, h2⟩, os.2.2⟩)
theorem mb_aald11 {a : Nat} {x : Int32} (dg : decode cc pc = .ok (.aaload, 1)) (hn : pc + 1 = pn) (hr : mb_gB x 20 X = some res) (kk : X = some res → mb_Ev l G own cc nL ret d pn lv (mb_F 3 a x.toNatClampNeg :: st) h res) : mb_Ev l G own cc nL ret d pc lv (.inl x :: mb_F 11 a 0 :: st) h res := by
  subst hn
  unfold mb_gB at hr
  by_cases q9 : x < 0 ∨ 20 ≤ x.toNatClampNeg
  · rw [if_pos q9] at hr; cases hr
  · rw [if_neg q9] at hr
    intro p e R s m args below meth c H locs ls C hS hw hl ol os
    obtain ⟨q, hq⟩ := mb_at os.2.1
    have h1 : a < mb_nA 11 := os.2.1.1
    have h2 : x.toNatClampNeg < 20 := Nat.not_le.mp fun z => q9 (Or.inr z)
    exact va_aldq C.1 C.2.1 C.2.2.2.2.2.2.2.2.2.1 hw.1 q 4 (mb_wl_at G h hq) rfl q9 dg (kk hr p e R s m args below meth c H locs ls C hS hw hl ol ⟨⟨h1, h2⟩, os.2.2⟩)
theorem mb_aald13 {a : Nat} {x : Int32} (dg : decode cc pc = .ok (.aaload, 1)) (hn : pc + 1 = pn) (hr : mb_gB x 4 X = some res) (kk : X = some res → mb_Ev l G own cc nL ret d pn lv (mb_F 1 (h.2.2 x.toNatClampNeg) 0 :: st) h res) : mb_Ev l G own cc nL ret d pc lv (.inl x :: mb_F 13 a 0 :: st) h res := by
  subst hn
  unfold mb_gB at hr
  by_cases q9 : x < 0 ∨ 4 ≤ x.toNatClampNeg
  · rw [if_pos q9] at hr; cases hr
  · rw [if_neg q9] at hr
    intro p e R s m args below meth c H locs ls C hS hw hl ol os
    obtain ⟨q, hq⟩ := mb_at os.2.1
    have h1 : a < mb_nA 13 := os.2.1.1
    have h2 : x.toNatClampNeg < 4 := Nat.not_le.mp fun z => q9 (Or.inr z)
    exact va_aldq C.1 C.2.1 C.2.2.2.2.2.2.2.2.2.1 hw.1 q 5 (mb_wl_at G h hq) rfl q9 dg (kk hr p e R s m args below meth c H locs ls C hS hw hl ol ⟨⟨hw.2 _ h2, Nat.zero_lt_one⟩, os.2.2⟩)
theorem mb_iast {k a b n : Nat} {x v : Int32} (he : mb_eh G h (k, a, b) = .inl (G.2.1 0, (n, .inl (h.1 k a b)))) (he2 : mb_ek G (upd (h.1 k a b) x.toNatClampNeg (v)) (h.2.1 k a b) h.2.2 (k, a, b) = .inl (G.2.1 0, (n, .inl (upd (h.1 k a b) x.toNatClampNeg (v))))) (dg : decode cc pc = .ok (.iastore, 1)) (hn : pc + 1 = pn) (hr : mb_gB x n X = some res) (kk : X = some res → mb_Ev l G own cc nL ret d pn lv st (mb_sI h k a b x.toNatClampNeg (v)) res) : mb_Ev l G own cc nL ret d pc lv (.inl v :: .inl x :: mb_F k a b :: st) h res := by
  subst hn
  unfold mb_gB at hr
  by_cases q9 : x < 0 ∨ n ≤ x.toNatClampNeg
  · rw [if_pos q9] at hr; cases hr
  · rw [if_neg q9] at hr
    intro p e R s m args below meth c H locs ls C hS hw hl ol os
    obtain ⟨q, hq⟩ := mb_at os.2.2.1
    refine va_iast C.1 C.2.1 C.2.2.2.2.2.2.2.2.2.1 hw.1 (mb_D C.2.2.2.2.2.2.2.2.2.2.2.2 h) hS q 0 ((mb_wl_at G h hq).trans (congrArg (fun e9 => some (G.2.2 (k, a, b), e9)) he)) rfl q9 dg (fun H1 locs1 hP1 _ hS1 => ?_)
    rw [mb_set hq (h2 := mb_sI h k a b x.toNatClampNeg (v)) (fun u _ hu => mb_sI_ne G h k a b _ _ u hu) (by show mb_ek G _ _ _ (k, a, b) = _; simp only [mb_sI_eq]; exact he2)] at hP1
    exact kk hr p e R s m args below meth c H1 locs1 ls C hS1 ⟨hP1, hw.2⟩ hl ol os.2.2.2
theorem mb_cast {k a b n : Nat} {x v : Int32} (he : mb_eh G h (k, a, b) = .inl (G.2.1 1, (n, .inl (h.1 k a b)))) (he2 : mb_ek G (upd (h.1 k a b) x.toNatClampNeg (vp_nar .char v)) (h.2.1 k a b) h.2.2 (k, a, b) = .inl (G.2.1 1, (n, .inl (upd (h.1 k a b) x.toNatClampNeg (vp_nar .char v))))) (dg : decode cc pc = .ok (.castore, 1)) (hn : pc + 1 = pn) (hr : mb_gB x n X = some res) (kk : X = some res → mb_Ev l G own cc nL ret d pn lv st (mb_sI h k a b x.toNatClampNeg (vp_nar .char v)) res) : mb_Ev l G own cc nL ret d pc lv (.inl v :: .inl x :: mb_F k a b :: st) h res := by
  subst hn
  unfold mb_gB at hr
  by_cases q9 : x < 0 ∨ n ≤ x.toNatClampNeg
  · rw [if_pos q9] at hr; cases hr
  · rw [if_neg q9] at hr
    intro p e R s m args below meth c H locs ls C hS hw hl ol os
    obtain ⟨q, hq⟩ := mb_at os.2.2.1
    refine va_cast C.1 C.2.1 C.2.2.2.2.2.2.2.2.2.1 hw.1 (mb_D C.2.2.2.2.2.2.2.2.2.2.2.2 h) hS q 1 ((mb_wl_at G h hq).trans (congrArg (fun e9 => some (G.2.2 (k, a, b), e9)) he)) rfl q9 dg (fun H1 locs1 hP1 _ hS1 => ?_)
    rw [mb_set hq (h2 := mb_sI h k a b x.toNatClampNeg (vp_nar .char v)) (fun u _ hu => mb_sI_ne G h k a b _ _ u hu) (by show mb_ek G _ _ _ (k, a, b) = _; simp only [mb_sI_eq]; exact he2)] at hP1
    exact kk hr p e R s m args below meth c H1 locs1 ls C hS1 ⟨hP1, hw.2⟩ hl ol os.2.2.2
theorem mb_aast13 {r9 : Nat} {x : Int32} (dg : decode cc pc = .ok (.aastore, 1)) (hn : pc + 1 = pn) (hr : mb_gB x 4 X = some res) (kk : X = some res → mb_Ev l G own cc nL ret d pn lv st (mb_sR h x.toNatClampNeg r9) res) : mb_Ev l G own cc nL ret d pc lv (mb_F 1 r9 0 :: .inl x :: mb_F 13 0 0 :: st) h res := by
  subst hn
  unfold mb_gB at hr
  by_cases q9 : x < 0 ∨ 4 ≤ x.toNatClampNeg
  · rw [if_pos q9] at hr; cases hr
  · rw [if_neg q9] at hr
    intro p e R s m args below meth c H locs ls C hS hw hl ol os
    obtain ⟨q, hq⟩ := mb_at os.2.2.1
    obtain ⟨q2, hq2⟩ := mb_at os.1
    have hr9 : r9 < 6 := os.1.1
    refine va_astq C.1 C.2.1 C.2.2.2.2.2.2.2.2.2.1 hw.1 (mb_D C.2.2.2.2.2.2.2.2.2.2.2.2 h) hS q 5 q2 2 (r := (RX2, TX2, 15)) (mb_wl_at G h hq) rfl (mb_wl_at G h hq2) rfl q9 dg (fun H1 locs1 hP1 _ hS1 => ?_)
    have e1 : ∀ u : mb_RF, mb_okr u → u ≠ (13, 0, 0) → mb_eh G (mb_sR h x.toNatClampNeg r9) u = mb_eh G h u := by
      intro u hu2 hu
      by_cases hu1 : u.1 = 13
      · exfalso
        apply hu
        obtain ⟨u1, u2, u3⟩ := u
        dsimp only at hu1
        subst hu1
        have z1 : u2 < 1 := hu2.1
        have z2 : u3 < 1 := hu2.2
        have z3 : u2 = 0 := by omega
        have z4 : u3 = 0 := by omega
        subst z3; subst z4
        rfl
      · exact mb_ek_r G _ _ _ _ u hu1
    have e2 : mb_eh G (mb_sR h x.toNatClampNeg r9) (13, 0, 0) = .inl (G.2.1 5, (4, .inr (.inr (.inr (.inr (va_up (fun k => some (G.2.2 (1, h.2.2 k, 0))) x.toNatClampNeg (some (G.2.2 (1, r9, 0))))))))) := by
      have e3 : (fun k => some (G.2.2 (1, (mb_sR h x.toNatClampNeg r9).2.2 k, 0))) = va_up (fun k => some (G.2.2 (1, h.2.2 k, 0))) x.toNatClampNeg (some (G.2.2 (1, r9, 0))) := by
        funext k9
        by_cases hk : k9 = x.toNatClampNeg
        · subst hk; simp [mb_sR, va_up]
        · simp [mb_sR, va_up, hk]
      rw [← e3]
      rfl
    rw [mb_set hq e1 e2] at hP1
    refine kk hr p e R s m args below meth c H1 locs1 ls C hS1 ⟨hP1, fun k9 hk9 => ?_⟩ hl ol os.2.2.2
    show (if k9 = x.toNatClampNeg then r9 else h.2.2 k9) < 6
    split
    · exact hr9
    · exact hw.2 k9 hk9
theorem mb_iret {x : Int32} (dg : decode cc pc = .ok (.ireturn, 1)) : mb_Ev l G own cc nL (some .int) d pc lv [.inl x] h (.inl (some (.inl x)), h) := by
  intro p e R s m args below meth c H locs ls C hS hw hl ol os
  exact vx_ret (W.iret C.1 C.2.1 C.2.2.2.2.2.2.1 (fun t ht hW => ⟨⟨_, rfl, rfl, ⟨trivial, trivial⟩⟩, by rw [ht]; exact hw, hS.F ht⟩) hS.2.2 dg C.2.2.2.2.2.1)
theorem mb_zret {x : Int32} (dg : decode cc pc = .ok (.ireturn, 1)) (hr : mb_gZ x (some (.inl (some (.inl x)), h)) = some res) : mb_Ev l G own cc nL (some .boolean) d pc lv [.inl x] h res := by
  unfold mb_gZ at hr
  by_cases q9 : x = 0 ∨ x = 1
  · rw [if_pos q9] at hr
    cases hr
    intro p e R s m args below meth c H locs ls C hS hw hl ol os
    exact vx_ret (W.zret C.1 C.2.1 C.2.2.2.2.2.2.1 (by rcases q9 with rfl | rfl <;> decide) (fun t ht hW => ⟨⟨_, rfl, rfl, ⟨trivial, trivial⟩⟩, by rw [ht]; exact hw, hS.F ht⟩) hS.2.2 dg C.2.2.2.2.2.1)
  · rw [if_neg q9] at hr; cases hr
theorem mb_zret0 (dg : decode cc pc = .ok (.ireturn, 1)) : mb_Ev l G own cc nL (some .boolean) d pc lv [.inl 0] h (.inl (some (.inl 0)), h) := by
  intro p e R s m args below meth c H locs ls C hS hw hl ol os
  exact vx_ret (W.zret C.1 C.2.1 C.2.2.2.2.2.2.1 (by decide) (fun t ht hW => ⟨⟨_, rfl, rfl, ⟨trivial, trivial⟩⟩, by rw [ht]; exact hw, hS.F ht⟩) hS.2.2 dg C.2.2.2.2.2.1)
theorem mb_zret1 (dg : decode cc pc = .ok (.ireturn, 1)) : mb_Ev l G own cc nL (some .boolean) d pc lv [.inl 1] h (.inl (some (.inl 1)), h) := by
  intro p e R s m args below meth c H locs ls C hS hw hl ol os
  exact vx_ret (W.zret C.1 C.2.1 C.2.2.2.2.2.2.1 (by decide) (fun t ht hW => ⟨⟨_, rfl, rfl, ⟨trivial, trivial⟩⟩, by rw [ht]; exact hw, hS.F ht⟩) hS.2.2 dg C.2.2.2.2.2.1)
theorem mb_lret {x : Int64} (dg : decode cc pc = .ok (.lreturn, 1)) : mb_Ev l G own cc nL (some .long) d pc lv [.inr (.inl x)] h (.inl (some (.inr (.inl x))), h) := by
  intro p e R s m args below meth c H locs ls C hS hw hl ol os
  exact vx_ret (W.lret C.1 C.2.1 C.2.2.2.2.2.2.1 (fun t ht hW => ⟨⟨_, rfl, rfl, ⟨trivial, trivial⟩⟩, by rw [ht]; exact hw, hS.F ht⟩) hS.2.2 dg C.2.2.2.2.2.1)
theorem mb_vret (dg : decode cc pc = .ok (.return_, 1)) : mb_Ev l G own cc nL none d pc lv [] h (.inl none, h) := by
  intro p e R s m args below meth c H locs ls C hS hw hl ol os
  exact vx_ret (W.vret C.1 C.2.1 C.2.2.2.2.2.2.1 (fun t ht hW => ⟨⟨_, rfl, rfl, trivial⟩, by rw [ht]; exact hw, hS.F ht⟩) hS.2.2 dg C.2.2.2.2.2.1)
theorem mb_aret {nm : String} {k9 a9 b9 : Nat} (dg : decode cc pc = .ok (.areturn, 1)) : mb_Ev l G own cc nL (some (.object nm)) d pc lv [mb_F k9 a9 b9] h (.inl (some (mb_F k9 a9 b9)), h) := by
  intro p e R s m args below meth c H locs ls C hS hw hl ol os
  exact vx_ret (W.aret C.1 C.2.1 C.2.2.2.2.2.2.1 (Or.inl ⟨_, rfl⟩) (Or.inr ⟨_, rfl⟩) (fun t ht hW => ⟨⟨_, rfl, rfl, os⟩, by rw [ht]; exact hw, hS.F ht⟩) hS.2.2 dg C.2.2.2.2.2.1)
theorem mb_aretN {nm : String} (dg : decode cc pc = .ok (.areturn, 1)) : mb_Ev l G own cc nL (some (.object nm)) d pc lv [mb_N] h (.inl (some mb_N), h) := by
  intro p e R s m args below meth c H locs ls C hS hw hl ol os
  exact vx_ret (W.aret C.1 C.2.1 C.2.2.2.2.2.2.1 (Or.inl ⟨_, rfl⟩) (Or.inl rfl) (fun t ht hW => ⟨⟨_, rfl, rfl, os⟩, by rw [ht]; exact hw, hS.F ht⟩) hS.2.2 dg C.2.2.2.2.2.1)
end MBS
