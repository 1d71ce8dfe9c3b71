/-! THE CLAIM OUT OF ONE WALK OF THE LAW'S BODY. Your part is whole_start (and what it stands on); all else here is the same for every law, but numbers. -/
def R_law : String := "WireWaysLaw"
def lw_P (b : Addr) (xs : List Int32) (args : Array Value) (s : State) : Prop := args = #[.ref b] ∧ s.IntsAt b xs ∧ xs.length ≤ 2561 ∧ (Jvm.Cond.and given_1 narrow_1).before args s = true
def lw_Q (_ : Array Value) (s : State) (o : Outcome) (t : State) : Prop := o = .returned (some (.int 1)) ∧ Framed s o t [] 11 243
def lw_Z (below : List Frame) (a : Array Value) (s : State) : State → Prop := fun t => ∃ o, t.status = .running ∧ Ended t below o ∧ lw_Q a s o t
/-- the law's own end, with 1 on the stack, nothing written that was there before, its room as the claim has it -/
theorem lw_ret {p : Program} {l : Launch} {e : Env} {s : State} {m : MethodId} {below : List Frame} {meth : Method} {c : Code} {b : Nat} (hx : p.tables.exec = Jvm.exec) (hb : c.code = code) (hr : meth.sig.returnType = ret) (hlocks : meth.locks = false) {pc : Nat} {H : Heap} {ls : Array Slot} (hdg : decode code pc = .ok (.ireturn, 1)) : W p l e room_1 s m #[Value.ref b] below meth c H [] 11 243 (lw_Z below #[Value.ref b] s) (F0 m pc ls [.int 1]) := by
  intro T hT X
  obtain ⟨fs, hret, hrun, hended, hW, hframe⟩ := X.leave (v := some (.int 1)) (hlocks := hlocks) (fun h => by rw [hr] at h; cases h)
  have hmeth' : T.vm.method? m = some meth := X.method'
  refine ⟨T.setFrames fs, ?_, .returned (some (.int 1)), hrun, hended, rfl, ⟨_, rfl⟩, hW, hframe⟩
  jvm_step X.here [X.here.top, hx, hb, hdg, hmeth', hr, ret, narrow_b1]
  (try refine ⟨rfl, ?_⟩); (try refine ⟨rfl, ?_⟩)
  first | (intro acts; rw [hret _ acts rfl rfl rfl]) | rw [hret _ _ rfl rfl rfl]
  exact Steps.refl _
/-- what holds at the law's entry: the machine, the code, the tables' words (any of lw_tbl by 'hts w (by decide +kernel)'), the script of L ints xs at the cell b, what the Statement gives of the start (any of its parts by flat_of_before) -/
def lw_At (p : Program) (s : State) (m : MethodId) (meth : Method) (c : Code) (b L : Nat) (xs : Nat → Int32) : Prop :=
  p.tables.exec = Jvm.exec ∧ c.code = code ∧ meth.sig.returnType = ret ∧ c.maxLocals = 4 ∧ s.vm.findClass R_law = some m.cls ∧ (∀ w ∈ lw_tbl, w.before #[Value.ref b] s = true) ∧ va_X b L xs s s.heap ∧ b < s.heap.size ∧ meth.locks = false ∧ (Jvm.Cond.and given_1 narrow_1).before #[Value.ref b] s = true
set_option maxHeartbeats 8000000 in
set_option maxRecDepth 100000 in
/-- the law's loop: at its head both sides stand for the same state -/
theorem law_loop {p : Program} {l : Launch} {e : Env} {s : State} {m : MethodId} {below : List Frame} {meth : Method} {cd : Code} {D : va_G} {ad ad2 : Nat → Nat} {tt tt2 : Nat → ClassId} {b L R : Nat} {xs : Nat → Int32} (hL : L ≤ 2561) (C0 : lw_At p s m meth cd b L xs) (hK1 : va_K D vwCl (tyX tt) s) (hK2 : va_K D vwCl (tyM tt2) s) :
    ∀ (fuel i : Nat) (w c k d n d2 : Nat → Int32) (wp wr wp2 wr2 : Int32), ww_ok R w c → i ≤ L + 1 → L + 1 - i < fuel → ∀ (H : Heap) (locs : List Loc) (ls : Array Slot), va_P D vwCl (xw ad tt R w c k d n wp wr ++ mw ad2 tt2 R w c k d2 wp2 wr2) H → va_D (fun q : Nat => s.heap.size ≤ q) (xw ad tt R w c k d n wp wr ++ mw ad2 tt2 R w c k d2 wp2 wr2) → va_S (fun q : Nat => s.heap.size ≤ q) s.heap H locs → lv_has ls 4 [(0, .ref b), (1, .ref (ad 0)), (2, .ref (ad2 0)), (3, .int (nI i))] → W p l e room_1 s m #[Value.ref b] below meth cd H locs 11 243 (lw_Z below #[Value.ref b] s) (F0 m 28 ls []) := by
  obtain ⟨hx, hb, hr, hml, hown, hts, hX, hbl, hlocks, hgv⟩ := C0
  have hts : ∀ w ∈ wsL_law, w.before #[Value.ref b] s = true := fun w h => hts w (wsL_law_in w h)
  have hA : ∀ q : Nat, s.heap.size ≤ q → (fun q : Nat => s.heap.size ≤ q) q := fun _ h => h
  have hbA : ¬ (fun q : Nat => s.heap.size ≤ q) b := Nat.not_le.mpr hbl
  have S0 : CallFix p m cd cL_law 4 s #[Value.ref b] wsL_law RL := ⟨hx, hb, hml, hown, hts⟩
  intro fuel
  induction fuel with
  | zero => intro i w c k d n d2 wp wr wp2 wr2 hok hi0 hm; exact absurd hm (Nat.not_lt_zero _)
  | succ fuel ih =>
    intro i w c k d n d2 wp wr wp2 wr2 hok hi0 hm H locs ls hP hD hS hl
    refine lv_iload_n hx hb dL_law_28 rfl (lv_at hl 3 rfl) ?_
    refine lv_aload_n hx hb dL_law_29 rfl (lv_at hl 0 rfl) ?_
    refine va_slen hx hb hX hbl hbA hS dL_law_30 ?_
    refine lv_iconst (v := 5) hx hb dL_law_31 (by decide) ?_
    refine lv_isub hx hb dL_law_32 ?_
    refine lv_icmp_gt (tgt := 573) hx hb dL_law_33 (by decide) (fun cg => ?_) (fun cg => ?_)
    · refine lv_iconst (v := 1) hx hb dL_law_573 (by decide) ?_
      refine va_forget (fun q hq => hS.2.2 q hq) ?_
      exact lw_ret hx hb hr hlocks dL_law_574
    · have hi5 := law_i hL hi0 cg
      refine lv_aload_n hx hb dL_law_36 rfl (lv_at hl 0 rfl) ?_
      refine lv_iload_n hx hb dL_law_37 rfl (lv_at hl 3 rfl) ?_
      refine va_sld hx hb hX hbl hbA hS (vp_in_nI (by omega) (by omega)) dL_law_38 ?_
      refine xt_eq (z := xs i) (congrArg xs (nI_clamp (by omega))) ?_
      refine lv_bipush (v := 15) hx hb dL_law_39 (by decide) ?_
      refine lv_iand hx hb dL_law_41 ?_
      obtain ⟨sw, hsw, esw⟩ := pk_andE (xs i) (m := 15) 4 rfl
      refine xt_eq esw ?_
      by_cases h0 : sw = 0
      · subst h0
        refine lv_tableIn (off := 58) (tgt := 100) hx hb dL_law_42 (by decide) (by decide) rfl (by decide) ?_
        refine lv_aload_n hx hb dL_law_100 rfl (lv_at hl 1 rfl) ?_
        refine lv_aload_n hx hb dL_law_101 rfl (lv_at hl 0 rfl) ?_
        refine lv_iload_n hx hb dL_law_102 rfl (lv_at hl 3 rfl) ?_
        refine lv_iconst (v := 1) hx hb dL_law_103 (by decide) ?_
        refine lv_iadd hx hb dL_law_104 ?_
        refine xt_eq (z := nI (i + 1)) (nI_add i 1) ?_
        refine va_sld hx hb hX hbl hbA hS (vp_in_nI (by omega) (by omega)) dL_law_105 ?_
        refine xt_eq (z := xs (i + 1)) (congrArg xs (nI_clamp (by omega))) ?_
        refine lv_aload_n hx hb dL_law_106 rfl (lv_at hl 0 rfl) ?_
        refine lv_iload_n hx hb dL_law_107 rfl (lv_at hl 3 rfl) ?_
        refine lv_iconst (v := 2) hx hb dL_law_108 (by decide) ?_
        refine lv_iadd hx hb dL_law_109 ?_
        refine xt_eq (z := nI (i + 2)) (nI_add i 2) ?_
        refine va_sld hx hb hX hbl hbA hS (vp_in_nI (by omega) (by omega)) dL_law_110 ?_
        refine xt_eq (z := xs (i + 2)) (congrArg xs (nI_clamp (by omega))) ?_
        refine lv_aload_n hx hb dL_law_111 rfl (lv_at hl 0 rfl) ?_
        refine lv_iload_n hx hb dL_law_112 rfl (lv_at hl 3 rfl) ?_
        refine lv_iconst (v := 3) hx hb dL_law_113 (by decide) ?_
        refine lv_iadd hx hb dL_law_114 ?_
        refine xt_eq (z := nI (i + 3)) (nI_add i 3) ?_
        refine va_sld hx hb hX hbl hbA hS (vp_in_nI (by omega) (by omega)) dL_law_115 ?_
        refine xt_eq (z := xs (i + 3)) (congrArg xs (nI_clamp (by omega))) ?_
        refine lv_aload_n hx hb dL_law_116 rfl (lv_at hl 0 rfl) ?_
        refine lv_iload_n hx hb dL_law_117 rfl (lv_at hl 3 rfl) ?_
        refine lv_iconst (v := 4) hx hb dL_law_118 (by decide) ?_
        refine lv_iadd hx hb dL_law_119 ?_
        refine xt_eq (z := nI (i + 4)) (nI_add i 4) ?_
        refine va_sld hx hb hX hbl hbA hS (vp_in_nI (by omega) (by omega)) dL_law_120 ?_
        refine xt_eq (z := xs (i + 4)) (congrArg xs (nI_clamp (by omega))) ?_
        refine xs_Vi (wr := mw ad2 tt2 R w c k d2 wp2 wr2) (q0 := 0) (ci := 0) (nA := 4) (As := [.int (xs (i + 1)), .int (xs (i + 2)), .int (xs (i + 3)), .int (xs (i + 4))]) (rest := []) S0 (k_X0_plug l D ad tt R w c k d n wp wr (xs (i + 1)) (xs (i + 2)) (xs (i + 3)) (xs (i + 4)) hok.2.1 hok.2.2.1) gL_law_X0_plug rfl ⟨rfl, rfl⟩ (by decide +kernel) rfl ⟨Nat.le_of_ble_eq_true rfl, Nat.le_of_ble_eq_true rfl⟩ ⟨Nat.le_of_ble_eq_true rfl, Nat.le_of_ble_eq_true rfl⟩ hK1 hP hD hS hA [0, 1, 2, 3, 4, 5] [6, 7, 8, 9, 10] rfl rfl (by decide) (by decide) (by decide) rfl rfl rfl hl.1 rfl (Nat.le_of_ble_eq_true rfl) dL_law_121 (fun r1 u1 H locs h1 hP hD hS => ?_)
        have hP : va_P D vwCl (mw ad2 tt2 R w c k d2 wp2 wr2 ++ xw ad tt R u1.1 u1.2 k d n wp wr) H := hP
        have hD : va_D (fun q : Nat => s.heap.size ≤ q) (mw ad2 tt2 R w c k d2 wp2 wr2 ++ xw ad tt R u1.1 u1.2 k d n wp wr) := hD
        refine lv_aload_n hx hb dL_law_124 rfl (lv_at hl 2 rfl) ?_
        refine lv_aload_n hx hb dL_law_125 rfl (lv_at hl 0 rfl) ?_
        refine lv_iload_n hx hb dL_law_126 rfl (lv_at hl 3 rfl) ?_
        refine lv_iconst (v := 1) hx hb dL_law_127 (by decide) ?_
        refine lv_iadd hx hb dL_law_128 ?_
        refine xt_eq (z := nI (i + 1)) (nI_add i 1) ?_
        refine va_sld hx hb hX hbl hbA hS (vp_in_nI (by omega) (by omega)) dL_law_129 ?_
        refine xt_eq (z := xs (i + 1)) (congrArg xs (nI_clamp (by omega))) ?_
        refine lv_aload_n hx hb dL_law_130 rfl (lv_at hl 0 rfl) ?_
        refine lv_iload_n hx hb dL_law_131 rfl (lv_at hl 3 rfl) ?_
        refine lv_iconst (v := 2) hx hb dL_law_132 (by decide) ?_
        refine lv_iadd hx hb dL_law_133 ?_
        refine xt_eq (z := nI (i + 2)) (nI_add i 2) ?_
        refine va_sld hx hb hX hbl hbA hS (vp_in_nI (by omega) (by omega)) dL_law_134 ?_
        refine xt_eq (z := xs (i + 2)) (congrArg xs (nI_clamp (by omega))) ?_
        refine lv_aload_n hx hb dL_law_135 rfl (lv_at hl 0 rfl) ?_
        refine lv_iload_n hx hb dL_law_136 rfl (lv_at hl 3 rfl) ?_
        refine lv_iconst (v := 3) hx hb dL_law_137 (by decide) ?_
        refine lv_iadd hx hb dL_law_138 ?_
        refine xt_eq (z := nI (i + 3)) (nI_add i 3) ?_
        refine va_sld hx hb hX hbl hbA hS (vp_in_nI (by omega) (by omega)) dL_law_139 ?_
        refine xt_eq (z := xs (i + 3)) (congrArg xs (nI_clamp (by omega))) ?_
        refine lv_aload_n hx hb dL_law_140 rfl (lv_at hl 0 rfl) ?_
        refine lv_iload_n hx hb dL_law_141 rfl (lv_at hl 3 rfl) ?_
        refine lv_iconst (v := 4) hx hb dL_law_142 (by decide) ?_
        refine lv_iadd hx hb dL_law_143 ?_
        refine xt_eq (z := nI (i + 4)) (nI_add i 4) ?_
        refine va_sld hx hb hX hbl hbA hS (vp_in_nI (by omega) (by omega)) dL_law_144 ?_
        refine xt_eq (z := xs (i + 4)) (congrArg xs (nI_clamp (by omega))) ?_
        refine xs_Vi (wr := xw ad tt R u1.1 u1.2 k d n wp wr) (q0 := 0) (ci := 1) (nA := 4) (As := [.int (xs (i + 1)), .int (xs (i + 2)), .int (xs (i + 3)), .int (xs (i + 4))]) (rest := [.int r1]) S0 (k_X1_plug l D ad2 tt2 R w c k d2 wp2 wr2 (xs (i + 1)) (xs (i + 2)) (xs (i + 3)) (xs (i + 4)) hok.2.1) gL_law_X1_plug rfl ⟨rfl, rfl⟩ (by decide +kernel) rfl ⟨Nat.le_of_ble_eq_true rfl, Nat.le_of_ble_eq_true rfl⟩ ⟨Nat.le_of_ble_eq_true rfl, Nat.le_of_ble_eq_true rfl⟩ hK2 hP hD hS hA [0, 1, 2, 3, 4] [5, 6, 7, 8, 9, 10] rfl rfl (by decide) (by decide) (by decide) rfl rfl rfl hl.1 rfl (Nat.le_of_ble_eq_true rfl) dL_law_145 (fun r2 u2 H locs h2 hP hD hS => ?_)
        have hP : va_P D vwCl (xw ad tt R u1.1 u1.2 k d n wp wr ++ mw ad2 tt2 R u2.1 u2.2 k d2 wp2 wr2) H := hP
        have hD : va_D (fun q : Nat => s.heap.size ≤ q) (xw ad tt R u1.1 u1.2 k d n wp wr ++ mw ad2 tt2 R u2.1 u2.2 k d2 wp2 wr2) := hD
        obtain ⟨e1, e2⟩ := r_plug_one hok.2.1 h1 h2
        rw [← e2] at hP hD
        have hP : va_P D vwCl (xw ad tt R u1.1 u1.2 k d n wp wr ++ mw ad2 tt2 R u1.1 u1.2 k d2 wp2 wr2) H := hP
        have hD : va_D (fun q : Nat => s.heap.size ≤ q) (xw ad tt R u1.1 u1.2 k d n wp wr ++ mw ad2 tt2 R u1.1 u1.2 k d2 wp2 wr2) := hD
        refine lv_icmp_eq (tgt := 567) hx hb dL_law_148 (by decide) (fun c9 => ?_) (fun c9 => absurd e1 c9)
        refine lv_iinc (v := nI (i + 5)) (lv' := [(3, .int (nI (i + 5))), (0, .ref b), (1, .ref (ad 0)), (2, .ref (ad2 0))]) hx hb dL_law_567 hl (k := 3) rfl (nI_add i 5) (by decide) rfl (fun ls hl => ?_)
        refine lv_goto (tgt := 28) hx hb dL_law_570 (by decide) ?_
        exact ih (i + 5) u1.1 u1.2 k d n d2 wp wr wp2 wr2 (ok_plug hok h1) (by omega) (by omega) H locs ls hP hD hS (lv_sub hl [1, 2, 3, 0] rfl)
      by_cases h1 : sw = 1
      · subst h1
        refine lv_tableIn (off := 111) (tgt := 153) hx hb dL_law_42 (by decide) (by decide) rfl (by decide) ?_
        refine lv_aload_n hx hb dL_law_153 rfl (lv_at hl 1 rfl) ?_
        refine lv_aload_n hx hb dL_law_154 rfl (lv_at hl 0 rfl) ?_
        refine lv_iload_n hx hb dL_law_155 rfl (lv_at hl 3 rfl) ?_
        refine lv_iconst (v := 1) hx hb dL_law_156 (by decide) ?_
        refine lv_iadd hx hb dL_law_157 ?_
        refine xt_eq (z := nI (i + 1)) (nI_add i 1) ?_
        refine va_sld hx hb hX hbl hbA hS (vp_in_nI (by omega) (by omega)) dL_law_158 ?_
        refine xt_eq (z := xs (i + 1)) (congrArg xs (nI_clamp (by omega))) ?_
        refine lv_aload_n hx hb dL_law_159 rfl (lv_at hl 0 rfl) ?_
        refine lv_iload_n hx hb dL_law_160 rfl (lv_at hl 3 rfl) ?_
        refine lv_iconst (v := 2) hx hb dL_law_161 (by decide) ?_
        refine lv_iadd hx hb dL_law_162 ?_
        refine xt_eq (z := nI (i + 2)) (nI_add i 2) ?_
        refine va_sld hx hb hX hbl hbA hS (vp_in_nI (by omega) (by omega)) dL_law_163 ?_
        refine xt_eq (z := xs (i + 2)) (congrArg xs (nI_clamp (by omega))) ?_
        refine xs_Vi (wr := mw ad2 tt2 R w c k d2 wp2 wr2) (q0 := 0) (ci := 0) (nA := 2) (As := [.int (xs (i + 1)), .int (xs (i + 2))]) (rest := []) S0 (k_X0_draw l D ad tt R w c k d n wp wr (xs (i + 1)) (xs (i + 2)) hok.2.1 hok.2.2.1) gL_law_X0_draw rfl ⟨rfl, rfl⟩ (by decide +kernel) rfl ⟨Nat.le_of_ble_eq_true rfl, Nat.le_of_ble_eq_true rfl⟩ ⟨Nat.le_of_ble_eq_true rfl, Nat.le_of_ble_eq_true rfl⟩ hK1 hP hD hS hA [0, 1, 2, 3, 4, 5] [6, 7, 8, 9, 10] rfl rfl (by decide) (by decide) (by decide) rfl rfl rfl hl.1 rfl (Nat.le_of_ble_eq_true rfl) dL_law_164 (fun r1 u1 H locs h1 hP hD hS => ?_)
        have hP : va_P D vwCl (mw ad2 tt2 R w c k d2 wp2 wr2 ++ xw ad tt R u1 c k d n wp wr) H := hP
        have hD : va_D (fun q : Nat => s.heap.size ≤ q) (mw ad2 tt2 R w c k d2 wp2 wr2 ++ xw ad tt R u1 c k d n wp wr) := hD
        refine lv_aload_n hx hb dL_law_167 rfl (lv_at hl 2 rfl) ?_
        refine lv_aload_n hx hb dL_law_168 rfl (lv_at hl 0 rfl) ?_
        refine lv_iload_n hx hb dL_law_169 rfl (lv_at hl 3 rfl) ?_
        refine lv_iconst (v := 1) hx hb dL_law_170 (by decide) ?_
        refine lv_iadd hx hb dL_law_171 ?_
        refine xt_eq (z := nI (i + 1)) (nI_add i 1) ?_
        refine va_sld hx hb hX hbl hbA hS (vp_in_nI (by omega) (by omega)) dL_law_172 ?_
        refine xt_eq (z := xs (i + 1)) (congrArg xs (nI_clamp (by omega))) ?_
        refine lv_aload_n hx hb dL_law_173 rfl (lv_at hl 0 rfl) ?_
        refine lv_iload_n hx hb dL_law_174 rfl (lv_at hl 3 rfl) ?_
        refine lv_iconst (v := 2) hx hb dL_law_175 (by decide) ?_
        refine lv_iadd hx hb dL_law_176 ?_
        refine xt_eq (z := nI (i + 2)) (nI_add i 2) ?_
        refine va_sld hx hb hX hbl hbA hS (vp_in_nI (by omega) (by omega)) dL_law_177 ?_
        refine xt_eq (z := xs (i + 2)) (congrArg xs (nI_clamp (by omega))) ?_
        refine xs_Vi (wr := xw ad tt R u1 c k d n wp wr) (q0 := 0) (ci := 1) (nA := 2) (As := [.int (xs (i + 1)), .int (xs (i + 2))]) (rest := [.int r1]) S0 (k_X1_draw l D ad2 tt2 R w c k d2 wp2 wr2 (xs (i + 1)) (xs (i + 2)) hok.2.1) gL_law_X1_draw rfl ⟨rfl, rfl⟩ (by decide +kernel) rfl ⟨Nat.le_of_ble_eq_true rfl, Nat.le_of_ble_eq_true rfl⟩ ⟨Nat.le_of_ble_eq_true rfl, Nat.le_of_ble_eq_true rfl⟩ hK2 hP hD hS hA [0, 1, 2, 3, 4] [5, 6, 7, 8, 9, 10] rfl rfl (by decide) (by decide) (by decide) rfl rfl rfl hl.1 rfl (Nat.le_of_ble_eq_true rfl) dL_law_178 (fun r2 u2 H locs h2 hP hD hS => ?_)
        have hP : va_P D vwCl (xw ad tt R u1 c k d n wp wr ++ mw ad2 tt2 R u2 c k d2 wp2 wr2) H := hP
        have hD : va_D (fun q : Nat => s.heap.size ≤ q) (xw ad tt R u1 c k d n wp wr ++ mw ad2 tt2 R u2 c k d2 wp2 wr2) := hD
        obtain ⟨e1, e2⟩ := r_draw_one hok.2.1 h1 h2
        rw [← e2] at hP hD
        have hP : va_P D vwCl (xw ad tt R u1 c k d n wp wr ++ mw ad2 tt2 R u1 c k d2 wp2 wr2) H := hP
        have hD : va_D (fun q : Nat => s.heap.size ≤ q) (xw ad tt R u1 c k d n wp wr ++ mw ad2 tt2 R u1 c k d2 wp2 wr2) := hD
        refine lv_icmp_eq (tgt := 567) hx hb dL_law_181 (by decide) (fun c9 => ?_) (fun c9 => absurd e1 c9)
        refine lv_iinc (v := nI (i + 5)) (lv' := [(3, .int (nI (i + 5))), (0, .ref b), (1, .ref (ad 0)), (2, .ref (ad2 0))]) hx hb dL_law_567 hl (k := 3) rfl (nI_add i 5) (by decide) rfl (fun ls hl => ?_)
        refine lv_goto (tgt := 28) hx hb dL_law_570 (by decide) ?_
        exact ih (i + 5) u1 c k d n d2 wp wr wp2 wr2 (ok_draw hok h1) (by omega) (by omega) H locs ls hP hD hS (lv_sub hl [1, 2, 3, 0] rfl)
      by_cases h2 : sw = 2
      · subst h2
        refine lv_tableIn (off := 144) (tgt := 186) hx hb dL_law_42 (by decide) (by decide) rfl (by decide) ?_
        refine lv_aload_n hx hb dL_law_186 rfl (lv_at hl 1 rfl) ?_
        refine lv_aload_n hx hb dL_law_187 rfl (lv_at hl 0 rfl) ?_
        refine lv_iload_n hx hb dL_law_188 rfl (lv_at hl 3 rfl) ?_
        refine lv_iconst (v := 1) hx hb dL_law_189 (by decide) ?_
        refine lv_iadd hx hb dL_law_190 ?_
        refine xt_eq (z := nI (i + 1)) (nI_add i 1) ?_
        refine va_sld hx hb hX hbl hbA hS (vp_in_nI (by omega) (by omega)) dL_law_191 ?_
        refine xt_eq (z := xs (i + 1)) (congrArg xs (nI_clamp (by omega))) ?_
        refine lv_aload_n hx hb dL_law_192 rfl (lv_at hl 0 rfl) ?_
        refine lv_iload_n hx hb dL_law_193 rfl (lv_at hl 3 rfl) ?_
        refine lv_iconst (v := 2) hx hb dL_law_194 (by decide) ?_
        refine lv_iadd hx hb dL_law_195 ?_
        refine xt_eq (z := nI (i + 2)) (nI_add i 2) ?_
        refine va_sld hx hb hX hbl hbA hS (vp_in_nI (by omega) (by omega)) dL_law_196 ?_
        refine xt_eq (z := xs (i + 2)) (congrArg xs (nI_clamp (by omega))) ?_
        refine lv_aload_n hx hb dL_law_197 rfl (lv_at hl 0 rfl) ?_
        refine lv_iload_n hx hb dL_law_198 rfl (lv_at hl 3 rfl) ?_
        refine lv_iconst (v := 3) hx hb dL_law_199 (by decide) ?_
        refine lv_iadd hx hb dL_law_200 ?_
        refine xt_eq (z := nI (i + 3)) (nI_add i 3) ?_
        refine va_sld hx hb hX hbl hbA hS (vp_in_nI (by omega) (by omega)) dL_law_201 ?_
        refine xt_eq (z := xs (i + 3)) (congrArg xs (nI_clamp (by omega))) ?_
        refine xs_Vi (wr := mw ad2 tt2 R w c k d2 wp2 wr2) (q0 := 0) (ci := 0) (nA := 3) (As := [.int (xs (i + 1)), .int (xs (i + 2)), .int (xs (i + 3))]) (rest := []) S0 (k_X0_cost l D ad tt R w c k d n wp wr (xs (i + 1)) (xs (i + 2)) (xs (i + 3)) hok.2.1 hok.2.2.1) gL_law_X0_cost rfl ⟨rfl, rfl⟩ (by decide +kernel) rfl ⟨Nat.le_of_ble_eq_true rfl, Nat.le_of_ble_eq_true rfl⟩ ⟨Nat.le_of_ble_eq_true rfl, Nat.le_of_ble_eq_true rfl⟩ hK1 hP hD hS hA [0, 1, 2, 3, 4, 5] [6, 7, 8, 9, 10] rfl rfl (by decide) (by decide) (by decide) rfl rfl rfl hl.1 rfl (Nat.le_of_ble_eq_true rfl) dL_law_202 (fun r1 u1 H locs h1 hP hD hS => ?_)
        have hP : va_P D vwCl (mw ad2 tt2 R w c k d2 wp2 wr2 ++ xw ad tt R w u1 k d n wp wr) H := hP
        have hD : va_D (fun q : Nat => s.heap.size ≤ q) (mw ad2 tt2 R w c k d2 wp2 wr2 ++ xw ad tt R w u1 k d n wp wr) := hD
        refine lv_aload_n hx hb dL_law_205 rfl (lv_at hl 2 rfl) ?_
        refine lv_aload_n hx hb dL_law_206 rfl (lv_at hl 0 rfl) ?_
        refine lv_iload_n hx hb dL_law_207 rfl (lv_at hl 3 rfl) ?_
        refine lv_iconst (v := 1) hx hb dL_law_208 (by decide) ?_
        refine lv_iadd hx hb dL_law_209 ?_
        refine xt_eq (z := nI (i + 1)) (nI_add i 1) ?_
        refine va_sld hx hb hX hbl hbA hS (vp_in_nI (by omega) (by omega)) dL_law_210 ?_
        refine xt_eq (z := xs (i + 1)) (congrArg xs (nI_clamp (by omega))) ?_
        refine lv_aload_n hx hb dL_law_211 rfl (lv_at hl 0 rfl) ?_
        refine lv_iload_n hx hb dL_law_212 rfl (lv_at hl 3 rfl) ?_
        refine lv_iconst (v := 2) hx hb dL_law_213 (by decide) ?_
        refine lv_iadd hx hb dL_law_214 ?_
        refine xt_eq (z := nI (i + 2)) (nI_add i 2) ?_
        refine va_sld hx hb hX hbl hbA hS (vp_in_nI (by omega) (by omega)) dL_law_215 ?_
        refine xt_eq (z := xs (i + 2)) (congrArg xs (nI_clamp (by omega))) ?_
        refine lv_aload_n hx hb dL_law_216 rfl (lv_at hl 0 rfl) ?_
        refine lv_iload_n hx hb dL_law_217 rfl (lv_at hl 3 rfl) ?_
        refine lv_iconst (v := 3) hx hb dL_law_218 (by decide) ?_
        refine lv_iadd hx hb dL_law_219 ?_
        refine xt_eq (z := nI (i + 3)) (nI_add i 3) ?_
        refine va_sld hx hb hX hbl hbA hS (vp_in_nI (by omega) (by omega)) dL_law_220 ?_
        refine xt_eq (z := xs (i + 3)) (congrArg xs (nI_clamp (by omega))) ?_
        refine xs_Vi (wr := xw ad tt R w u1 k d n wp wr) (q0 := 0) (ci := 1) (nA := 3) (As := [.int (xs (i + 1)), .int (xs (i + 2)), .int (xs (i + 3))]) (rest := [.int r1]) S0 (k_X1_cost l D ad2 tt2 R w c k d2 wp2 wr2 (xs (i + 1)) (xs (i + 2)) (xs (i + 3)) hok.2.1) gL_law_X1_cost rfl ⟨rfl, rfl⟩ (by decide +kernel) rfl ⟨Nat.le_of_ble_eq_true rfl, Nat.le_of_ble_eq_true rfl⟩ ⟨Nat.le_of_ble_eq_true rfl, Nat.le_of_ble_eq_true rfl⟩ hK2 hP hD hS hA [0, 1, 2, 3, 4] [5, 6, 7, 8, 9, 10] rfl rfl (by decide) (by decide) (by decide) rfl rfl rfl hl.1 rfl (Nat.le_of_ble_eq_true rfl) dL_law_221 (fun r2 u2 H locs h2 hP hD hS => ?_)
        have hP : va_P D vwCl (xw ad tt R w u1 k d n wp wr ++ mw ad2 tt2 R w u2 k d2 wp2 wr2) H := hP
        have hD : va_D (fun q : Nat => s.heap.size ≤ q) (xw ad tt R w u1 k d n wp wr ++ mw ad2 tt2 R w u2 k d2 wp2 wr2) := hD
        obtain ⟨e1, e2⟩ := r_cost_one hok.2.1 h1 h2
        rw [← e2] at hP hD
        have hP : va_P D vwCl (xw ad tt R w u1 k d n wp wr ++ mw ad2 tt2 R w u1 k d2 wp2 wr2) H := hP
        have hD : va_D (fun q : Nat => s.heap.size ≤ q) (xw ad tt R w u1 k d n wp wr ++ mw ad2 tt2 R w u1 k d2 wp2 wr2) := hD
        refine lv_icmp_eq (tgt := 567) hx hb dL_law_224 (by decide) (fun c9 => ?_) (fun c9 => absurd e1 c9)
        refine lv_iinc (v := nI (i + 5)) (lv' := [(3, .int (nI (i + 5))), (0, .ref b), (1, .ref (ad 0)), (2, .ref (ad2 0))]) hx hb dL_law_567 hl (k := 3) rfl (nI_add i 5) (by decide) rfl (fun ls hl => ?_)
        refine lv_goto (tgt := 28) hx hb dL_law_570 (by decide) ?_
        exact ih (i + 5) w u1 k d n d2 wp wr wp2 wr2 (ok_cost hok h1) (by omega) (by omega) H locs ls hP hD hS (lv_sub hl [1, 2, 3, 0] rfl)
      by_cases h3 : sw = 3
      · subst h3
        refine lv_tableIn (off := 187) (tgt := 229) hx hb dL_law_42 (by decide) (by decide) rfl (by decide) ?_
        refine lv_aload_n hx hb dL_law_229 rfl (lv_at hl 1 rfl) ?_
        refine lv_aload_n hx hb dL_law_230 rfl (lv_at hl 0 rfl) ?_
        refine lv_iload_n hx hb dL_law_231 rfl (lv_at hl 3 rfl) ?_
        refine lv_iconst (v := 1) hx hb dL_law_232 (by decide) ?_
        refine lv_iadd hx hb dL_law_233 ?_
        refine xt_eq (z := nI (i + 1)) (nI_add i 1) ?_
        refine va_sld hx hb hX hbl hbA hS (vp_in_nI (by omega) (by omega)) dL_law_234 ?_
        refine xt_eq (z := xs (i + 1)) (congrArg xs (nI_clamp (by omega))) ?_
        refine xs_Vi (wr := mw ad2 tt2 R w c k d2 wp2 wr2) (q0 := 0) (ci := 0) (nA := 1) (As := [.int (xs (i + 1))]) (rest := []) S0 (k_X0_cut l D ad tt R w c k d n wp wr (xs (i + 1))) gL_law_X0_cut rfl ⟨rfl, rfl⟩ (by decide +kernel) rfl ⟨Nat.le_of_ble_eq_true rfl, Nat.le_of_ble_eq_true rfl⟩ ⟨Nat.le_of_ble_eq_true rfl, Nat.le_of_ble_eq_true rfl⟩ hK1 hP hD hS hA [0, 1, 2, 3, 4, 5] [6, 7, 8, 9, 10] rfl rfl (by decide) (by decide) (by decide) rfl rfl rfl hl.1 rfl (Nat.le_of_ble_eq_true rfl) dL_law_235 (fun r1 u1 H locs h1 hP hD hS => ?_)
        have hP : va_P D vwCl (mw ad2 tt2 R w c k d2 wp2 wr2 ++ xw ad tt R w c u1 d n wp wr) H := hP
        have hD : va_D (fun q : Nat => s.heap.size ≤ q) (mw ad2 tt2 R w c k d2 wp2 wr2 ++ xw ad tt R w c u1 d n wp wr) := hD
        refine lv_aload_n hx hb dL_law_238 rfl (lv_at hl 2 rfl) ?_
        refine lv_aload_n hx hb dL_law_239 rfl (lv_at hl 0 rfl) ?_
        refine lv_iload_n hx hb dL_law_240 rfl (lv_at hl 3 rfl) ?_
        refine lv_iconst (v := 1) hx hb dL_law_241 (by decide) ?_
        refine lv_iadd hx hb dL_law_242 ?_
        refine xt_eq (z := nI (i + 1)) (nI_add i 1) ?_
        refine va_sld hx hb hX hbl hbA hS (vp_in_nI (by omega) (by omega)) dL_law_243 ?_
        refine xt_eq (z := xs (i + 1)) (congrArg xs (nI_clamp (by omega))) ?_
        refine xs_Vi (wr := xw ad tt R w c u1 d n wp wr) (q0 := 0) (ci := 1) (nA := 1) (As := [.int (xs (i + 1))]) (rest := [.int r1]) S0 (k_X1_cut l D ad2 tt2 R w c k d2 wp2 wr2 (xs (i + 1))) gL_law_X1_cut rfl ⟨rfl, rfl⟩ (by decide +kernel) rfl ⟨Nat.le_of_ble_eq_true rfl, Nat.le_of_ble_eq_true rfl⟩ ⟨Nat.le_of_ble_eq_true rfl, Nat.le_of_ble_eq_true rfl⟩ hK2 hP hD hS hA [0, 1, 2, 3, 4] [5, 6, 7, 8, 9, 10] rfl rfl (by decide) (by decide) (by decide) rfl rfl rfl hl.1 rfl (Nat.le_of_ble_eq_true rfl) dL_law_244 (fun r2 u2 H locs h2 hP hD hS => ?_)
        have hP : va_P D vwCl (xw ad tt R w c u1 d n wp wr ++ mw ad2 tt2 R w c u2 d2 wp2 wr2) H := hP
        have hD : va_D (fun q : Nat => s.heap.size ≤ q) (xw ad tt R w c u1 d n wp wr ++ mw ad2 tt2 R w c u2 d2 wp2 wr2) := hD
        obtain ⟨e1, e2⟩ := r_cut_one h1 h2
        rw [← e2] at hP hD
        have hP : va_P D vwCl (xw ad tt R w c u1 d n wp wr ++ mw ad2 tt2 R w c u1 d2 wp2 wr2) H := hP
        have hD : va_D (fun q : Nat => s.heap.size ≤ q) (xw ad tt R w c u1 d n wp wr ++ mw ad2 tt2 R w c u1 d2 wp2 wr2) := hD
        refine lv_icmp_eq (tgt := 567) hx hb dL_law_247 (by decide) (fun c9 => ?_) (fun c9 => absurd e1 c9)
        refine lv_iinc (v := nI (i + 5)) (lv' := [(3, .int (nI (i + 5))), (0, .ref b), (1, .ref (ad 0)), (2, .ref (ad2 0))]) hx hb dL_law_567 hl (k := 3) rfl (nI_add i 5) (by decide) rfl (fun ls hl => ?_)
        refine lv_goto (tgt := 28) hx hb dL_law_570 (by decide) ?_
        exact ih (i + 5) w c u1 d n d2 wp wr wp2 wr2 hok (by omega) (by omega) H locs ls hP hD hS (lv_sub hl [1, 2, 3, 0] rfl)
      by_cases h4 : sw = 4
      · subst h4
        refine lv_tableIn (off := 210) (tgt := 252) hx hb dL_law_42 (by decide) (by decide) rfl (by decide) ?_
        refine lv_aload_n hx hb dL_law_252 rfl (lv_at hl 1 rfl) ?_
        refine lv_aload_n hx hb dL_law_253 rfl (lv_at hl 0 rfl) ?_
        refine lv_iload_n hx hb dL_law_254 rfl (lv_at hl 3 rfl) ?_
        refine lv_iconst (v := 1) hx hb dL_law_255 (by decide) ?_
        refine lv_iadd hx hb dL_law_256 ?_
        refine xt_eq (z := nI (i + 1)) (nI_add i 1) ?_
        refine va_sld hx hb hX hbl hbA hS (vp_in_nI (by omega) (by omega)) dL_law_257 ?_
        refine xt_eq (z := xs (i + 1)) (congrArg xs (nI_clamp (by omega))) ?_
        refine xs_Vi (wr := mw ad2 tt2 R w c k d2 wp2 wr2) (q0 := 0) (ci := 0) (nA := 1) (As := [.int (xs (i + 1))]) (rest := []) S0 (k_X0_mend l D ad tt R w c k d n wp wr (xs (i + 1))) gL_law_X0_mend rfl ⟨rfl, rfl⟩ (by decide +kernel) rfl ⟨Nat.le_of_ble_eq_true rfl, Nat.le_of_ble_eq_true rfl⟩ ⟨Nat.le_of_ble_eq_true rfl, Nat.le_of_ble_eq_true rfl⟩ hK1 hP hD hS hA [0, 1, 2, 3, 4, 5] [6, 7, 8, 9, 10] rfl rfl (by decide) (by decide) (by decide) rfl rfl rfl hl.1 rfl (Nat.le_of_ble_eq_true rfl) dL_law_258 (fun r1 u1 H locs h1 hP hD hS => ?_)
        have hP : va_P D vwCl (mw ad2 tt2 R w c k d2 wp2 wr2 ++ xw ad tt R w c u1 d n wp wr) H := hP
        have hD : va_D (fun q : Nat => s.heap.size ≤ q) (mw ad2 tt2 R w c k d2 wp2 wr2 ++ xw ad tt R w c u1 d n wp wr) := hD
        refine lv_aload_n hx hb dL_law_261 rfl (lv_at hl 2 rfl) ?_
        refine lv_aload_n hx hb dL_law_262 rfl (lv_at hl 0 rfl) ?_
        refine lv_iload_n hx hb dL_law_263 rfl (lv_at hl 3 rfl) ?_
        refine lv_iconst (v := 1) hx hb dL_law_264 (by decide) ?_
        refine lv_iadd hx hb dL_law_265 ?_
        refine xt_eq (z := nI (i + 1)) (nI_add i 1) ?_
        refine va_sld hx hb hX hbl hbA hS (vp_in_nI (by omega) (by omega)) dL_law_266 ?_
        refine xt_eq (z := xs (i + 1)) (congrArg xs (nI_clamp (by omega))) ?_
        refine xs_Vi (wr := xw ad tt R w c u1 d n wp wr) (q0 := 0) (ci := 1) (nA := 1) (As := [.int (xs (i + 1))]) (rest := [.int r1]) S0 (k_X1_mend l D ad2 tt2 R w c k d2 wp2 wr2 (xs (i + 1))) gL_law_X1_mend rfl ⟨rfl, rfl⟩ (by decide +kernel) rfl ⟨Nat.le_of_ble_eq_true rfl, Nat.le_of_ble_eq_true rfl⟩ ⟨Nat.le_of_ble_eq_true rfl, Nat.le_of_ble_eq_true rfl⟩ hK2 hP hD hS hA [0, 1, 2, 3, 4] [5, 6, 7, 8, 9, 10] rfl rfl (by decide) (by decide) (by decide) rfl rfl rfl hl.1 rfl (Nat.le_of_ble_eq_true rfl) dL_law_267 (fun r2 u2 H locs h2 hP hD hS => ?_)
        have hP : va_P D vwCl (xw ad tt R w c u1 d n wp wr ++ mw ad2 tt2 R w c u2 d2 wp2 wr2) H := hP
        have hD : va_D (fun q : Nat => s.heap.size ≤ q) (xw ad tt R w c u1 d n wp wr ++ mw ad2 tt2 R w c u2 d2 wp2 wr2) := hD
        obtain ⟨e1, e2⟩ := r_mend_one h1 h2
        rw [← e2] at hP hD
        have hP : va_P D vwCl (xw ad tt R w c u1 d n wp wr ++ mw ad2 tt2 R w c u1 d2 wp2 wr2) H := hP
        have hD : va_D (fun q : Nat => s.heap.size ≤ q) (xw ad tt R w c u1 d n wp wr ++ mw ad2 tt2 R w c u1 d2 wp2 wr2) := hD
        refine lv_icmp_eq (tgt := 567) hx hb dL_law_270 (by decide) (fun c9 => ?_) (fun c9 => absurd e1 c9)
        refine lv_iinc (v := nI (i + 5)) (lv' := [(3, .int (nI (i + 5))), (0, .ref b), (1, .ref (ad 0)), (2, .ref (ad2 0))]) hx hb dL_law_567 hl (k := 3) rfl (nI_add i 5) (by decide) rfl (fun ls hl => ?_)
        refine lv_goto (tgt := 28) hx hb dL_law_570 (by decide) ?_
        exact ih (i + 5) w c u1 d n d2 wp wr wp2 wr2 hok (by omega) (by omega) H locs ls hP hD hS (lv_sub hl [1, 2, 3, 0] rfl)
      by_cases h5 : sw = 5
      · subst h5
        refine lv_tableIn (off := 233) (tgt := 275) hx hb dL_law_42 (by decide) (by decide) rfl (by decide) ?_
        refine lv_aload_n hx hb dL_law_275 rfl (lv_at hl 1 rfl) ?_
        refine lv_aload_n hx hb dL_law_276 rfl (lv_at hl 0 rfl) ?_
        refine lv_iload_n hx hb dL_law_277 rfl (lv_at hl 3 rfl) ?_
        refine lv_iconst (v := 1) hx hb dL_law_278 (by decide) ?_
        refine lv_iadd hx hb dL_law_279 ?_
        refine xt_eq (z := nI (i + 1)) (nI_add i 1) ?_
        refine va_sld hx hb hX hbl hbA hS (vp_in_nI (by omega) (by omega)) dL_law_280 ?_
        refine xt_eq (z := xs (i + 1)) (congrArg xs (nI_clamp (by omega))) ?_
        refine lv_aload_n hx hb dL_law_281 rfl (lv_at hl 0 rfl) ?_
        refine lv_iload_n hx hb dL_law_282 rfl (lv_at hl 3 rfl) ?_
        refine lv_iconst (v := 2) hx hb dL_law_283 (by decide) ?_
        refine lv_iadd hx hb dL_law_284 ?_
        refine xt_eq (z := nI (i + 2)) (nI_add i 2) ?_
        refine va_sld hx hb hX hbl hbA hS (vp_in_nI (by omega) (by omega)) dL_law_285 ?_
        refine xt_eq (z := xs (i + 2)) (congrArg xs (nI_clamp (by omega))) ?_
        refine lv_if_eq (tgt := 293) hx hb dL_law_286 (by decide) (fun hz => ?_) (fun hz => ?_)
        · refine lv_iconst (v := 0) hx hb dL_law_293 (by decide) ?_
          refine lv_aload_n hx hb dL_law_294 rfl (lv_at hl 0 rfl) ?_
          refine lv_iload_n hx hb dL_law_295 rfl (lv_at hl 3 rfl) ?_
          refine lv_iconst (v := 3) hx hb dL_law_296 (by decide) ?_
          refine lv_iadd hx hb dL_law_297 ?_
          refine xt_eq (z := nI (i + 3)) (nI_add i 3) ?_
          refine va_sld hx hb hX hbl hbA hS (vp_in_nI (by omega) (by omega)) dL_law_298 ?_
          refine xt_eq (z := xs (i + 3)) (congrArg xs (nI_clamp (by omega))) ?_
          refine xs_Vi (wr := mw ad2 tt2 R w c k d2 wp2 wr2) (q0 := 0) (ci := 0) (nA := 3) (As := [.int (xs (i + 1)), .int 0, .int (xs (i + 3))]) (rest := []) S0 (k_X0_far l D ad tt R w c k d n wp wr hok (xs (i + 1)) 0 (xs (i + 3))) gL_law_X0_far rfl ⟨rfl, rfl⟩ (by decide +kernel) rfl ⟨Nat.le_of_ble_eq_true rfl, Nat.le_of_ble_eq_true rfl⟩ ⟨Nat.le_of_ble_eq_true rfl, Nat.le_of_ble_eq_true rfl⟩ hK1 hP hD hS hA [0, 1, 2, 3, 4, 5] [6, 7, 8, 9, 10] rfl rfl (by decide) (by decide) (by decide) rfl rfl rfl hl.1 rfl (Nat.le_of_ble_eq_true rfl) dL_law_299 (fun r1 u1 H locs h1 hP hD hS => ?_)
          have hP : va_P D vwCl (mw ad2 tt2 R w c k d2 wp2 wr2 ++ xw ad tt R w c k u1.1 u1.2 wp wr) H := hP
          have hD : va_D (fun q : Nat => s.heap.size ≤ q) (mw ad2 tt2 R w c k d2 wp2 wr2 ++ xw ad tt R w c k u1.1 u1.2 wp wr) := hD
          refine lv_aload_n hx hb dL_law_302 rfl (lv_at hl 2 rfl) ?_
          refine lv_aload_n hx hb dL_law_303 rfl (lv_at hl 0 rfl) ?_
          refine lv_iload_n hx hb dL_law_304 rfl (lv_at hl 3 rfl) ?_
          refine lv_iconst (v := 1) hx hb dL_law_305 (by decide) ?_
          refine lv_iadd hx hb dL_law_306 ?_
          refine xt_eq (z := nI (i + 1)) (nI_add i 1) ?_
          refine va_sld hx hb hX hbl hbA hS (vp_in_nI (by omega) (by omega)) dL_law_307 ?_
          refine xt_eq (z := xs (i + 1)) (congrArg xs (nI_clamp (by omega))) ?_
          refine lv_aload_n hx hb dL_law_308 rfl (lv_at hl 0 rfl) ?_
          refine lv_iload_n hx hb dL_law_309 rfl (lv_at hl 3 rfl) ?_
          refine lv_iconst (v := 2) hx hb dL_law_310 (by decide) ?_
          refine lv_iadd hx hb dL_law_311 ?_
          refine xt_eq (z := nI (i + 2)) (nI_add i 2) ?_
          refine va_sld hx hb hX hbl hbA hS (vp_in_nI (by omega) (by omega)) dL_law_312 ?_
          refine xt_eq (z := xs (i + 2)) (congrArg xs (nI_clamp (by omega))) ?_
          refine lv_if_eq (tgt := 320) hx hb dL_law_313 (by decide) (fun _ => ?_) (fun h => absurd hz h)
          refine lv_iconst (v := 0) hx hb dL_law_320 (by decide) ?_
          refine lv_aload_n hx hb dL_law_321 rfl (lv_at hl 0 rfl) ?_
          refine lv_iload_n hx hb dL_law_322 rfl (lv_at hl 3 rfl) ?_
          refine lv_iconst (v := 3) hx hb dL_law_323 (by decide) ?_
          refine lv_iadd hx hb dL_law_324 ?_
          refine xt_eq (z := nI (i + 3)) (nI_add i 3) ?_
          refine va_sld hx hb hX hbl hbA hS (vp_in_nI (by omega) (by omega)) dL_law_325 ?_
          refine xt_eq (z := xs (i + 3)) (congrArg xs (nI_clamp (by omega))) ?_
          refine xs_Vi (wr := xw ad tt R w c k u1.1 u1.2 wp wr) (q0 := 0) (ci := 1) (nA := 3) (As := [.int (xs (i + 1)), .int 0, .int (xs (i + 3))]) (rest := [.int r1]) S0 (k_X1_far l D ad2 tt2 R w c k d2 wp2 wr2 hok (xs (i + 1)) 0 (xs (i + 3))) gL_law_X1_far rfl ⟨rfl, rfl⟩ (by decide +kernel) rfl ⟨Nat.le_of_ble_eq_true rfl, Nat.le_of_ble_eq_true rfl⟩ ⟨Nat.le_of_ble_eq_true rfl, Nat.le_of_ble_eq_true rfl⟩ hK2 hP hD hS hA [0, 1, 2, 3, 4] [5, 6, 7, 8, 9, 10] rfl rfl (by decide) (by decide) (by decide) rfl rfl rfl hl.1 rfl (Nat.le_of_ble_eq_true rfl) dL_law_326 (fun r2 u2 H locs h2 hP hD hS => ?_)
          have hP : va_P D vwCl (xw ad tt R w c k u1.1 u1.2 wp wr ++ mw ad2 tt2 R w c k u2.1 u2.2.1 u2.2.2) H := hP
          have hD : va_D (fun q : Nat => s.heap.size ≤ q) (xw ad tt R w c k u1.1 u1.2 wp wr ++ mw ad2 tt2 R w c k u2.1 u2.2.1 u2.2.2) := hD
          have e1 := fa_one hok.2.1 h1 h2.1
          refine lv_icmp_eq (tgt := 567) hx hb dL_law_329 (by decide) (fun c9 => ?_) (fun c9 => absurd e1 c9)
          refine lv_iinc (v := nI (i + 5)) (lv' := [(3, .int (nI (i + 5))), (0, .ref b), (1, .ref (ad 0)), (2, .ref (ad2 0))]) hx hb dL_law_567 hl (k := 3) rfl (nI_add i 5) (by decide) rfl (fun ls hl => ?_)
          refine lv_goto (tgt := 28) hx hb dL_law_570 (by decide) ?_
          exact ih (i + 5) w c k u1.1 u1.2 u2.1 wp wr u2.2.1 u2.2.2 hok (by omega) (by omega) H locs ls hP hD hS (lv_sub hl [1, 2, 3, 0] rfl)
        · refine lv_iconst (v := 1) hx hb dL_law_289 (by decide) ?_
          refine lv_goto (tgt := 294) hx hb dL_law_290 (by decide) ?_
          refine lv_aload_n hx hb dL_law_294 rfl (lv_at hl 0 rfl) ?_
          refine lv_iload_n hx hb dL_law_295 rfl (lv_at hl 3 rfl) ?_
          refine lv_iconst (v := 3) hx hb dL_law_296 (by decide) ?_
          refine lv_iadd hx hb dL_law_297 ?_
          refine xt_eq (z := nI (i + 3)) (nI_add i 3) ?_
          refine va_sld hx hb hX hbl hbA hS (vp_in_nI (by omega) (by omega)) dL_law_298 ?_
          refine xt_eq (z := xs (i + 3)) (congrArg xs (nI_clamp (by omega))) ?_
          refine xs_Vi (wr := mw ad2 tt2 R w c k d2 wp2 wr2) (q0 := 0) (ci := 0) (nA := 3) (As := [.int (xs (i + 1)), .int 1, .int (xs (i + 3))]) (rest := []) S0 (k_X0_far l D ad tt R w c k d n wp wr hok (xs (i + 1)) 1 (xs (i + 3))) gL_law_X0_far rfl ⟨rfl, rfl⟩ (by decide +kernel) rfl ⟨Nat.le_of_ble_eq_true rfl, Nat.le_of_ble_eq_true rfl⟩ ⟨Nat.le_of_ble_eq_true rfl, Nat.le_of_ble_eq_true rfl⟩ hK1 hP hD hS hA [0, 1, 2, 3, 4, 5] [6, 7, 8, 9, 10] rfl rfl (by decide) (by decide) (by decide) rfl rfl rfl hl.1 rfl (Nat.le_of_ble_eq_true rfl) dL_law_299 (fun r1 u1 H locs h1 hP hD hS => ?_)
          have hP : va_P D vwCl (mw ad2 tt2 R w c k d2 wp2 wr2 ++ xw ad tt R w c k u1.1 u1.2 wp wr) H := hP
          have hD : va_D (fun q : Nat => s.heap.size ≤ q) (mw ad2 tt2 R w c k d2 wp2 wr2 ++ xw ad tt R w c k u1.1 u1.2 wp wr) := hD
          refine lv_aload_n hx hb dL_law_302 rfl (lv_at hl 2 rfl) ?_
          refine lv_aload_n hx hb dL_law_303 rfl (lv_at hl 0 rfl) ?_
          refine lv_iload_n hx hb dL_law_304 rfl (lv_at hl 3 rfl) ?_
          refine lv_iconst (v := 1) hx hb dL_law_305 (by decide) ?_
          refine lv_iadd hx hb dL_law_306 ?_
          refine xt_eq (z := nI (i + 1)) (nI_add i 1) ?_
          refine va_sld hx hb hX hbl hbA hS (vp_in_nI (by omega) (by omega)) dL_law_307 ?_
          refine xt_eq (z := xs (i + 1)) (congrArg xs (nI_clamp (by omega))) ?_
          refine lv_aload_n hx hb dL_law_308 rfl (lv_at hl 0 rfl) ?_
          refine lv_iload_n hx hb dL_law_309 rfl (lv_at hl 3 rfl) ?_
          refine lv_iconst (v := 2) hx hb dL_law_310 (by decide) ?_
          refine lv_iadd hx hb dL_law_311 ?_
          refine xt_eq (z := nI (i + 2)) (nI_add i 2) ?_
          refine va_sld hx hb hX hbl hbA hS (vp_in_nI (by omega) (by omega)) dL_law_312 ?_
          refine xt_eq (z := xs (i + 2)) (congrArg xs (nI_clamp (by omega))) ?_
          refine lv_if_eq (tgt := 320) hx hb dL_law_313 (by decide) (fun h => absurd h hz) (fun _ => ?_)
          refine lv_iconst (v := 1) hx hb dL_law_316 (by decide) ?_
          refine lv_goto (tgt := 321) hx hb dL_law_317 (by decide) ?_
          refine lv_aload_n hx hb dL_law_321 rfl (lv_at hl 0 rfl) ?_
          refine lv_iload_n hx hb dL_law_322 rfl (lv_at hl 3 rfl) ?_
          refine lv_iconst (v := 3) hx hb dL_law_323 (by decide) ?_
          refine lv_iadd hx hb dL_law_324 ?_
          refine xt_eq (z := nI (i + 3)) (nI_add i 3) ?_
          refine va_sld hx hb hX hbl hbA hS (vp_in_nI (by omega) (by omega)) dL_law_325 ?_
          refine xt_eq (z := xs (i + 3)) (congrArg xs (nI_clamp (by omega))) ?_
          refine xs_Vi (wr := xw ad tt R w c k u1.1 u1.2 wp wr) (q0 := 0) (ci := 1) (nA := 3) (As := [.int (xs (i + 1)), .int 1, .int (xs (i + 3))]) (rest := [.int r1]) S0 (k_X1_far l D ad2 tt2 R w c k d2 wp2 wr2 hok (xs (i + 1)) 1 (xs (i + 3))) gL_law_X1_far rfl ⟨rfl, rfl⟩ (by decide +kernel) rfl ⟨Nat.le_of_ble_eq_true rfl, Nat.le_of_ble_eq_true rfl⟩ ⟨Nat.le_of_ble_eq_true rfl, Nat.le_of_ble_eq_true rfl⟩ hK2 hP hD hS hA [0, 1, 2, 3, 4] [5, 6, 7, 8, 9, 10] rfl rfl (by decide) (by decide) (by decide) rfl rfl rfl hl.1 rfl (Nat.le_of_ble_eq_true rfl) dL_law_326 (fun r2 u2 H locs h2 hP hD hS => ?_)
          have hP : va_P D vwCl (xw ad tt R w c k u1.1 u1.2 wp wr ++ mw ad2 tt2 R w c k u2.1 u2.2.1 u2.2.2) H := hP
          have hD : va_D (fun q : Nat => s.heap.size ≤ q) (xw ad tt R w c k u1.1 u1.2 wp wr ++ mw ad2 tt2 R w c k u2.1 u2.2.1 u2.2.2) := hD
          have e1 := fa_one hok.2.1 h1 h2.1
          refine lv_icmp_eq (tgt := 567) hx hb dL_law_329 (by decide) (fun c9 => ?_) (fun c9 => absurd e1 c9)
          refine lv_iinc (v := nI (i + 5)) (lv' := [(3, .int (nI (i + 5))), (0, .ref b), (1, .ref (ad 0)), (2, .ref (ad2 0))]) hx hb dL_law_567 hl (k := 3) rfl (nI_add i 5) (by decide) rfl (fun ls hl => ?_)
          refine lv_goto (tgt := 28) hx hb dL_law_570 (by decide) ?_
          exact ih (i + 5) w c k u1.1 u1.2 u2.1 wp wr u2.2.1 u2.2.2 hok (by omega) (by omega) H locs ls hP hD hS (lv_sub hl [1, 2, 3, 0] rfl)
      by_cases h6 : sw = 6
      · subst h6
        refine lv_tableIn (off := 292) (tgt := 334) hx hb dL_law_42 (by decide) (by decide) rfl (by decide) ?_
        refine lv_aload_n hx hb dL_law_334 rfl (lv_at hl 1 rfl) ?_
        refine lv_aload_n hx hb dL_law_335 rfl (lv_at hl 0 rfl) ?_
        refine lv_iload_n hx hb dL_law_336 rfl (lv_at hl 3 rfl) ?_
        refine lv_iconst (v := 1) hx hb dL_law_337 (by decide) ?_
        refine lv_iadd hx hb dL_law_338 ?_
        refine xt_eq (z := nI (i + 1)) (nI_add i 1) ?_
        refine va_sld hx hb hX hbl hbA hS (vp_in_nI (by omega) (by omega)) dL_law_339 ?_
        refine xt_eq (z := xs (i + 1)) (congrArg xs (nI_clamp (by omega))) ?_
        refine lv_aload_n hx hb dL_law_340 rfl (lv_at hl 0 rfl) ?_
        refine lv_iload_n hx hb dL_law_341 rfl (lv_at hl 3 rfl) ?_
        refine lv_iconst (v := 2) hx hb dL_law_342 (by decide) ?_
        refine lv_iadd hx hb dL_law_343 ?_
        refine xt_eq (z := nI (i + 2)) (nI_add i 2) ?_
        refine va_sld hx hb hX hbl hbA hS (vp_in_nI (by omega) (by omega)) dL_law_344 ?_
        refine xt_eq (z := xs (i + 2)) (congrArg xs (nI_clamp (by omega))) ?_
        refine lv_if_eq (tgt := 352) hx hb dL_law_345 (by decide) (fun hz => ?_) (fun hz => ?_)
        · refine lv_iconst (v := 0) hx hb dL_law_352 (by decide) ?_
          refine lv_aload_n hx hb dL_law_353 rfl (lv_at hl 0 rfl) ?_
          refine lv_iload_n hx hb dL_law_354 rfl (lv_at hl 3 rfl) ?_
          refine lv_iconst (v := 3) hx hb dL_law_355 (by decide) ?_
          refine lv_iadd hx hb dL_law_356 ?_
          refine xt_eq (z := nI (i + 3)) (nI_add i 3) ?_
          refine va_sld hx hb hX hbl hbA hS (vp_in_nI (by omega) (by omega)) dL_law_357 ?_
          refine xt_eq (z := xs (i + 3)) (congrArg xs (nI_clamp (by omega))) ?_
          refine xs_Vi (wr := mw ad2 tt2 R w c k d2 wp2 wr2) (q0 := 0) (ci := 0) (nA := 3) (As := [.int (xs (i + 1)), .int 0, .int (xs (i + 3))]) (rest := []) S0 (k_X0_port l D ad tt R w c k d n wp wr hok (xs (i + 1)) 0 (xs (i + 3))) gL_law_X0_port rfl ⟨rfl, rfl⟩ (by decide +kernel) rfl ⟨Nat.le_of_ble_eq_true rfl, Nat.le_of_ble_eq_true rfl⟩ ⟨Nat.le_of_ble_eq_true rfl, Nat.le_of_ble_eq_true rfl⟩ hK1 hP hD hS hA [0, 1, 2, 3, 4, 5] [6, 7, 8, 9, 10] rfl rfl (by decide) (by decide) (by decide) rfl rfl rfl hl.1 rfl (Nat.le_of_ble_eq_true rfl) dL_law_358 (fun r1 u1 H locs h1 hP hD hS => ?_)
          have hP : va_P D vwCl (mw ad2 tt2 R w c k d2 wp2 wr2 ++ xw ad tt R w c k u1.1.1 u1.1.2 u1.2.1 u1.2.2) H := hP
          have hD : va_D (fun q : Nat => s.heap.size ≤ q) (mw ad2 tt2 R w c k d2 wp2 wr2 ++ xw ad tt R w c k u1.1.1 u1.1.2 u1.2.1 u1.2.2) := hD
          refine lv_aload_n hx hb dL_law_361 rfl (lv_at hl 2 rfl) ?_
          refine lv_aload_n hx hb dL_law_362 rfl (lv_at hl 0 rfl) ?_
          refine lv_iload_n hx hb dL_law_363 rfl (lv_at hl 3 rfl) ?_
          refine lv_iconst (v := 1) hx hb dL_law_364 (by decide) ?_
          refine lv_iadd hx hb dL_law_365 ?_
          refine xt_eq (z := nI (i + 1)) (nI_add i 1) ?_
          refine va_sld hx hb hX hbl hbA hS (vp_in_nI (by omega) (by omega)) dL_law_366 ?_
          refine xt_eq (z := xs (i + 1)) (congrArg xs (nI_clamp (by omega))) ?_
          refine lv_aload_n hx hb dL_law_367 rfl (lv_at hl 0 rfl) ?_
          refine lv_iload_n hx hb dL_law_368 rfl (lv_at hl 3 rfl) ?_
          refine lv_iconst (v := 2) hx hb dL_law_369 (by decide) ?_
          refine lv_iadd hx hb dL_law_370 ?_
          refine xt_eq (z := nI (i + 2)) (nI_add i 2) ?_
          refine va_sld hx hb hX hbl hbA hS (vp_in_nI (by omega) (by omega)) dL_law_371 ?_
          refine xt_eq (z := xs (i + 2)) (congrArg xs (nI_clamp (by omega))) ?_
          refine lv_if_eq (tgt := 379) hx hb dL_law_372 (by decide) (fun _ => ?_) (fun h => absurd hz h)
          refine lv_iconst (v := 0) hx hb dL_law_379 (by decide) ?_
          refine lv_aload_n hx hb dL_law_380 rfl (lv_at hl 0 rfl) ?_
          refine lv_iload_n hx hb dL_law_381 rfl (lv_at hl 3 rfl) ?_
          refine lv_iconst (v := 3) hx hb dL_law_382 (by decide) ?_
          refine lv_iadd hx hb dL_law_383 ?_
          refine xt_eq (z := nI (i + 3)) (nI_add i 3) ?_
          refine va_sld hx hb hX hbl hbA hS (vp_in_nI (by omega) (by omega)) dL_law_384 ?_
          refine xt_eq (z := xs (i + 3)) (congrArg xs (nI_clamp (by omega))) ?_
          refine xs_Vi (wr := xw ad tt R w c k u1.1.1 u1.1.2 u1.2.1 u1.2.2) (q0 := 0) (ci := 1) (nA := 3) (As := [.int (xs (i + 1)), .int 0, .int (xs (i + 3))]) (rest := [.int r1]) S0 (k_X1_port l D ad2 tt2 R w c k d2 wp2 wr2 hok (xs (i + 1)) 0 (xs (i + 3))) gL_law_X1_port rfl ⟨rfl, rfl⟩ (by decide +kernel) rfl ⟨Nat.le_of_ble_eq_true rfl, Nat.le_of_ble_eq_true rfl⟩ ⟨Nat.le_of_ble_eq_true rfl, Nat.le_of_ble_eq_true rfl⟩ hK2 hP hD hS hA [0, 1, 2, 3, 4] [5, 6, 7, 8, 9, 10] rfl rfl (by decide) (by decide) (by decide) rfl rfl rfl hl.1 rfl (Nat.le_of_ble_eq_true rfl) dL_law_385 (fun r2 u2 H locs h2 hP hD hS => ?_)
          have hP : va_P D vwCl (xw ad tt R w c k u1.1.1 u1.1.2 u1.2.1 u1.2.2 ++ mw ad2 tt2 R w c k u2.1 u2.2.1 u2.2.2) H := hP
          have hD : va_D (fun q : Nat => s.heap.size ≤ q) (xw ad tt R w c k u1.1.1 u1.1.2 u1.2.1 u1.2.2 ++ mw ad2 tt2 R w c k u2.1 u2.2.1 u2.2.2) := hD
          have e1 := po_one hok.2.1 h1 h2
          refine lv_icmp_eq (tgt := 567) hx hb dL_law_388 (by decide) (fun c9 => ?_) (fun c9 => absurd e1 c9)
          refine lv_iinc (v := nI (i + 5)) (lv' := [(3, .int (nI (i + 5))), (0, .ref b), (1, .ref (ad 0)), (2, .ref (ad2 0))]) hx hb dL_law_567 hl (k := 3) rfl (nI_add i 5) (by decide) rfl (fun ls hl => ?_)
          refine lv_goto (tgt := 28) hx hb dL_law_570 (by decide) ?_
          exact ih (i + 5) w c k u1.1.1 u1.1.2 u2.1 u1.2.1 u1.2.2 u2.2.1 u2.2.2 hok (by omega) (by omega) H locs ls hP hD hS (lv_sub hl [1, 2, 3, 0] rfl)
        · refine lv_iconst (v := 1) hx hb dL_law_348 (by decide) ?_
          refine lv_goto (tgt := 353) hx hb dL_law_349 (by decide) ?_
          refine lv_aload_n hx hb dL_law_353 rfl (lv_at hl 0 rfl) ?_
          refine lv_iload_n hx hb dL_law_354 rfl (lv_at hl 3 rfl) ?_
          refine lv_iconst (v := 3) hx hb dL_law_355 (by decide) ?_
          refine lv_iadd hx hb dL_law_356 ?_
          refine xt_eq (z := nI (i + 3)) (nI_add i 3) ?_
          refine va_sld hx hb hX hbl hbA hS (vp_in_nI (by omega) (by omega)) dL_law_357 ?_
          refine xt_eq (z := xs (i + 3)) (congrArg xs (nI_clamp (by omega))) ?_
          refine xs_Vi (wr := mw ad2 tt2 R w c k d2 wp2 wr2) (q0 := 0) (ci := 0) (nA := 3) (As := [.int (xs (i + 1)), .int 1, .int (xs (i + 3))]) (rest := []) S0 (k_X0_port l D ad tt R w c k d n wp wr hok (xs (i + 1)) 1 (xs (i + 3))) gL_law_X0_port rfl ⟨rfl, rfl⟩ (by decide +kernel) rfl ⟨Nat.le_of_ble_eq_true rfl, Nat.le_of_ble_eq_true rfl⟩ ⟨Nat.le_of_ble_eq_true rfl, Nat.le_of_ble_eq_true rfl⟩ hK1 hP hD hS hA [0, 1, 2, 3, 4, 5] [6, 7, 8, 9, 10] rfl rfl (by decide) (by decide) (by decide) rfl rfl rfl hl.1 rfl (Nat.le_of_ble_eq_true rfl) dL_law_358 (fun r1 u1 H locs h1 hP hD hS => ?_)
          have hP : va_P D vwCl (mw ad2 tt2 R w c k d2 wp2 wr2 ++ xw ad tt R w c k u1.1.1 u1.1.2 u1.2.1 u1.2.2) H := hP
          have hD : va_D (fun q : Nat => s.heap.size ≤ q) (mw ad2 tt2 R w c k d2 wp2 wr2 ++ xw ad tt R w c k u1.1.1 u1.1.2 u1.2.1 u1.2.2) := hD
          refine lv_aload_n hx hb dL_law_361 rfl (lv_at hl 2 rfl) ?_
          refine lv_aload_n hx hb dL_law_362 rfl (lv_at hl 0 rfl) ?_
          refine lv_iload_n hx hb dL_law_363 rfl (lv_at hl 3 rfl) ?_
          refine lv_iconst (v := 1) hx hb dL_law_364 (by decide) ?_
          refine lv_iadd hx hb dL_law_365 ?_
          refine xt_eq (z := nI (i + 1)) (nI_add i 1) ?_
          refine va_sld hx hb hX hbl hbA hS (vp_in_nI (by omega) (by omega)) dL_law_366 ?_
          refine xt_eq (z := xs (i + 1)) (congrArg xs (nI_clamp (by omega))) ?_
          refine lv_aload_n hx hb dL_law_367 rfl (lv_at hl 0 rfl) ?_
          refine lv_iload_n hx hb dL_law_368 rfl (lv_at hl 3 rfl) ?_
          refine lv_iconst (v := 2) hx hb dL_law_369 (by decide) ?_
          refine lv_iadd hx hb dL_law_370 ?_
          refine xt_eq (z := nI (i + 2)) (nI_add i 2) ?_
          refine va_sld hx hb hX hbl hbA hS (vp_in_nI (by omega) (by omega)) dL_law_371 ?_
          refine xt_eq (z := xs (i + 2)) (congrArg xs (nI_clamp (by omega))) ?_
          refine lv_if_eq (tgt := 379) hx hb dL_law_372 (by decide) (fun h => absurd h hz) (fun _ => ?_)
          refine lv_iconst (v := 1) hx hb dL_law_375 (by decide) ?_
          refine lv_goto (tgt := 380) hx hb dL_law_376 (by decide) ?_
          refine lv_aload_n hx hb dL_law_380 rfl (lv_at hl 0 rfl) ?_
          refine lv_iload_n hx hb dL_law_381 rfl (lv_at hl 3 rfl) ?_
          refine lv_iconst (v := 3) hx hb dL_law_382 (by decide) ?_
          refine lv_iadd hx hb dL_law_383 ?_
          refine xt_eq (z := nI (i + 3)) (nI_add i 3) ?_
          refine va_sld hx hb hX hbl hbA hS (vp_in_nI (by omega) (by omega)) dL_law_384 ?_
          refine xt_eq (z := xs (i + 3)) (congrArg xs (nI_clamp (by omega))) ?_
          refine xs_Vi (wr := xw ad tt R w c k u1.1.1 u1.1.2 u1.2.1 u1.2.2) (q0 := 0) (ci := 1) (nA := 3) (As := [.int (xs (i + 1)), .int 1, .int (xs (i + 3))]) (rest := [.int r1]) S0 (k_X1_port l D ad2 tt2 R w c k d2 wp2 wr2 hok (xs (i + 1)) 1 (xs (i + 3))) gL_law_X1_port rfl ⟨rfl, rfl⟩ (by decide +kernel) rfl ⟨Nat.le_of_ble_eq_true rfl, Nat.le_of_ble_eq_true rfl⟩ ⟨Nat.le_of_ble_eq_true rfl, Nat.le_of_ble_eq_true rfl⟩ hK2 hP hD hS hA [0, 1, 2, 3, 4] [5, 6, 7, 8, 9, 10] rfl rfl (by decide) (by decide) (by decide) rfl rfl rfl hl.1 rfl (Nat.le_of_ble_eq_true rfl) dL_law_385 (fun r2 u2 H locs h2 hP hD hS => ?_)
          have hP : va_P D vwCl (xw ad tt R w c k u1.1.1 u1.1.2 u1.2.1 u1.2.2 ++ mw ad2 tt2 R w c k u2.1 u2.2.1 u2.2.2) H := hP
          have hD : va_D (fun q : Nat => s.heap.size ≤ q) (xw ad tt R w c k u1.1.1 u1.1.2 u1.2.1 u1.2.2 ++ mw ad2 tt2 R w c k u2.1 u2.2.1 u2.2.2) := hD
          have e1 := po_one hok.2.1 h1 h2
          refine lv_icmp_eq (tgt := 567) hx hb dL_law_388 (by decide) (fun c9 => ?_) (fun c9 => absurd e1 c9)
          refine lv_iinc (v := nI (i + 5)) (lv' := [(3, .int (nI (i + 5))), (0, .ref b), (1, .ref (ad 0)), (2, .ref (ad2 0))]) hx hb dL_law_567 hl (k := 3) rfl (nI_add i 5) (by decide) rfl (fun ls hl => ?_)
          refine lv_goto (tgt := 28) hx hb dL_law_570 (by decide) ?_
          exact ih (i + 5) w c k u1.1.1 u1.1.2 u2.1 u1.2.1 u1.2.2 u2.2.1 u2.2.2 hok (by omega) (by omega) H locs ls hP hD hS (lv_sub hl [1, 2, 3, 0] rfl)
      by_cases h7 : sw = 7
      · subst h7
        refine lv_tableIn (off := 351) (tgt := 393) hx hb dL_law_42 (by decide) (by decide) rfl (by decide) ?_
        refine lv_aload_n hx hb dL_law_393 rfl (lv_at hl 1 rfl) ?_
        refine lv_aload_n hx hb dL_law_394 rfl (lv_at hl 0 rfl) ?_
        refine lv_iload_n hx hb dL_law_395 rfl (lv_at hl 3 rfl) ?_
        refine lv_iconst (v := 1) hx hb dL_law_396 (by decide) ?_
        refine lv_iadd hx hb dL_law_397 ?_
        refine xt_eq (z := nI (i + 1)) (nI_add i 1) ?_
        refine va_sld hx hb hX hbl hbA hS (vp_in_nI (by omega) (by omega)) dL_law_398 ?_
        refine xt_eq (z := xs (i + 1)) (congrArg xs (nI_clamp (by omega))) ?_
        refine lv_aload_n hx hb dL_law_399 rfl (lv_at hl 0 rfl) ?_
        refine lv_iload_n hx hb dL_law_400 rfl (lv_at hl 3 rfl) ?_
        refine lv_iconst (v := 2) hx hb dL_law_401 (by decide) ?_
        refine lv_iadd hx hb dL_law_402 ?_
        refine xt_eq (z := nI (i + 2)) (nI_add i 2) ?_
        refine va_sld hx hb hX hbl hbA hS (vp_in_nI (by omega) (by omega)) dL_law_403 ?_
        refine xt_eq (z := xs (i + 2)) (congrArg xs (nI_clamp (by omega))) ?_
        refine lv_if_eq (tgt := 411) hx hb dL_law_404 (by decide) (fun hz => ?_) (fun hz => ?_)
        · refine lv_iconst (v := 0) hx hb dL_law_411 (by decide) ?_
          refine lv_aload_n hx hb dL_law_412 rfl (lv_at hl 0 rfl) ?_
          refine lv_iload_n hx hb dL_law_413 rfl (lv_at hl 3 rfl) ?_
          refine lv_iconst (v := 3) hx hb dL_law_414 (by decide) ?_
          refine lv_iadd hx hb dL_law_415 ?_
          refine xt_eq (z := nI (i + 3)) (nI_add i 3) ?_
          refine va_sld hx hb hX hbl hbA hS (vp_in_nI (by omega) (by omega)) dL_law_416 ?_
          refine xt_eq (z := xs (i + 3)) (congrArg xs (nI_clamp (by omega))) ?_
          refine xs_Vi (wr := mw ad2 tt2 R w c k d2 wp2 wr2) (q0 := 0) (ci := 0) (nA := 3) (As := [.int (xs (i + 1)), .int 0, .int (xs (i + 3))]) (rest := []) S0 (k_X0_next l D ad tt R w c k d n wp wr hok (xs (i + 1)) 0 (xs (i + 3))) gL_law_X0_next rfl ⟨rfl, rfl⟩ (by decide +kernel) rfl ⟨Nat.le_of_ble_eq_true rfl, Nat.le_of_ble_eq_true rfl⟩ ⟨Nat.le_of_ble_eq_true rfl, Nat.le_of_ble_eq_true rfl⟩ hK1 hP hD hS hA [0, 1, 2, 3, 4, 5] [6, 7, 8, 9, 10] rfl rfl (by decide) (by decide) (by decide) rfl rfl rfl hl.1 rfl (Nat.le_of_ble_eq_true rfl) dL_law_417 (fun r1 u1 H locs h1 hP hD hS => ?_)
          have hP : va_P D vwCl (mw ad2 tt2 R w c k d2 wp2 wr2 ++ xw ad tt R w c k u1.1.1 u1.1.2 u1.2.1 u1.2.2) H := hP
          have hD : va_D (fun q : Nat => s.heap.size ≤ q) (mw ad2 tt2 R w c k d2 wp2 wr2 ++ xw ad tt R w c k u1.1.1 u1.1.2 u1.2.1 u1.2.2) := hD
          refine lv_aload_n hx hb dL_law_420 rfl (lv_at hl 2 rfl) ?_
          refine lv_aload_n hx hb dL_law_421 rfl (lv_at hl 0 rfl) ?_
          refine lv_iload_n hx hb dL_law_422 rfl (lv_at hl 3 rfl) ?_
          refine lv_iconst (v := 1) hx hb dL_law_423 (by decide) ?_
          refine lv_iadd hx hb dL_law_424 ?_
          refine xt_eq (z := nI (i + 1)) (nI_add i 1) ?_
          refine va_sld hx hb hX hbl hbA hS (vp_in_nI (by omega) (by omega)) dL_law_425 ?_
          refine xt_eq (z := xs (i + 1)) (congrArg xs (nI_clamp (by omega))) ?_
          refine lv_aload_n hx hb dL_law_426 rfl (lv_at hl 0 rfl) ?_
          refine lv_iload_n hx hb dL_law_427 rfl (lv_at hl 3 rfl) ?_
          refine lv_iconst (v := 2) hx hb dL_law_428 (by decide) ?_
          refine lv_iadd hx hb dL_law_429 ?_
          refine xt_eq (z := nI (i + 2)) (nI_add i 2) ?_
          refine va_sld hx hb hX hbl hbA hS (vp_in_nI (by omega) (by omega)) dL_law_430 ?_
          refine xt_eq (z := xs (i + 2)) (congrArg xs (nI_clamp (by omega))) ?_
          refine lv_if_eq (tgt := 438) hx hb dL_law_431 (by decide) (fun _ => ?_) (fun h => absurd hz h)
          refine lv_iconst (v := 0) hx hb dL_law_438 (by decide) ?_
          refine lv_aload_n hx hb dL_law_439 rfl (lv_at hl 0 rfl) ?_
          refine lv_iload_n hx hb dL_law_440 rfl (lv_at hl 3 rfl) ?_
          refine lv_iconst (v := 3) hx hb dL_law_441 (by decide) ?_
          refine lv_iadd hx hb dL_law_442 ?_
          refine xt_eq (z := nI (i + 3)) (nI_add i 3) ?_
          refine va_sld hx hb hX hbl hbA hS (vp_in_nI (by omega) (by omega)) dL_law_443 ?_
          refine xt_eq (z := xs (i + 3)) (congrArg xs (nI_clamp (by omega))) ?_
          refine xs_Vi (wr := xw ad tt R w c k u1.1.1 u1.1.2 u1.2.1 u1.2.2) (q0 := 0) (ci := 1) (nA := 3) (As := [.int (xs (i + 1)), .int 0, .int (xs (i + 3))]) (rest := [.int r1]) S0 (k_X1_next l D ad2 tt2 R w c k d2 wp2 wr2 hok (xs (i + 1)) 0 (xs (i + 3))) gL_law_X1_next rfl ⟨rfl, rfl⟩ (by decide +kernel) rfl ⟨Nat.le_of_ble_eq_true rfl, Nat.le_of_ble_eq_true rfl⟩ ⟨Nat.le_of_ble_eq_true rfl, Nat.le_of_ble_eq_true rfl⟩ hK2 hP hD hS hA [0, 1, 2, 3, 4] [5, 6, 7, 8, 9, 10] rfl rfl (by decide) (by decide) (by decide) rfl rfl rfl hl.1 rfl (Nat.le_of_ble_eq_true rfl) dL_law_444 (fun r2 u2 H locs h2 hP hD hS => ?_)
          have hP : va_P D vwCl (xw ad tt R w c k u1.1.1 u1.1.2 u1.2.1 u1.2.2 ++ mw ad2 tt2 R w c k u2.1 u2.2.1 u2.2.2) H := hP
          have hD : va_D (fun q : Nat => s.heap.size ≤ q) (xw ad tt R w c k u1.1.1 u1.1.2 u1.2.1 u1.2.2 ++ mw ad2 tt2 R w c k u2.1 u2.2.1 u2.2.2) := hD
          have e1 := nx_one hok.2.1 h1 h2
          refine lv_icmp_eq (tgt := 567) hx hb dL_law_447 (by decide) (fun c9 => ?_) (fun c9 => absurd e1 c9)
          refine lv_iinc (v := nI (i + 5)) (lv' := [(3, .int (nI (i + 5))), (0, .ref b), (1, .ref (ad 0)), (2, .ref (ad2 0))]) hx hb dL_law_567 hl (k := 3) rfl (nI_add i 5) (by decide) rfl (fun ls hl => ?_)
          refine lv_goto (tgt := 28) hx hb dL_law_570 (by decide) ?_
          exact ih (i + 5) w c k u1.1.1 u1.1.2 u2.1 u1.2.1 u1.2.2 u2.2.1 u2.2.2 hok (by omega) (by omega) H locs ls hP hD hS (lv_sub hl [1, 2, 3, 0] rfl)
        · refine lv_iconst (v := 1) hx hb dL_law_407 (by decide) ?_
          refine lv_goto (tgt := 412) hx hb dL_law_408 (by decide) ?_
          refine lv_aload_n hx hb dL_law_412 rfl (lv_at hl 0 rfl) ?_
          refine lv_iload_n hx hb dL_law_413 rfl (lv_at hl 3 rfl) ?_
          refine lv_iconst (v := 3) hx hb dL_law_414 (by decide) ?_
          refine lv_iadd hx hb dL_law_415 ?_
          refine xt_eq (z := nI (i + 3)) (nI_add i 3) ?_
          refine va_sld hx hb hX hbl hbA hS (vp_in_nI (by omega) (by omega)) dL_law_416 ?_
          refine xt_eq (z := xs (i + 3)) (congrArg xs (nI_clamp (by omega))) ?_
          refine xs_Vi (wr := mw ad2 tt2 R w c k d2 wp2 wr2) (q0 := 0) (ci := 0) (nA := 3) (As := [.int (xs (i + 1)), .int 1, .int (xs (i + 3))]) (rest := []) S0 (k_X0_next l D ad tt R w c k d n wp wr hok (xs (i + 1)) 1 (xs (i + 3))) gL_law_X0_next rfl ⟨rfl, rfl⟩ (by decide +kernel) rfl ⟨Nat.le_of_ble_eq_true rfl, Nat.le_of_ble_eq_true rfl⟩ ⟨Nat.le_of_ble_eq_true rfl, Nat.le_of_ble_eq_true rfl⟩ hK1 hP hD hS hA [0, 1, 2, 3, 4, 5] [6, 7, 8, 9, 10] rfl rfl (by decide) (by decide) (by decide) rfl rfl rfl hl.1 rfl (Nat.le_of_ble_eq_true rfl) dL_law_417 (fun r1 u1 H locs h1 hP hD hS => ?_)
          have hP : va_P D vwCl (mw ad2 tt2 R w c k d2 wp2 wr2 ++ xw ad tt R w c k u1.1.1 u1.1.2 u1.2.1 u1.2.2) H := hP
          have hD : va_D (fun q : Nat => s.heap.size ≤ q) (mw ad2 tt2 R w c k d2 wp2 wr2 ++ xw ad tt R w c k u1.1.1 u1.1.2 u1.2.1 u1.2.2) := hD
          refine lv_aload_n hx hb dL_law_420 rfl (lv_at hl 2 rfl) ?_
          refine lv_aload_n hx hb dL_law_421 rfl (lv_at hl 0 rfl) ?_
          refine lv_iload_n hx hb dL_law_422 rfl (lv_at hl 3 rfl) ?_
          refine lv_iconst (v := 1) hx hb dL_law_423 (by decide) ?_
          refine lv_iadd hx hb dL_law_424 ?_
          refine xt_eq (z := nI (i + 1)) (nI_add i 1) ?_
          refine va_sld hx hb hX hbl hbA hS (vp_in_nI (by omega) (by omega)) dL_law_425 ?_
          refine xt_eq (z := xs (i + 1)) (congrArg xs (nI_clamp (by omega))) ?_
          refine lv_aload_n hx hb dL_law_426 rfl (lv_at hl 0 rfl) ?_
          refine lv_iload_n hx hb dL_law_427 rfl (lv_at hl 3 rfl) ?_
          refine lv_iconst (v := 2) hx hb dL_law_428 (by decide) ?_
          refine lv_iadd hx hb dL_law_429 ?_
          refine xt_eq (z := nI (i + 2)) (nI_add i 2) ?_
          refine va_sld hx hb hX hbl hbA hS (vp_in_nI (by omega) (by omega)) dL_law_430 ?_
          refine xt_eq (z := xs (i + 2)) (congrArg xs (nI_clamp (by omega))) ?_
          refine lv_if_eq (tgt := 438) hx hb dL_law_431 (by decide) (fun h => absurd h hz) (fun _ => ?_)
          refine lv_iconst (v := 1) hx hb dL_law_434 (by decide) ?_
          refine lv_goto (tgt := 439) hx hb dL_law_435 (by decide) ?_
          refine lv_aload_n hx hb dL_law_439 rfl (lv_at hl 0 rfl) ?_
          refine lv_iload_n hx hb dL_law_440 rfl (lv_at hl 3 rfl) ?_
          refine lv_iconst (v := 3) hx hb dL_law_441 (by decide) ?_
          refine lv_iadd hx hb dL_law_442 ?_
          refine xt_eq (z := nI (i + 3)) (nI_add i 3) ?_
          refine va_sld hx hb hX hbl hbA hS (vp_in_nI (by omega) (by omega)) dL_law_443 ?_
          refine xt_eq (z := xs (i + 3)) (congrArg xs (nI_clamp (by omega))) ?_
          refine xs_Vi (wr := xw ad tt R w c k u1.1.1 u1.1.2 u1.2.1 u1.2.2) (q0 := 0) (ci := 1) (nA := 3) (As := [.int (xs (i + 1)), .int 1, .int (xs (i + 3))]) (rest := [.int r1]) S0 (k_X1_next l D ad2 tt2 R w c k d2 wp2 wr2 hok (xs (i + 1)) 1 (xs (i + 3))) gL_law_X1_next rfl ⟨rfl, rfl⟩ (by decide +kernel) rfl ⟨Nat.le_of_ble_eq_true rfl, Nat.le_of_ble_eq_true rfl⟩ ⟨Nat.le_of_ble_eq_true rfl, Nat.le_of_ble_eq_true rfl⟩ hK2 hP hD hS hA [0, 1, 2, 3, 4] [5, 6, 7, 8, 9, 10] rfl rfl (by decide) (by decide) (by decide) rfl rfl rfl hl.1 rfl (Nat.le_of_ble_eq_true rfl) dL_law_444 (fun r2 u2 H locs h2 hP hD hS => ?_)
          have hP : va_P D vwCl (xw ad tt R w c k u1.1.1 u1.1.2 u1.2.1 u1.2.2 ++ mw ad2 tt2 R w c k u2.1 u2.2.1 u2.2.2) H := hP
          have hD : va_D (fun q : Nat => s.heap.size ≤ q) (xw ad tt R w c k u1.1.1 u1.1.2 u1.2.1 u1.2.2 ++ mw ad2 tt2 R w c k u2.1 u2.2.1 u2.2.2) := hD
          have e1 := nx_one hok.2.1 h1 h2
          refine lv_icmp_eq (tgt := 567) hx hb dL_law_447 (by decide) (fun c9 => ?_) (fun c9 => absurd e1 c9)
          refine lv_iinc (v := nI (i + 5)) (lv' := [(3, .int (nI (i + 5))), (0, .ref b), (1, .ref (ad 0)), (2, .ref (ad2 0))]) hx hb dL_law_567 hl (k := 3) rfl (nI_add i 5) (by decide) rfl (fun ls hl => ?_)
          refine lv_goto (tgt := 28) hx hb dL_law_570 (by decide) ?_
          exact ih (i + 5) w c k u1.1.1 u1.1.2 u2.1 u1.2.1 u1.2.2 u2.2.1 u2.2.2 hok (by omega) (by omega) H locs ls hP hD hS (lv_sub hl [1, 2, 3, 0] rfl)
      by_cases h8 : sw = 8
      · subst h8
        refine lv_tableIn (off := 410) (tgt := 452) hx hb dL_law_42 (by decide) (by decide) rfl (by decide) ?_
        refine lv_aload_n hx hb dL_law_452 rfl (lv_at hl 1 rfl) ?_
        refine lv_aload_n hx hb dL_law_453 rfl (lv_at hl 0 rfl) ?_
        refine lv_iload_n hx hb dL_law_454 rfl (lv_at hl 3 rfl) ?_
        refine lv_iconst (v := 1) hx hb dL_law_455 (by decide) ?_
        refine lv_iadd hx hb dL_law_456 ?_
        refine xt_eq (z := nI (i + 1)) (nI_add i 1) ?_
        refine va_sld hx hb hX hbl hbA hS (vp_in_nI (by omega) (by omega)) dL_law_457 ?_
        refine xt_eq (z := xs (i + 1)) (congrArg xs (nI_clamp (by omega))) ?_
        refine lv_aload_n hx hb dL_law_458 rfl (lv_at hl 0 rfl) ?_
        refine lv_iload_n hx hb dL_law_459 rfl (lv_at hl 3 rfl) ?_
        refine lv_iconst (v := 2) hx hb dL_law_460 (by decide) ?_
        refine lv_iadd hx hb dL_law_461 ?_
        refine xt_eq (z := nI (i + 2)) (nI_add i 2) ?_
        refine va_sld hx hb hX hbl hbA hS (vp_in_nI (by omega) (by omega)) dL_law_462 ?_
        refine xt_eq (z := xs (i + 2)) (congrArg xs (nI_clamp (by omega))) ?_
        refine lv_if_eq (tgt := 470) hx hb dL_law_463 (by decide) (fun hz => ?_) (fun hz => ?_)
        · refine lv_iconst (v := 0) hx hb dL_law_470 (by decide) ?_
          refine lv_aload_n hx hb dL_law_471 rfl (lv_at hl 0 rfl) ?_
          refine lv_iload_n hx hb dL_law_472 rfl (lv_at hl 3 rfl) ?_
          refine lv_iconst (v := 3) hx hb dL_law_473 (by decide) ?_
          refine lv_iadd hx hb dL_law_474 ?_
          refine xt_eq (z := nI (i + 3)) (nI_add i 3) ?_
          refine va_sld hx hb hX hbl hbA hS (vp_in_nI (by omega) (by omega)) dL_law_475 ?_
          refine xt_eq (z := xs (i + 3)) (congrArg xs (nI_clamp (by omega))) ?_
          refine lv_aload_n hx hb dL_law_476 rfl (lv_at hl 0 rfl) ?_
          refine lv_iload_n hx hb dL_law_477 rfl (lv_at hl 3 rfl) ?_
          refine lv_iconst (v := 4) hx hb dL_law_478 (by decide) ?_
          refine lv_iadd hx hb dL_law_479 ?_
          refine xt_eq (z := nI (i + 4)) (nI_add i 4) ?_
          refine va_sld hx hb hX hbl hbA hS (vp_in_nI (by omega) (by omega)) dL_law_480 ?_
          refine xt_eq (z := xs (i + 4)) (congrArg xs (nI_clamp (by omega))) ?_
          refine xs_Vi (wr := mw ad2 tt2 R w c k d2 wp2 wr2) (q0 := 0) (ci := 0) (nA := 4) (As := [.int (xs (i + 1)), .int 0, .int (xs (i + 3)), .int (xs (i + 4))]) (rest := []) S0 (k_X0_walk l D ad tt R w c k d n wp wr hok (xs (i + 1)) 0 (xs (i + 3)) (xs (i + 4))) gL_law_X0_walk rfl ⟨rfl, rfl⟩ (by decide +kernel) rfl ⟨Nat.le_of_ble_eq_true rfl, Nat.le_of_ble_eq_true rfl⟩ ⟨Nat.le_of_ble_eq_true rfl, Nat.le_of_ble_eq_true rfl⟩ hK1 hP hD hS hA [0, 1, 2, 3, 4, 5] [6, 7, 8, 9, 10] rfl rfl (by decide) (by decide) (by decide) rfl rfl rfl hl.1 rfl (Nat.le_of_ble_eq_true rfl) dL_law_481 (fun r1 u1 H locs h1 hP hD hS => ?_)
          have hP : va_P D vwCl (mw ad2 tt2 R w c k d2 wp2 wr2 ++ xw ad tt R w c k u1.1.1 u1.1.2 u1.2.1 u1.2.2) H := hP
          have hD : va_D (fun q : Nat => s.heap.size ≤ q) (mw ad2 tt2 R w c k d2 wp2 wr2 ++ xw ad tt R w c k u1.1.1 u1.1.2 u1.2.1 u1.2.2) := hD
          refine lv_aload_n hx hb dL_law_484 rfl (lv_at hl 2 rfl) ?_
          refine lv_aload_n hx hb dL_law_485 rfl (lv_at hl 0 rfl) ?_
          refine lv_iload_n hx hb dL_law_486 rfl (lv_at hl 3 rfl) ?_
          refine lv_iconst (v := 1) hx hb dL_law_487 (by decide) ?_
          refine lv_iadd hx hb dL_law_488 ?_
          refine xt_eq (z := nI (i + 1)) (nI_add i 1) ?_
          refine va_sld hx hb hX hbl hbA hS (vp_in_nI (by omega) (by omega)) dL_law_489 ?_
          refine xt_eq (z := xs (i + 1)) (congrArg xs (nI_clamp (by omega))) ?_
          refine lv_aload_n hx hb dL_law_490 rfl (lv_at hl 0 rfl) ?_
          refine lv_iload_n hx hb dL_law_491 rfl (lv_at hl 3 rfl) ?_
          refine lv_iconst (v := 2) hx hb dL_law_492 (by decide) ?_
          refine lv_iadd hx hb dL_law_493 ?_
          refine xt_eq (z := nI (i + 2)) (nI_add i 2) ?_
          refine va_sld hx hb hX hbl hbA hS (vp_in_nI (by omega) (by omega)) dL_law_494 ?_
          refine xt_eq (z := xs (i + 2)) (congrArg xs (nI_clamp (by omega))) ?_
          refine lv_if_eq (tgt := 502) hx hb dL_law_495 (by decide) (fun _ => ?_) (fun h => absurd hz h)
          refine lv_iconst (v := 0) hx hb dL_law_502 (by decide) ?_
          refine lv_aload_n hx hb dL_law_503 rfl (lv_at hl 0 rfl) ?_
          refine lv_iload_n hx hb dL_law_504 rfl (lv_at hl 3 rfl) ?_
          refine lv_iconst (v := 3) hx hb dL_law_505 (by decide) ?_
          refine lv_iadd hx hb dL_law_506 ?_
          refine xt_eq (z := nI (i + 3)) (nI_add i 3) ?_
          refine va_sld hx hb hX hbl hbA hS (vp_in_nI (by omega) (by omega)) dL_law_507 ?_
          refine xt_eq (z := xs (i + 3)) (congrArg xs (nI_clamp (by omega))) ?_
          refine lv_aload_n hx hb dL_law_508 rfl (lv_at hl 0 rfl) ?_
          refine lv_iload_n hx hb dL_law_509 rfl (lv_at hl 3 rfl) ?_
          refine lv_iconst (v := 4) hx hb dL_law_510 (by decide) ?_
          refine lv_iadd hx hb dL_law_511 ?_
          refine xt_eq (z := nI (i + 4)) (nI_add i 4) ?_
          refine va_sld hx hb hX hbl hbA hS (vp_in_nI (by omega) (by omega)) dL_law_512 ?_
          refine xt_eq (z := xs (i + 4)) (congrArg xs (nI_clamp (by omega))) ?_
          refine xs_Vi (wr := xw ad tt R w c k u1.1.1 u1.1.2 u1.2.1 u1.2.2) (q0 := 0) (ci := 1) (nA := 4) (As := [.int (xs (i + 1)), .int 0, .int (xs (i + 3)), .int (xs (i + 4))]) (rest := [.int r1]) S0 (k_X1_walk l D ad2 tt2 R w c k d2 wp2 wr2 hok (xs (i + 1)) 0 (xs (i + 3)) (xs (i + 4))) gL_law_X1_walk rfl ⟨rfl, rfl⟩ (by decide +kernel) rfl ⟨Nat.le_of_ble_eq_true rfl, Nat.le_of_ble_eq_true rfl⟩ ⟨Nat.le_of_ble_eq_true rfl, Nat.le_of_ble_eq_true rfl⟩ hK2 hP hD hS hA [0, 1, 2, 3, 4] [5, 6, 7, 8, 9, 10] rfl rfl (by decide) (by decide) (by decide) rfl rfl rfl hl.1 rfl (Nat.le_of_ble_eq_true rfl) dL_law_513 (fun r2 u2 H locs h2 hP hD hS => ?_)
          have hP : va_P D vwCl (xw ad tt R w c k u1.1.1 u1.1.2 u1.2.1 u1.2.2 ++ mw ad2 tt2 R w c k u2.1 u2.2.1 u2.2.2) H := hP
          have hD : va_D (fun q : Nat => s.heap.size ≤ q) (xw ad tt R w c k u1.1.1 u1.1.2 u1.2.1 u1.2.2 ++ mw ad2 tt2 R w c k u2.1 u2.2.1 u2.2.2) := hD
          have e1 := wk_one hok.2.1 h1 h2
          refine lv_icmp_eq (tgt := 567) hx hb dL_law_516 (by decide) (fun c9 => ?_) (fun c9 => absurd e1 c9)
          refine lv_iinc (v := nI (i + 5)) (lv' := [(3, .int (nI (i + 5))), (0, .ref b), (1, .ref (ad 0)), (2, .ref (ad2 0))]) hx hb dL_law_567 hl (k := 3) rfl (nI_add i 5) (by decide) rfl (fun ls hl => ?_)
          refine lv_goto (tgt := 28) hx hb dL_law_570 (by decide) ?_
          exact ih (i + 5) w c k u1.1.1 u1.1.2 u2.1 u1.2.1 u1.2.2 u2.2.1 u2.2.2 hok (by omega) (by omega) H locs ls hP hD hS (lv_sub hl [1, 2, 3, 0] rfl)
        · refine lv_iconst (v := 1) hx hb dL_law_466 (by decide) ?_
          refine lv_goto (tgt := 471) hx hb dL_law_467 (by decide) ?_
          refine lv_aload_n hx hb dL_law_471 rfl (lv_at hl 0 rfl) ?_
          refine lv_iload_n hx hb dL_law_472 rfl (lv_at hl 3 rfl) ?_
          refine lv_iconst (v := 3) hx hb dL_law_473 (by decide) ?_
          refine lv_iadd hx hb dL_law_474 ?_
          refine xt_eq (z := nI (i + 3)) (nI_add i 3) ?_
          refine va_sld hx hb hX hbl hbA hS (vp_in_nI (by omega) (by omega)) dL_law_475 ?_
          refine xt_eq (z := xs (i + 3)) (congrArg xs (nI_clamp (by omega))) ?_
          refine lv_aload_n hx hb dL_law_476 rfl (lv_at hl 0 rfl) ?_
          refine lv_iload_n hx hb dL_law_477 rfl (lv_at hl 3 rfl) ?_
          refine lv_iconst (v := 4) hx hb dL_law_478 (by decide) ?_
          refine lv_iadd hx hb dL_law_479 ?_
          refine xt_eq (z := nI (i + 4)) (nI_add i 4) ?_
          refine va_sld hx hb hX hbl hbA hS (vp_in_nI (by omega) (by omega)) dL_law_480 ?_
          refine xt_eq (z := xs (i + 4)) (congrArg xs (nI_clamp (by omega))) ?_
          refine xs_Vi (wr := mw ad2 tt2 R w c k d2 wp2 wr2) (q0 := 0) (ci := 0) (nA := 4) (As := [.int (xs (i + 1)), .int 1, .int (xs (i + 3)), .int (xs (i + 4))]) (rest := []) S0 (k_X0_walk l D ad tt R w c k d n wp wr hok (xs (i + 1)) 1 (xs (i + 3)) (xs (i + 4))) gL_law_X0_walk rfl ⟨rfl, rfl⟩ (by decide +kernel) rfl ⟨Nat.le_of_ble_eq_true rfl, Nat.le_of_ble_eq_true rfl⟩ ⟨Nat.le_of_ble_eq_true rfl, Nat.le_of_ble_eq_true rfl⟩ hK1 hP hD hS hA [0, 1, 2, 3, 4, 5] [6, 7, 8, 9, 10] rfl rfl (by decide) (by decide) (by decide) rfl rfl rfl hl.1 rfl (Nat.le_of_ble_eq_true rfl) dL_law_481 (fun r1 u1 H locs h1 hP hD hS => ?_)
          have hP : va_P D vwCl (mw ad2 tt2 R w c k d2 wp2 wr2 ++ xw ad tt R w c k u1.1.1 u1.1.2 u1.2.1 u1.2.2) H := hP
          have hD : va_D (fun q : Nat => s.heap.size ≤ q) (mw ad2 tt2 R w c k d2 wp2 wr2 ++ xw ad tt R w c k u1.1.1 u1.1.2 u1.2.1 u1.2.2) := hD
          refine lv_aload_n hx hb dL_law_484 rfl (lv_at hl 2 rfl) ?_
          refine lv_aload_n hx hb dL_law_485 rfl (lv_at hl 0 rfl) ?_
          refine lv_iload_n hx hb dL_law_486 rfl (lv_at hl 3 rfl) ?_
          refine lv_iconst (v := 1) hx hb dL_law_487 (by decide) ?_
          refine lv_iadd hx hb dL_law_488 ?_
          refine xt_eq (z := nI (i + 1)) (nI_add i 1) ?_
          refine va_sld hx hb hX hbl hbA hS (vp_in_nI (by omega) (by omega)) dL_law_489 ?_
          refine xt_eq (z := xs (i + 1)) (congrArg xs (nI_clamp (by omega))) ?_
          refine lv_aload_n hx hb dL_law_490 rfl (lv_at hl 0 rfl) ?_
          refine lv_iload_n hx hb dL_law_491 rfl (lv_at hl 3 rfl) ?_
          refine lv_iconst (v := 2) hx hb dL_law_492 (by decide) ?_
          refine lv_iadd hx hb dL_law_493 ?_
          refine xt_eq (z := nI (i + 2)) (nI_add i 2) ?_
          refine va_sld hx hb hX hbl hbA hS (vp_in_nI (by omega) (by omega)) dL_law_494 ?_
          refine xt_eq (z := xs (i + 2)) (congrArg xs (nI_clamp (by omega))) ?_
          refine lv_if_eq (tgt := 502) hx hb dL_law_495 (by decide) (fun h => absurd h hz) (fun _ => ?_)
          refine lv_iconst (v := 1) hx hb dL_law_498 (by decide) ?_
          refine lv_goto (tgt := 503) hx hb dL_law_499 (by decide) ?_
          refine lv_aload_n hx hb dL_law_503 rfl (lv_at hl 0 rfl) ?_
          refine lv_iload_n hx hb dL_law_504 rfl (lv_at hl 3 rfl) ?_
          refine lv_iconst (v := 3) hx hb dL_law_505 (by decide) ?_
          refine lv_iadd hx hb dL_law_506 ?_
          refine xt_eq (z := nI (i + 3)) (nI_add i 3) ?_
          refine va_sld hx hb hX hbl hbA hS (vp_in_nI (by omega) (by omega)) dL_law_507 ?_
          refine xt_eq (z := xs (i + 3)) (congrArg xs (nI_clamp (by omega))) ?_
          refine lv_aload_n hx hb dL_law_508 rfl (lv_at hl 0 rfl) ?_
          refine lv_iload_n hx hb dL_law_509 rfl (lv_at hl 3 rfl) ?_
          refine lv_iconst (v := 4) hx hb dL_law_510 (by decide) ?_
          refine lv_iadd hx hb dL_law_511 ?_
          refine xt_eq (z := nI (i + 4)) (nI_add i 4) ?_
          refine va_sld hx hb hX hbl hbA hS (vp_in_nI (by omega) (by omega)) dL_law_512 ?_
          refine xt_eq (z := xs (i + 4)) (congrArg xs (nI_clamp (by omega))) ?_
          refine xs_Vi (wr := xw ad tt R w c k u1.1.1 u1.1.2 u1.2.1 u1.2.2) (q0 := 0) (ci := 1) (nA := 4) (As := [.int (xs (i + 1)), .int 1, .int (xs (i + 3)), .int (xs (i + 4))]) (rest := [.int r1]) S0 (k_X1_walk l D ad2 tt2 R w c k d2 wp2 wr2 hok (xs (i + 1)) 1 (xs (i + 3)) (xs (i + 4))) gL_law_X1_walk rfl ⟨rfl, rfl⟩ (by decide +kernel) rfl ⟨Nat.le_of_ble_eq_true rfl, Nat.le_of_ble_eq_true rfl⟩ ⟨Nat.le_of_ble_eq_true rfl, Nat.le_of_ble_eq_true rfl⟩ hK2 hP hD hS hA [0, 1, 2, 3, 4] [5, 6, 7, 8, 9, 10] rfl rfl (by decide) (by decide) (by decide) rfl rfl rfl hl.1 rfl (Nat.le_of_ble_eq_true rfl) dL_law_513 (fun r2 u2 H locs h2 hP hD hS => ?_)
          have hP : va_P D vwCl (xw ad tt R w c k u1.1.1 u1.1.2 u1.2.1 u1.2.2 ++ mw ad2 tt2 R w c k u2.1 u2.2.1 u2.2.2) H := hP
          have hD : va_D (fun q : Nat => s.heap.size ≤ q) (xw ad tt R w c k u1.1.1 u1.1.2 u1.2.1 u1.2.2 ++ mw ad2 tt2 R w c k u2.1 u2.2.1 u2.2.2) := hD
          have e1 := wk_one hok.2.1 h1 h2
          refine lv_icmp_eq (tgt := 567) hx hb dL_law_516 (by decide) (fun c9 => ?_) (fun c9 => absurd e1 c9)
          refine lv_iinc (v := nI (i + 5)) (lv' := [(3, .int (nI (i + 5))), (0, .ref b), (1, .ref (ad 0)), (2, .ref (ad2 0))]) hx hb dL_law_567 hl (k := 3) rfl (nI_add i 5) (by decide) rfl (fun ls hl => ?_)
          refine lv_goto (tgt := 28) hx hb dL_law_570 (by decide) ?_
          exact ih (i + 5) w c k u1.1.1 u1.1.2 u2.1 u1.2.1 u1.2.2 u2.2.1 u2.2.2 hok (by omega) (by omega) H locs ls hP hD hS (lv_sub hl [1, 2, 3, 0] rfl)
      by_cases h9 : sw = 9
      · subst h9
        refine lv_tableIn (off := 479) (tgt := 521) hx hb dL_law_42 (by decide) (by decide) rfl (by decide) ?_
        refine lv_aload_n hx hb dL_law_521 rfl (lv_at hl 1 rfl) ?_
        refine lv_aload_n hx hb dL_law_522 rfl (lv_at hl 0 rfl) ?_
        refine lv_iload_n hx hb dL_law_523 rfl (lv_at hl 3 rfl) ?_
        refine lv_iconst (v := 1) hx hb dL_law_524 (by decide) ?_
        refine lv_iadd hx hb dL_law_525 ?_
        refine xt_eq (z := nI (i + 1)) (nI_add i 1) ?_
        refine va_sld hx hb hX hbl hbA hS (vp_in_nI (by omega) (by omega)) dL_law_526 ?_
        refine xt_eq (z := xs (i + 1)) (congrArg xs (nI_clamp (by omega))) ?_
        refine xs_Vi (wr := mw ad2 tt2 R w c k d2 wp2 wr2) (q0 := 0) (ci := 0) (nA := 1) (As := [.int (xs (i + 1))]) (rest := []) S0 (k_X0_reach l D ad tt R w c k d n wp wr hok (xs (i + 1))) gL_law_X0_reach rfl ⟨rfl, rfl⟩ (by decide +kernel) rfl ⟨Nat.le_of_ble_eq_true rfl, Nat.le_of_ble_eq_true rfl⟩ ⟨Nat.le_of_ble_eq_true rfl, Nat.le_of_ble_eq_true rfl⟩ hK1 hP hD hS hA [0, 1, 2, 3, 4, 5] [6, 7, 8, 9, 10] rfl rfl (by decide) (by decide) (by decide) rfl rfl rfl hl.1 rfl (Nat.le_of_ble_eq_true rfl) dL_law_527 (fun r1 u1 H locs h1 hP hD hS => ?_)
        have hP : va_P D vwCl (mw ad2 tt2 R w c k d2 wp2 wr2 ++ xw ad tt R w c k u1.1 u1.2 wp wr) H := hP
        have hD : va_D (fun q : Nat => s.heap.size ≤ q) (mw ad2 tt2 R w c k d2 wp2 wr2 ++ xw ad tt R w c k u1.1 u1.2 wp wr) := hD
        refine lv_aload_n hx hb dL_law_530 rfl (lv_at hl 2 rfl) ?_
        refine lv_aload_n hx hb dL_law_531 rfl (lv_at hl 0 rfl) ?_
        refine lv_iload_n hx hb dL_law_532 rfl (lv_at hl 3 rfl) ?_
        refine lv_iconst (v := 1) hx hb dL_law_533 (by decide) ?_
        refine lv_iadd hx hb dL_law_534 ?_
        refine xt_eq (z := nI (i + 1)) (nI_add i 1) ?_
        refine va_sld hx hb hX hbl hbA hS (vp_in_nI (by omega) (by omega)) dL_law_535 ?_
        refine xt_eq (z := xs (i + 1)) (congrArg xs (nI_clamp (by omega))) ?_
        refine xs_Vi (wr := xw ad tt R w c k u1.1 u1.2 wp wr) (q0 := 0) (ci := 1) (nA := 1) (As := [.int (xs (i + 1))]) (rest := [.int r1]) S0 (k_X1_reach l D ad2 tt2 R w c k d2 wp2 wr2 hok (xs (i + 1))) gL_law_X1_reach rfl ⟨rfl, rfl⟩ (by decide +kernel) rfl ⟨Nat.le_of_ble_eq_true rfl, Nat.le_of_ble_eq_true rfl⟩ ⟨Nat.le_of_ble_eq_true rfl, Nat.le_of_ble_eq_true rfl⟩ hK2 hP hD hS hA [0, 1, 2, 3, 4] [5, 6, 7, 8, 9, 10] rfl rfl (by decide) (by decide) (by decide) rfl rfl rfl hl.1 rfl (Nat.le_of_ble_eq_true rfl) dL_law_536 (fun r2 u2 H locs h2 hP hD hS => ?_)
        have hP : va_P D vwCl (xw ad tt R w c k u1.1 u1.2 wp wr ++ mw ad2 tt2 R w c k u2.1 u2.2.1 u2.2.2) H := hP
        have hD : va_D (fun q : Nat => s.heap.size ≤ q) (xw ad tt R w c k u1.1 u1.2 wp wr ++ mw ad2 tt2 R w c k u2.1 u2.2.1 u2.2.2) := hD
        have e1 := rc_one hok.2.1 h1 h2
        refine lv_icmp_eq (tgt := 567) hx hb dL_law_539 (by decide) (fun c9 => ?_) (fun c9 => absurd e1 c9)
        refine lv_iinc (v := nI (i + 5)) (lv' := [(3, .int (nI (i + 5))), (0, .ref b), (1, .ref (ad 0)), (2, .ref (ad2 0))]) hx hb dL_law_567 hl (k := 3) rfl (nI_add i 5) (by decide) rfl (fun ls hl => ?_)
        refine lv_goto (tgt := 28) hx hb dL_law_570 (by decide) ?_
        exact ih (i + 5) w c k u1.1 u1.2 u2.1 wp wr u2.2.1 u2.2.2 hok (by omega) (by omega) H locs ls hP hD hS (lv_sub hl [1, 2, 3, 0] rfl)
      by_cases h10 : sw = 10
      · subst h10
        refine lv_tableIn (off := 502) (tgt := 544) hx hb dL_law_42 (by decide) (by decide) rfl (by decide) ?_
        refine lv_aload_n hx hb dL_law_544 rfl (lv_at hl 1 rfl) ?_
        refine lv_aload_n hx hb dL_law_545 rfl (lv_at hl 0 rfl) ?_
        refine lv_iload_n hx hb dL_law_546 rfl (lv_at hl 3 rfl) ?_
        refine lv_iconst (v := 1) hx hb dL_law_547 (by decide) ?_
        refine lv_iadd hx hb dL_law_548 ?_
        refine xt_eq (z := nI (i + 1)) (nI_add i 1) ?_
        refine va_sld hx hb hX hbl hbA hS (vp_in_nI (by omega) (by omega)) dL_law_549 ?_
        refine xt_eq (z := xs (i + 1)) (congrArg xs (nI_clamp (by omega))) ?_
        refine xs_Vi (wr := mw ad2 tt2 R w c k d2 wp2 wr2) (q0 := 0) (ci := 0) (nA := 1) (As := [.int (xs (i + 1))]) (rest := []) S0 (k_X0_count l D ad tt R w c k d n wp wr hok (xs (i + 1))) gL_law_X0_count rfl ⟨rfl, rfl⟩ (by decide +kernel) rfl ⟨Nat.le_of_ble_eq_true rfl, Nat.le_of_ble_eq_true rfl⟩ ⟨Nat.le_of_ble_eq_true rfl, Nat.le_of_ble_eq_true rfl⟩ hK1 hP hD hS hA [0, 1, 2, 3, 4, 5] [6, 7, 8, 9, 10] rfl rfl (by decide) (by decide) (by decide) rfl rfl rfl hl.1 rfl (Nat.le_of_ble_eq_true rfl) dL_law_550 (fun r1 u1 H locs h1 hP hD hS => ?_)
        have hP : va_P D vwCl (mw ad2 tt2 R w c k d2 wp2 wr2 ++ xw ad tt R w c k u1.1 u1.2 wp wr) H := hP
        have hD : va_D (fun q : Nat => s.heap.size ≤ q) (mw ad2 tt2 R w c k d2 wp2 wr2 ++ xw ad tt R w c k u1.1 u1.2 wp wr) := hD
        refine lv_aload_n hx hb dL_law_553 rfl (lv_at hl 2 rfl) ?_
        refine lv_aload_n hx hb dL_law_554 rfl (lv_at hl 0 rfl) ?_
        refine lv_iload_n hx hb dL_law_555 rfl (lv_at hl 3 rfl) ?_
        refine lv_iconst (v := 1) hx hb dL_law_556 (by decide) ?_
        refine lv_iadd hx hb dL_law_557 ?_
        refine xt_eq (z := nI (i + 1)) (nI_add i 1) ?_
        refine va_sld hx hb hX hbl hbA hS (vp_in_nI (by omega) (by omega)) dL_law_558 ?_
        refine xt_eq (z := xs (i + 1)) (congrArg xs (nI_clamp (by omega))) ?_
        refine xs_Vi (wr := xw ad tt R w c k u1.1 u1.2 wp wr) (q0 := 0) (ci := 1) (nA := 1) (As := [.int (xs (i + 1))]) (rest := [.int r1]) S0 (k_X1_count l D ad2 tt2 R w c k d2 wp2 wr2 hok (xs (i + 1))) gL_law_X1_count rfl ⟨rfl, rfl⟩ (by decide +kernel) rfl ⟨Nat.le_of_ble_eq_true rfl, Nat.le_of_ble_eq_true rfl⟩ ⟨Nat.le_of_ble_eq_true rfl, Nat.le_of_ble_eq_true rfl⟩ hK2 hP hD hS hA [0, 1, 2, 3, 4] [5, 6, 7, 8, 9, 10] rfl rfl (by decide) (by decide) (by decide) rfl rfl rfl hl.1 rfl (Nat.le_of_ble_eq_true rfl) dL_law_559 (fun r2 u2 H locs h2 hP hD hS => ?_)
        have hP : va_P D vwCl (xw ad tt R w c k u1.1 u1.2 wp wr ++ mw ad2 tt2 R w c k u2 wp2 wr2) H := hP
        have hD : va_D (fun q : Nat => s.heap.size ≤ q) (xw ad tt R w c k u1.1 u1.2 wp wr ++ mw ad2 tt2 R w c k u2 wp2 wr2) := hD
        have e1 := ct_one h1 h2
        refine lv_icmp_eq (tgt := 567) hx hb dL_law_562 (by decide) (fun c9 => ?_) (fun c9 => absurd e1 c9)
        refine lv_iinc (v := nI (i + 5)) (lv' := [(3, .int (nI (i + 5))), (0, .ref b), (1, .ref (ad 0)), (2, .ref (ad2 0))]) hx hb dL_law_567 hl (k := 3) rfl (nI_add i 5) (by decide) rfl (fun ls hl => ?_)
        refine lv_goto (tgt := 28) hx hb dL_law_570 (by decide) ?_
        exact ih (i + 5) w c k u1.1 u1.2 u2 wp wr wp2 wr2 hok (by omega) (by omega) H locs ls hP hD hS (lv_sub hl [1, 2, 3, 0] rfl)
      refine lv_tableOut (tgt := 567) hx hb dL_law_42 (Or.inr (by rw [nI_toInt (by omega)]; omega)) (by decide) ?_
      refine lv_iinc (v := nI (i + 5)) (lv' := [(3, .int (nI (i + 5))), (0, .ref b), (1, .ref (ad 0)), (2, .ref (ad2 0))]) hx hb dL_law_567 hl (k := 3) rfl (nI_add i 5) (by decide) rfl (fun ls hl => ?_)
      refine lv_goto (tgt := 28) hx hb dL_law_570 (by decide) ?_
      exact ih (i + 5) w c k d n d2 wp wr wp2 wr2 hok (by omega) (by omega) H locs ls hP hD hS (lv_sub hl [1, 2, 3, 0] rfl)
