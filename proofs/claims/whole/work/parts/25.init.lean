set_option maxHeartbeats 4000000 in
set_option maxRecDepth 100000 in
theorem k_X0_init (l : Launch) (D : va_G) (h0 : Nat) (x : Int32) (sz : Nat) : Met l yX0_init wsX0_init { frames := 1, cells := 5, slots := 122, locals := 20 } (va_Pc [.ref h0, .int x] (xPre D [] [(h0, .inr (0, [.int 0, .null, .null, .null, .null, .null, .int 0, .int 0]))] sz)) (va_Qv (fun u => u.1 0 = h0) (xBI D (va_A [(h0, .inr (0, [.int 0, .null, .null, .null, .null, .null, .int 0, .int 0]))] sz) (clampR x)) (va_A [(h0, .inr (0, [.int 0, .null, .null, .null, .null, .null, .int 0, .int 0]))] sz)) 5 122 (va_A [(h0, .inr (0, [.int 0, .null, .null, .null, .null, .null, .int 0, .int 0]))] sz) := by
  refine Met.ofW (cc := cX0_init) (maxL := 3) (ret := none) (by decide) rfl ?_
  intro p e s m args below meth cd s₁ B hml hv
  obtain ⟨rfl, hsz, hP, hK, hD0⟩ := hv
  have hx := B.exec
  have hb := B.bytes
  have hr := B.returns
  have hts := atoms_spec (ws := wsX0_init) B.pre
  have hown : s.vm.findClass RX0 = some m.cls := findClass_of_methodNamed B.named
  have hlocks := B.notSynchronized
  have hini : meth.name = "<init>" := (name_of_methodNamed B.named B.method).1
  subst hsz
  have hD := hD0.self (sz := s.heap.size)
  generalize hAe : va_A [(h0, .inr (0, [.int 0, .null, .null, .null, .null, .null, .int 0, .int 0]))] s.heap.size = A at hD ⊢
  have hA : ∀ q : Nat, s.heap.size ≤ q → A q := fun q h => by rw [← hAe]; exact Or.inr h
  have hS : va_S A s.heap s.heap [] := va_S.rf
  have hl := lv_entry ([.ref h0, .int x]) (n := 3) (Nat.le_of_ble_eq_true rfl)
  rw [lg_entry_eq]
  generalize (lg_sl ([.ref h0, .int x]) ++ List.replicate (3 - (lg_sl ([.ref h0, .int x])).length) Slot.unset).toArray = ls at hl ⊢
  have hl : lv_has ls 3 [(0, .ref h0), (1, .int x)] := hl
  have S0 : CallFix p m cd cX0_init 3 s _ wsX0_init RX0 := ⟨hx, hb, hml, hown, hts⟩
  have hin : ∀ w ∈ wsX00, w ∈ wsX0_init := fun _ h => List.mem_cons_of_mem _ (List.mem_append_right _ h)
  refine lv_aload_n hx hb dX0_init_0 rfl (lv_at hl 0 rfl) ?_
  refine W.objInit hx hb hown (hts (.methodLink RX0 1 objectInit) (by decide +kernel)) (hts (.instanceMethod objectInit) (by decide +kernel)) (hts _ (List.mem_cons_of_mem _ (List.mem_append_left _ (List.mem_of_getElem? (i := 2) rfl)))) rfl (by rw [hml]; exact hl.1) rfl dX0_init_1 (Nat.le_of_ble_eq_true rfl) (Nat.le_of_ble_eq_true rfl) ?_
  refine W.eq (g2 := F0 m 4 ls []) rfl ?_
  refine lv_aload_n hx hb dX0_init_4 rfl (lv_at hl 0 rfl) ?_
  refine lv_iconst (v := 1) hx hb dX0_init_5 (by decide) ?_
  refine lv_bipush (v := 10) hx hb dX0_init_6 (by decide) ?_
  refine lv_iload_n hx hb dX0_init_8 rfl (lv_at hl 1 rfl) ?_
  refine va_mmin hx hb (hml.trans hl.1.symm) hown (hts (.methodLink RX0 9 Lib.Math.min.name) (by decide +kernel)) (hts (.static Lib.Math.min.name) (by decide +kernel)) (hts (.initialized "java/lang/Math") (by decide +kernel)) (hts (.code Lib.Math.min.name Lib.Math.min.code 2 (some .int)) (List.mem_cons_of_mem _ (List.mem_append_left _ (List.mem_of_getElem? (i := 6) rfl)))) (Nat.le_of_ble_eq_true rfl) (Nat.le_of_ble_eq_true rfl) (Nat.zero_le _) (Nat.zero_le _) dX0_init_9 ?_
  refine va_mmax hx hb (hml.trans hl.1.symm) hown (hts (.methodLink RX0 15 Lib.Math.max.name) (by decide +kernel)) (hts (.static Lib.Math.max.name) (by decide +kernel)) (hts (.initialized "java/lang/Math") (by decide +kernel)) (hts (.code Lib.Math.max.name Lib.Math.max.code 2 (some .int)) (List.mem_cons_of_mem _ (List.mem_append_left _ (List.mem_of_getElem? (i := 9) rfl)))) (Nat.le_of_ble_eq_true rfl) (Nat.le_of_ble_eq_true rfl) (Nat.zero_le _) (Nat.zero_le _) dX0_init_12 ?_
  refine xt_eq (cl_mm x) ?_
  obtain ⟨H, hH⟩ : ∃ H, H = s.heap := ⟨_, rfl⟩
  rw [← hH] at hP ⊢
  have hS : va_S A s.heap H [] := by rw [hH]; exact hS
  refine x0_putF (v := .int (nI (clampR x))) S0 hin hK hP hD hS hini 0 (by decide) (hts (.fieldLink RX0 18 "WireWays" "routers" "I") (by decide +kernel)) rfl rfl rfl rfl rfl (Nat.le_of_ble_eq_true rfl) dX0_init_15 (fun H locs hP hD hS => ?_)
  have hP : va_P D vwCl ([(h0, .inr (0, [.int (nI (clampR x)), .null, .null, .null, .null, .null, .int 0, .int 0]))]) H := hP
  have hD : va_D A ([(h0, .inr (0, [.int (nI (clampR x)), .null, .null, .null, .null, .null, .int 0, .int 0]))]) := hD
  refine lv_aload_n hx hb dX0_init_18 rfl (lv_at hl 0 rfl) ?_
  refine lv_bipush (v := 40) hx hb dX0_init_19 (by decide) ?_
  refine va_newa (atype := .int) (N' := 40) (a0 := (40, .inl z0)) (ty := .int) (n := 40) hx hb (hts (.arrayClass .int) (by decide +kernel)) rfl hK hP hD hS hA (fun cA => rfl) (by decide) (by decide) (Nat.le_of_ble_eq_true rfl) (Nat.le_of_ble_eq_true rfl) (Nat.le_of_ble_eq_true rfl) dX0_init_21 (fun q1 t1 H hK hP hD hS => ?_)
  have hP : va_P D vwCl ([(h0, .inr (0, [.int (nI (clampR x)), .null, .null, .null, .null, .null, .int 0, .int 0])), (q1, .inl (t1, 40, .inl z0))]) H := hP
  have hD : va_D A ([(h0, .inr (0, [.int (nI (clampR x)), .null, .null, .null, .null, .null, .int 0, .int 0])), (q1, .inl (t1, 40, .inl z0))]) := hD
  have hK : va_K D vwCl [(t1, .int)] s := hK
  refine W.widen (k := 1) (n := 40) (by decide) (by decide) ?_
  refine x0_putF (v := .ref q1) S0 hin hK hP hD hS hini 1 (by decide) (hts (.fieldLink RX0 22 "WireWays" "wireAt" "[I") (by decide +kernel)) rfl rfl rfl rfl rfl (Nat.le_of_ble_eq_true rfl) dX0_init_23 (fun H locs hP hD hS => ?_)
  have hP : va_P D vwCl ([(h0, .inr (0, [.int (nI (clampR x)), .ref q1, .null, .null, .null, .null, .int 0, .int 0])), (q1, .inl (t1, 40, .inl z0))]) H := hP
  have hD : va_D A ([(h0, .inr (0, [.int (nI (clampR x)), .ref q1, .null, .null, .null, .null, .int 0, .int 0])), (q1, .inl (t1, 40, .inl z0))]) := hD
  refine lv_aload_n hx hb dX0_init_26 rfl (lv_at hl 0 rfl) ?_
  refine lv_bipush (v := 40) hx hb dX0_init_27 (by decide) ?_
  refine va_newa (atype := .int) (N' := 40) (a0 := (40, .inl z0)) (ty := .int) (n := 40) hx hb (hts (.arrayClass .int) (by decide +kernel)) rfl hK hP hD hS hA (fun cA => rfl) (by decide) (by decide) (Nat.le_of_ble_eq_true rfl) (Nat.le_of_ble_eq_true rfl) (Nat.le_of_ble_eq_true rfl) dX0_init_29 (fun q2 t2 H hK hP hD hS => ?_)
  have hP : va_P D vwCl ([(h0, .inr (0, [.int (nI (clampR x)), .ref q1, .null, .null, .null, .null, .int 0, .int 0])), (q1, .inl (t1, 40, .inl z0)), (q2, .inl (t2, 40, .inl z0))]) H := hP
  have hD : va_D A ([(h0, .inr (0, [.int (nI (clampR x)), .ref q1, .null, .null, .null, .null, .int 0, .int 0])), (q1, .inl (t1, 40, .inl z0)), (q2, .inl (t2, 40, .inl z0))]) := hD
  have hK : va_K D vwCl [(t1, .int), (t2, .int)] s := hK
  refine W.widen (k := 2) (n := 80) (by decide) (by decide) ?_
  refine x0_putF (v := .ref q2) S0 hin hK hP hD hS hini 2 (by decide) (hts (.fieldLink RX0 26 "WireWays" "costAt" "[I") (by decide +kernel)) rfl rfl rfl rfl rfl (Nat.le_of_ble_eq_true rfl) dX0_init_31 (fun H locs hP hD hS => ?_)
  have hP : va_P D vwCl ([(h0, .inr (0, [.int (nI (clampR x)), .ref q1, .ref q2, .null, .null, .null, .int 0, .int 0])), (q1, .inl (t1, 40, .inl z0)), (q2, .inl (t2, 40, .inl z0))]) H := hP
  have hD : va_D A ([(h0, .inr (0, [.int (nI (clampR x)), .ref q1, .ref q2, .null, .null, .null, .int 0, .int 0])), (q1, .inl (t1, 40, .inl z0)), (q2, .inl (t2, 40, .inl z0))]) := hD
  refine lv_aload_n hx hb dX0_init_34 rfl (lv_at hl 0 rfl) ?_
  refine lv_bipush (v := 16) hx hb dX0_init_35 (by decide) ?_
  refine va_newa (atype := .boolean) (N' := 16) (a0 := (16, .inl z0)) (ty := .boolean) (n := 16) hx hb (hts (.arrayClass .boolean) (by decide +kernel)) rfl hK hP hD hS hA (fun cA => rfl) (by decide) (by decide) (Nat.le_of_ble_eq_true rfl) (Nat.le_of_ble_eq_true rfl) (Nat.le_of_ble_eq_true rfl) dX0_init_37 (fun q3 t3 H hK hP hD hS => ?_)
  have hP : va_P D vwCl ([(h0, .inr (0, [.int (nI (clampR x)), .ref q1, .ref q2, .null, .null, .null, .int 0, .int 0])), (q1, .inl (t1, 40, .inl z0)), (q2, .inl (t2, 40, .inl z0)), (q3, .inl (t3, 16, .inl z0))]) H := hP
  have hD : va_D A ([(h0, .inr (0, [.int (nI (clampR x)), .ref q1, .ref q2, .null, .null, .null, .int 0, .int 0])), (q1, .inl (t1, 40, .inl z0)), (q2, .inl (t2, 40, .inl z0)), (q3, .inl (t3, 16, .inl z0))]) := hD
  have hK : va_K D vwCl [(t1, .int), (t2, .int), (t3, .boolean)] s := hK
  refine W.widen (k := 3) (n := 96) (by decide) (by decide) ?_
  refine x0_putF (v := .ref q3) S0 hin hK hP hD hS hini 3 (by decide) (hts (.fieldLink RX0 29 "WireWays" "isCut" "[Z") (by decide +kernel)) rfl rfl rfl rfl rfl (Nat.le_of_ble_eq_true rfl) dX0_init_39 (fun H locs hP hD hS => ?_)
  have hP : va_P D vwCl ([(h0, .inr (0, [.int (nI (clampR x)), .ref q1, .ref q2, .ref q3, .null, .null, .int 0, .int 0])), (q1, .inl (t1, 40, .inl z0)), (q2, .inl (t2, 40, .inl z0)), (q3, .inl (t3, 16, .inl z0))]) H := hP
  have hD : va_D A ([(h0, .inr (0, [.int (nI (clampR x)), .ref q1, .ref q2, .ref q3, .null, .null, .int 0, .int 0])), (q1, .inl (t1, 40, .inl z0)), (q2, .inl (t2, 40, .inl z0)), (q3, .inl (t3, 16, .inl z0))]) := hD
  refine lv_aload_n hx hb dX0_init_42 rfl (lv_at hl 0 rfl) ?_
  refine lv_bipush (v := 10) hx hb dX0_init_43 (by decide) ?_
  refine va_newa (atype := .int) (N' := 10) (a0 := (10, .inl z0)) (ty := .int) (n := 10) hx hb (hts (.arrayClass .int) (by decide +kernel)) rfl hK hP hD hS hA (fun cA => rfl) (by decide) (by decide) (Nat.le_of_ble_eq_true rfl) (Nat.le_of_ble_eq_true rfl) (Nat.le_of_ble_eq_true rfl) dX0_init_45 (fun q4 t4 H hK hP hD hS => ?_)
  have hP : va_P D vwCl ([(h0, .inr (0, [.int (nI (clampR x)), .ref q1, .ref q2, .ref q3, .null, .null, .int 0, .int 0])), (q1, .inl (t1, 40, .inl z0)), (q2, .inl (t2, 40, .inl z0)), (q3, .inl (t3, 16, .inl z0)), (q4, .inl (t4, 10, .inl z0))]) H := hP
  have hD : va_D A ([(h0, .inr (0, [.int (nI (clampR x)), .ref q1, .ref q2, .ref q3, .null, .null, .int 0, .int 0])), (q1, .inl (t1, 40, .inl z0)), (q2, .inl (t2, 40, .inl z0)), (q3, .inl (t3, 16, .inl z0)), (q4, .inl (t4, 10, .inl z0))]) := hD
  have hK : va_K D vwCl [(t1, .int), (t2, .int), (t3, .boolean), (t4, .int)] s := hK
  refine W.widen (k := 4) (n := 106) (by decide) (by decide) ?_
  refine x0_putF (v := .ref q4) S0 hin hK hP hD hS hini 4 (by decide) (hts (.fieldLink RX0 33 "WireWays" "distance" "[I") (by decide +kernel)) rfl rfl rfl rfl rfl (Nat.le_of_ble_eq_true rfl) dX0_init_47 (fun H locs hP hD hS => ?_)
  have hP : va_P D vwCl ([(h0, .inr (0, [.int (nI (clampR x)), .ref q1, .ref q2, .ref q3, .ref q4, .null, .int 0, .int 0])), (q1, .inl (t1, 40, .inl z0)), (q2, .inl (t2, 40, .inl z0)), (q3, .inl (t3, 16, .inl z0)), (q4, .inl (t4, 10, .inl z0))]) H := hP
  have hD : va_D A ([(h0, .inr (0, [.int (nI (clampR x)), .ref q1, .ref q2, .ref q3, .ref q4, .null, .int 0, .int 0])), (q1, .inl (t1, 40, .inl z0)), (q2, .inl (t2, 40, .inl z0)), (q3, .inl (t3, 16, .inl z0)), (q4, .inl (t4, 10, .inl z0))]) := hD
  refine lv_aload_n hx hb dX0_init_50 rfl (lv_at hl 0 rfl) ?_
  refine lv_bipush (v := 16) hx hb dX0_init_51 (by decide) ?_
  refine va_newa (atype := .int) (N' := 16) (a0 := (16, .inl z0)) (ty := .int) (n := 16) hx hb (hts (.arrayClass .int) (by decide +kernel)) rfl hK hP hD hS hA (fun cA => rfl) (by decide) (by decide) (Nat.le_of_ble_eq_true rfl) (Nat.le_of_ble_eq_true rfl) (Nat.le_of_ble_eq_true rfl) dX0_init_53 (fun q5 t5 H hK hP hD hS => ?_)
  have hP : va_P D vwCl ([(h0, .inr (0, [.int (nI (clampR x)), .ref q1, .ref q2, .ref q3, .ref q4, .null, .int 0, .int 0])), (q1, .inl (t1, 40, .inl z0)), (q2, .inl (t2, 40, .inl z0)), (q3, .inl (t3, 16, .inl z0)), (q4, .inl (t4, 10, .inl z0)), (q5, .inl (t5, 16, .inl z0))]) H := hP
  have hD : va_D A ([(h0, .inr (0, [.int (nI (clampR x)), .ref q1, .ref q2, .ref q3, .ref q4, .null, .int 0, .int 0])), (q1, .inl (t1, 40, .inl z0)), (q2, .inl (t2, 40, .inl z0)), (q3, .inl (t3, 16, .inl z0)), (q4, .inl (t4, 10, .inl z0)), (q5, .inl (t5, 16, .inl z0))]) := hD
  have hK : va_K D vwCl [(t1, .int), (t2, .int), (t3, .boolean), (t4, .int), (t5, .int)] s := hK
  refine W.widen (k := 5) (n := 122) (by decide) (by decide) ?_
  refine x0_putF (v := .ref q5) S0 hin hK hP hD hS hini 5 (by decide) (hts (.fieldLink RX0 36 "WireWays" "nearest" "[I") (by decide +kernel)) rfl rfl rfl rfl rfl (Nat.le_of_ble_eq_true rfl) dX0_init_55 (fun H locs hP hD hS => ?_)
  have hP : va_P D vwCl ([(h0, .inr (0, [.int (nI (clampR x)), .ref q1, .ref q2, .ref q3, .ref q4, .ref q5, .int 0, .int 0])), (q1, .inl (t1, 40, .inl z0)), (q2, .inl (t2, 40, .inl z0)), (q3, .inl (t3, 16, .inl z0)), (q4, .inl (t4, 10, .inl z0)), (q5, .inl (t5, 16, .inl z0))]) H := hP
  have hD : va_D A ([(h0, .inr (0, [.int (nI (clampR x)), .ref q1, .ref q2, .ref q3, .ref q4, .ref q5, .int 0, .int 0])), (q1, .inl (t1, 40, .inl z0)), (q2, .inl (t2, 40, .inl z0)), (q3, .inl (t3, 16, .inl z0)), (q4, .inl (t4, 10, .inl z0)), (q5, .inl (t5, 16, .inl z0))]) := hD
  refine lv_aload_n hx hb dX0_init_58 rfl (lv_at hl 0 rfl) ?_
  refine lv_iconst (v := -1) hx hb dX0_init_59 (by decide) ?_
  refine x0_put (v := .int (-1)) S0 hin hK hP hD hS 6 (by decide) (hts (.fieldLink RX0 39 "WireWays" "wayPort" "I") (by decide +kernel)) rfl rfl rfl rfl rfl (Nat.le_of_ble_eq_true rfl) dX0_init_60 (fun H locs hP hD hS => ?_)
  have hP : va_P D vwCl ([(h0, .inr (0, [.int (nI (clampR x)), .ref q1, .ref q2, .ref q3, .ref q4, .ref q5, .int (-1), .int 0])), (q1, .inl (t1, 40, .inl z0)), (q2, .inl (t2, 40, .inl z0)), (q3, .inl (t3, 16, .inl z0)), (q4, .inl (t4, 10, .inl z0)), (q5, .inl (t5, 16, .inl z0))]) H := hP
  have hD : va_D A ([(h0, .inr (0, [.int (nI (clampR x)), .ref q1, .ref q2, .ref q3, .ref q4, .ref q5, .int (-1), .int 0])), (q1, .inl (t1, 40, .inl z0)), (q2, .inl (t2, 40, .inl z0)), (q3, .inl (t3, 16, .inl z0)), (q4, .inl (t4, 10, .inl z0)), (q5, .inl (t5, 16, .inl z0))]) := hD
  refine lv_aload_n hx hb dX0_init_63 rfl (lv_at hl 0 rfl) ?_
  refine lv_iconst (v := -1) hx hb dX0_init_64 (by decide) ?_
  refine x0_put (v := .int (-1)) S0 hin hK hP hD hS 7 (by decide) (hts (.fieldLink RX0 42 "WireWays" "wayRouter" "I") (by decide +kernel)) rfl rfl rfl rfl rfl (Nat.le_of_ble_eq_true rfl) dX0_init_65 (fun H locs hP hD hS => ?_)
  have hP : va_P D vwCl ([(h0, .inr (0, [.int (nI (clampR x)), .ref q1, .ref q2, .ref q3, .ref q4, .ref q5, .int (-1), .int (-1)])), (q1, .inl (t1, 40, .inl z0)), (q2, .inl (t2, 40, .inl z0)), (q3, .inl (t3, 16, .inl z0)), (q4, .inl (t4, 10, .inl z0)), (q5, .inl (t5, 16, .inl z0))]) H := hP
  have hD : va_D A ([(h0, .inr (0, [.int (nI (clampR x)), .ref q1, .ref q2, .ref q3, .ref q4, .ref q5, .int (-1), .int (-1)])), (q1, .inl (t1, 40, .inl z0)), (q2, .inl (t2, 40, .inl z0)), (q3, .inl (t3, 16, .inl z0)), (q4, .inl (t4, 10, .inl z0)), (q5, .inl (t5, 16, .inl z0))]) := hD
  have f_wireAt := hts (.fieldLink RX0 22 "WireWays" "wireAt" "[I") (by decide +kernel)
  obtain ⟨R, hRe⟩ : ∃ R : Nat, R = clampR x := ⟨_, rfl⟩
  rw [← hRe] at hP hD ⊢
  obtain ⟨ad, rfl, rfl, rfl, rfl, rfl, rfl⟩ : ∃ ad : Nat → Nat, ad 0 = h0 ∧ ad 1 = q1 ∧ ad 2 = q2 ∧ ad 3 = q3 ∧ ad 4 = q4 ∧ ad 5 = q5 := ⟨fun k => match k with | 0 => h0 | 1 => q1 | 2 => q2 | 3 => q3 | 4 => q4 | _ => q5, rfl, rfl, rfl, rfl, rfl, rfl⟩
  obtain ⟨tt, rfl, rfl, rfl, rfl, rfl⟩ : ∃ tt : Nat → ClassId, tt 1 = t1 ∧ tt 2 = t2 ∧ tt 3 = t3 ∧ tt 4 = t4 ∧ tt 5 = t5 := ⟨fun k => match k with | 1 => t1 | 2 => t2 | 3 => t3 | 4 => t4 | _ => t5, rfl, rfl, rfl, rfl, rfl⟩
  have hP : va_P D vwCl (xw ad tt R z0 z0 z0 z0 z0 (-1) (-1)) H := hP
  have hD : va_D A (xw ad tt R z0 z0 z0 z0 z0 (-1) (-1)) := hD
  have hK : va_K D vwCl (tyX tt) s := hK
  refine lv_iconst (v := 0) hx hb dX0_init_68 (by decide) ?_
  refine lv_istore_n (lv' := [(2, .int 0), (0, .ref (ad 0)), (1, .int x)]) hx hb dX0_init_69 rfl hl (by decide) rfl (fun ls hl => ?_)
  have lp70 : ∀ (fuel : Nat) (a : Nat) (w1 : Nat → Int32), (a ≤ 40) → (∀ j, j < a → w1 j = -1) → 40 - a < fuel → ∀ (H : Heap) (locs : List Loc) (ls : Array Slot), va_P D vwCl (xw ad tt R w1 z0 z0 z0 z0 (-1) (-1)) H → va_D A (xw ad tt R w1 z0 z0 z0 z0 (-1) (-1)) → va_S A s.heap H locs → lv_has ls 3 [(2, .int (nI a)), (0, .ref (ad 0)), (1, .int x)] → W p l e (headSpec wsX0_init ({ frames := 1, cells := 5, slots := 122, locals := 20 } : Room)).room s m ([.ref (ad 0), .int x] : List Value).toArray below meth cd H locs 5 122 (MQ below (va_Qv (fun u => u.1 0 = ad 0) (xBI D A R) A) ([.ref (ad 0), .int x] : List Value).toArray s 5 122 A) (F0 m 70 ls []) := by
    intro fuel
    induction fuel with
    | zero => intro a w1 ha0 hw1 hm; exact absurd hm (Nat.not_lt_zero _)
    | succ fuel ih70 =>
      intro a w1 ha0 hw1 hm H locs ls hP hD hS hl
      refine lv_iload_n hx hb dX0_init_70 rfl (lv_at hl 0 rfl) ?_
      refine lv_aload_n hx hb dX0_init_71 rfl (lv_at hl 1 rfl) ?_
      refine x0_get (v := .ref (ad 1)) S0 hin hK hP 1 (by decide) f_wireAt rfl rfl dX0_init_72 ?_
      refine va_alen (v := 40) hx hb hK hP 1 0 rfl rfl rfl dX0_init_75 ?_
      refine lv_icmp_ge (tgt := 92) hx hb dX0_init_76 (by decide) (fun c_1 => ?_) (fun c_1 => ?_)
      · have ha4 : 40 ≤ a := (nI_leI (a := 40) (by omega) (by omega)).mp c_1
        have hP := xw_w (w' := w0) hP (fun j h => hw1 j (by omega))
        have hD := xw_Dw (w' := w0) hD
        exact W.vret hx hb hr (fun t ht hW => ⟨⟨(ad, tt), rfl, rfl, by rw [ht]; exact hP, va_K.moved hW.alike hK, hD⟩, hS.F ht⟩) hS.2.2 dX0_init_92 hlocks
      · have ha4 : a < 40 := Nat.lt_of_not_le (fun h => c_1 (nI_le (a := 40) h (by omega)))
        refine lv_aload_n hx hb dX0_init_79 rfl (lv_at hl 1 rfl) ?_
        refine x0_get (v := .ref (ad 1)) S0 hin hK hP 1 (by decide) f_wireAt rfl rfl dX0_init_80 ?_
        refine lv_iload_n hx hb dX0_init_83 rfl (lv_at hl 0 rfl) ?_
        refine lv_iconst (v := (-1)) hx hb dX0_init_84 (by decide) ?_
        refine va_iast hx hb hK hP hD hS 1 0 rfl rfl (vp_in_nI (by omega) (by omega)) dX0_init_85 (fun H locs hP hD hS => ?_)
        rw [(nI_clamp (by omega))] at hP hD
        have hP : va_P D vwCl (xw ad tt R (upd w1 a (-1)) z0 z0 z0 z0 (-1) (-1)) H := hP
        have hD : va_D A (xw ad tt R (upd w1 a (-1)) z0 z0 z0 z0 (-1) (-1)) := hD
        refine lv_iinc (v := nI (a + 1)) (lv' := [(2, .int (nI (a + 1))), (0, .ref (ad 0)), (1, .int x)]) hx hb dX0_init_86 hl (k := 0) rfl (nI_1 a) (by decide) rfl (fun ls hl => ?_)
        refine lv_goto (tgt := 70) hx hb dX0_init_89 (by decide) ?_
        exact ih70 (a + 1) (upd w1 a (-1)) (by omega) (up_all hw1) (by omega) H locs ls hP hD hS (lv_sub hl [0, 1, 2] rfl)
  exact lp70 _ 0 z0 (by omega) (fun j h => absurd h (Nat.not_lt_zero j)) (Nat.lt_succ_self _) H locs ls hP hD hS (lv_sub hl [0, 1, 2] rfl)
set_option maxHeartbeats 4000000 in
set_option maxRecDepth 100000 in
theorem k_X1_init (l : Launch) (D : va_G) (h0 : Nat) (x : Int32) (sz : Nat) : Met l yX1_init wsX1_init { frames := 1, cells := 4, slots := 106, locals := 20 } (va_Pc [.ref h0, .int x] (xPre D [] [(h0, .inr (1, [.int 0, .null, .null, .null, .null, .int 0, .int 0]))] sz)) (va_Qv (fun u => u.1 0 = h0) (mBI D (va_A [(h0, .inr (1, [.int 0, .null, .null, .null, .null, .int 0, .int 0]))] sz) (clampR x)) (va_A [(h0, .inr (1, [.int 0, .null, .null, .null, .null, .int 0, .int 0]))] sz)) 4 106 (va_A [(h0, .inr (1, [.int 0, .null, .null, .null, .null, .int 0, .int 0]))] sz) := by
  refine Met.ofW (cc := cX1_init) (maxL := 3) (ret := none) (by decide) rfl ?_
  intro p e s m args below meth cd s₁ B hml hv
  obtain ⟨rfl, hsz, hP, hK, hD0⟩ := hv
  have hx := B.exec
  have hb := B.bytes
  have hr := B.returns
  have hts := atoms_spec (ws := wsX1_init) B.pre
  have hown : s.vm.findClass RX1 = some m.cls := findClass_of_methodNamed B.named
  have hlocks := B.notSynchronized
  have hini : meth.name = "<init>" := (name_of_methodNamed B.named B.method).1
  subst hsz
  have hD := hD0.self (sz := s.heap.size)
  generalize hAe : va_A [(h0, .inr (1, [.int 0, .null, .null, .null, .null, .int 0, .int 0]))] s.heap.size = A at hD ⊢
  have hA : ∀ q : Nat, s.heap.size ≤ q → A q := fun q h => by rw [← hAe]; exact Or.inr h
  have hS : va_S A s.heap s.heap [] := va_S.rf
  have hl := lv_entry ([.ref h0, .int x]) (n := 3) (Nat.le_of_ble_eq_true rfl)
  rw [lg_entry_eq]
  generalize (lg_sl ([.ref h0, .int x]) ++ List.replicate (3 - (lg_sl ([.ref h0, .int x])).length) Slot.unset).toArray = ls at hl ⊢
  have hl : lv_has ls 3 [(0, .ref h0), (1, .int x)] := hl
  have S0 : CallFix p m cd cX1_init 3 s _ wsX1_init RX1 := ⟨hx, hb, hml, hown, hts⟩
  have hin : ∀ w ∈ wsX10, w ∈ wsX1_init := fun _ h => List.mem_cons_of_mem _ (List.mem_append_right _ h)
  refine lv_aload_n hx hb dX1_init_0 rfl (lv_at hl 0 rfl) ?_
  refine W.objInit hx hb hown (hts (.methodLink RX1 1 objectInit) (by decide +kernel)) (hts (.instanceMethod objectInit) (by decide +kernel)) (hts _ (List.mem_cons_of_mem _ (List.mem_append_left _ (List.mem_of_getElem? (i := 2) rfl)))) rfl (by rw [hml]; exact hl.1) rfl dX1_init_1 (Nat.le_of_ble_eq_true rfl) (Nat.le_of_ble_eq_true rfl) ?_
  refine W.eq (g2 := F0 m 4 ls []) rfl ?_
  obtain ⟨H, hH⟩ : ∃ H, H = s.heap := ⟨_, rfl⟩
  rw [← hH] at hP ⊢
  have hS : va_S A s.heap H [] := by rw [hH]; exact hS
  refine lv_aload_n hx hb dX1_init_4 rfl (lv_at hl 0 rfl) ?_
  refine lv_bipush (v := 40) hx hb dX1_init_5 (by decide) ?_
  refine va_newa (atype := .int) (N' := 40) (a0 := (40, .inl z0)) (ty := .int) (n := 40) hx hb (hts (.arrayClass .int) (by decide +kernel)) rfl hK hP hD hS hA (fun cA => rfl) (by decide) (by decide) (Nat.le_of_ble_eq_true rfl) (Nat.le_of_ble_eq_true rfl) (Nat.le_of_ble_eq_true rfl) dX1_init_7 (fun q1 t1 H hK hP hD hS => ?_)
  have hP : va_P D vwCl ([(h0, .inr (1, [.int 0, .null, .null, .null, .null, .int 0, .int 0])), (q1, .inl (t1, 40, .inl z0))]) H := hP
  have hD : va_D A ([(h0, .inr (1, [.int 0, .null, .null, .null, .null, .int 0, .int 0])), (q1, .inl (t1, 40, .inl z0))]) := hD
  have hK : va_K D vwCl [(t1, .int)] s := hK
  refine W.widen (k := 1) (n := 40) (by decide) (by decide) ?_
  refine x1_putF (v := .ref q1) S0 hin hK hP hD hS hini 1 (by decide) (hts (.fieldLink RX1 7 "WireWaysModel" "wireOf" "[I") (by decide +kernel)) rfl rfl rfl rfl rfl (Nat.le_of_ble_eq_true rfl) dX1_init_9 (fun H locs hP hD hS => ?_)
  have hP : va_P D vwCl ([(h0, .inr (1, [.int 0, .ref q1, .null, .null, .null, .int 0, .int 0])), (q1, .inl (t1, 40, .inl z0))]) H := hP
  have hD : va_D A ([(h0, .inr (1, [.int 0, .ref q1, .null, .null, .null, .int 0, .int 0])), (q1, .inl (t1, 40, .inl z0))]) := hD
  refine lv_aload_n hx hb dX1_init_12 rfl (lv_at hl 0 rfl) ?_
  refine lv_bipush (v := 40) hx hb dX1_init_13 (by decide) ?_
  refine va_newa (atype := .int) (N' := 40) (a0 := (40, .inl z0)) (ty := .int) (n := 40) hx hb (hts (.arrayClass .int) (by decide +kernel)) rfl hK hP hD hS hA (fun cA => rfl) (by decide) (by decide) (Nat.le_of_ble_eq_true rfl) (Nat.le_of_ble_eq_true rfl) (Nat.le_of_ble_eq_true rfl) dX1_init_15 (fun q2 t2 H hK hP hD hS => ?_)
  have hP : va_P D vwCl ([(h0, .inr (1, [.int 0, .ref q1, .null, .null, .null, .int 0, .int 0])), (q1, .inl (t1, 40, .inl z0)), (q2, .inl (t2, 40, .inl z0))]) H := hP
  have hD : va_D A ([(h0, .inr (1, [.int 0, .ref q1, .null, .null, .null, .int 0, .int 0])), (q1, .inl (t1, 40, .inl z0)), (q2, .inl (t2, 40, .inl z0))]) := hD
  have hK : va_K D vwCl [(t1, .int), (t2, .int)] s := hK
  refine W.widen (k := 2) (n := 80) (by decide) (by decide) ?_
  refine x1_putF (v := .ref q2) S0 hin hK hP hD hS hini 2 (by decide) (hts (.fieldLink RX1 13 "WireWaysModel" "costOf" "[I") (by decide +kernel)) rfl rfl rfl rfl rfl (Nat.le_of_ble_eq_true rfl) dX1_init_17 (fun H locs hP hD hS => ?_)
  have hP : va_P D vwCl ([(h0, .inr (1, [.int 0, .ref q1, .ref q2, .null, .null, .int 0, .int 0])), (q1, .inl (t1, 40, .inl z0)), (q2, .inl (t2, 40, .inl z0))]) H := hP
  have hD : va_D A ([(h0, .inr (1, [.int 0, .ref q1, .ref q2, .null, .null, .int 0, .int 0])), (q1, .inl (t1, 40, .inl z0)), (q2, .inl (t2, 40, .inl z0))]) := hD
  refine lv_aload_n hx hb dX1_init_20 rfl (lv_at hl 0 rfl) ?_
  refine lv_bipush (v := 16) hx hb dX1_init_21 (by decide) ?_
  refine va_newa (atype := .boolean) (N' := 16) (a0 := (16, .inl z0)) (ty := .boolean) (n := 16) hx hb (hts (.arrayClass .boolean) (by decide +kernel)) rfl hK hP hD hS hA (fun cA => rfl) (by decide) (by decide) (Nat.le_of_ble_eq_true rfl) (Nat.le_of_ble_eq_true rfl) (Nat.le_of_ble_eq_true rfl) dX1_init_23 (fun q3 t3 H hK hP hD hS => ?_)
  have hP : va_P D vwCl ([(h0, .inr (1, [.int 0, .ref q1, .ref q2, .null, .null, .int 0, .int 0])), (q1, .inl (t1, 40, .inl z0)), (q2, .inl (t2, 40, .inl z0)), (q3, .inl (t3, 16, .inl z0))]) H := hP
  have hD : va_D A ([(h0, .inr (1, [.int 0, .ref q1, .ref q2, .null, .null, .int 0, .int 0])), (q1, .inl (t1, 40, .inl z0)), (q2, .inl (t2, 40, .inl z0)), (q3, .inl (t3, 16, .inl z0))]) := hD
  have hK : va_K D vwCl [(t1, .int), (t2, .int), (t3, .boolean)] s := hK
  refine W.widen (k := 3) (n := 96) (by decide) (by decide) ?_
  refine x1_putF (v := .ref q3) S0 hin hK hP hD hS hini 3 (by decide) (hts (.fieldLink RX1 16 "WireWaysModel" "isCut" "[Z") (by decide +kernel)) rfl rfl rfl rfl rfl (Nat.le_of_ble_eq_true rfl) dX1_init_25 (fun H locs hP hD hS => ?_)
  have hP : va_P D vwCl ([(h0, .inr (1, [.int 0, .ref q1, .ref q2, .ref q3, .null, .int 0, .int 0])), (q1, .inl (t1, 40, .inl z0)), (q2, .inl (t2, 40, .inl z0)), (q3, .inl (t3, 16, .inl z0))]) H := hP
  have hD : va_D A ([(h0, .inr (1, [.int 0, .ref q1, .ref q2, .ref q3, .null, .int 0, .int 0])), (q1, .inl (t1, 40, .inl z0)), (q2, .inl (t2, 40, .inl z0)), (q3, .inl (t3, 16, .inl z0))]) := hD
  refine lv_aload_n hx hb dX1_init_28 rfl (lv_at hl 0 rfl) ?_
  refine lv_bipush (v := 10) hx hb dX1_init_29 (by decide) ?_
  refine va_newa (atype := .int) (N' := 10) (a0 := (10, .inl z0)) (ty := .int) (n := 10) hx hb (hts (.arrayClass .int) (by decide +kernel)) rfl hK hP hD hS hA (fun cA => rfl) (by decide) (by decide) (Nat.le_of_ble_eq_true rfl) (Nat.le_of_ble_eq_true rfl) (Nat.le_of_ble_eq_true rfl) dX1_init_31 (fun q4 t4 H hK hP hD hS => ?_)
  have hP : va_P D vwCl ([(h0, .inr (1, [.int 0, .ref q1, .ref q2, .ref q3, .null, .int 0, .int 0])), (q1, .inl (t1, 40, .inl z0)), (q2, .inl (t2, 40, .inl z0)), (q3, .inl (t3, 16, .inl z0)), (q4, .inl (t4, 10, .inl z0))]) H := hP
  have hD : va_D A ([(h0, .inr (1, [.int 0, .ref q1, .ref q2, .ref q3, .null, .int 0, .int 0])), (q1, .inl (t1, 40, .inl z0)), (q2, .inl (t2, 40, .inl z0)), (q3, .inl (t3, 16, .inl z0)), (q4, .inl (t4, 10, .inl z0))]) := hD
  have hK : va_K D vwCl [(t1, .int), (t2, .int), (t3, .boolean), (t4, .int)] s := hK
  refine W.widen (k := 4) (n := 106) (by decide) (by decide) ?_
  refine x1_putF (v := .ref q4) S0 hin hK hP hD hS hini 4 (by decide) (hts (.fieldLink RX1 20 "WireWaysModel" "distance" "[I") (by decide +kernel)) rfl rfl rfl rfl rfl (Nat.le_of_ble_eq_true rfl) dX1_init_33 (fun H locs hP hD hS => ?_)
  have hP : va_P D vwCl ([(h0, .inr (1, [.int 0, .ref q1, .ref q2, .ref q3, .ref q4, .int 0, .int 0])), (q1, .inl (t1, 40, .inl z0)), (q2, .inl (t2, 40, .inl z0)), (q3, .inl (t3, 16, .inl z0)), (q4, .inl (t4, 10, .inl z0))]) H := hP
  have hD : va_D A ([(h0, .inr (1, [.int 0, .ref q1, .ref q2, .ref q3, .ref q4, .int 0, .int 0])), (q1, .inl (t1, 40, .inl z0)), (q2, .inl (t2, 40, .inl z0)), (q3, .inl (t3, 16, .inl z0)), (q4, .inl (t4, 10, .inl z0))]) := hD
  refine lv_aload_n hx hb dX1_init_36 rfl (lv_at hl 0 rfl) ?_
  refine lv_iload_n hx hb dX1_init_37 rfl (lv_at hl 1 rfl) ?_
  refine lv_iconst (v := 1) hx hb dX1_init_38 (by decide) ?_
  have go : ∀ (v : Int32), v = nI (clampR x) → W p l e (headSpec wsX1_init ({ frames := 1, cells := 4, slots := 106, locals := 20 } : Room)).room s m ([.ref h0, .int x] : List Value).toArray below meth cd H locs 4 106 (MQ below (va_Qv (fun u => u.1 0 = h0) (mBI D A (clampR x)) A) ([.ref h0, .int x] : List Value).toArray s 4 106 A) (F0 m 58 ls [.int v, .ref h0]) := by
    intro v hv
    subst hv
    refine x1_putF (v := .int (nI (clampR x))) S0 hin hK hP hD hS hini 0 (by decide) (hts (.fieldLink RX1 23 "WireWaysModel" "routers" "I") (by decide +kernel)) rfl rfl rfl rfl rfl (Nat.le_of_ble_eq_true rfl) dX1_init_58 (fun H locs hP hD hS => ?_)
    have hP : va_P D vwCl ([(h0, .inr (1, [.int (nI (clampR x)), .ref q1, .ref q2, .ref q3, .ref q4, .int 0, .int 0])), (q1, .inl (t1, 40, .inl z0)), (q2, .inl (t2, 40, .inl z0)), (q3, .inl (t3, 16, .inl z0)), (q4, .inl (t4, 10, .inl z0))]) H := hP
    have hD : va_D A ([(h0, .inr (1, [.int (nI (clampR x)), .ref q1, .ref q2, .ref q3, .ref q4, .int 0, .int 0])), (q1, .inl (t1, 40, .inl z0)), (q2, .inl (t2, 40, .inl z0)), (q3, .inl (t3, 16, .inl z0)), (q4, .inl (t4, 10, .inl z0))]) := hD
    have f_wireOf := hts (.fieldLink RX1 7 "WireWaysModel" "wireOf" "[I") (by decide +kernel)
    obtain ⟨R, hRe⟩ : ∃ R : Nat, R = clampR x := ⟨_, rfl⟩
    rw [← hRe] at hP hD ⊢
    obtain ⟨ad, rfl, rfl, rfl, rfl, rfl⟩ : ∃ ad : Nat → Nat, ad 0 = h0 ∧ ad 1 = q1 ∧ ad 2 = q2 ∧ ad 3 = q3 ∧ ad 4 = q4 := ⟨fun k => match k with | 0 => h0 | 1 => q1 | 2 => q2 | 3 => q3 | _ => q4, rfl, rfl, rfl, rfl, rfl⟩
    obtain ⟨tt, rfl, rfl, rfl, rfl⟩ : ∃ tt : Nat → ClassId, tt 1 = t1 ∧ tt 2 = t2 ∧ tt 3 = t3 ∧ tt 4 = t4 := ⟨fun k => match k with | 1 => t1 | 2 => t2 | 3 => t3 | _ => t4, rfl, rfl, rfl, rfl⟩
    have hP : va_P D vwCl (mw ad tt R z0 z0 z0 z0 0 0) H := hP
    have hD : va_D A (mw ad tt R z0 z0 z0 z0 0 0) := hD
    have hK : va_K D vwCl (tyM tt) s := hK
    refine lv_iconst (v := 0) hx hb dX1_init_61 (by decide) ?_
    refine lv_istore_n (lv' := [(2, .int 0), (0, .ref (ad 0)), (1, .int x)]) hx hb dX1_init_62 rfl hl (by decide) rfl (fun ls hl => ?_)
    have lp63 : ∀ (fuel : Nat) (a : Nat) (w1 : Nat → Int32), (a ≤ 40) → (∀ j, j < a → w1 j = -1) → 40 - a < fuel → ∀ (H : Heap) (locs : List Loc) (ls : Array Slot), va_P D vwCl (mw ad tt R w1 z0 z0 z0 0 0) H → va_D A (mw ad tt R w1 z0 z0 z0 0 0) → va_S A s.heap H locs → lv_has ls 3 [(2, .int (nI a)), (0, .ref (ad 0)), (1, .int x)] → W p l e (headSpec wsX1_init ({ frames := 1, cells := 4, slots := 106, locals := 20 } : Room)).room s m ([.ref (ad 0), .int x] : List Value).toArray below meth cd H locs 4 106 (MQ below (va_Qv (fun u => u.1 0 = ad 0) (mBI D A R) A) ([.ref (ad 0), .int x] : List Value).toArray s 4 106 A) (F0 m 63 ls []) := by
      intro fuel
      induction fuel with
      | zero => intro a w1 ha0 hw1 hm; exact absurd hm (Nat.not_lt_zero _)
      | succ fuel ih63 =>
        intro a w1 ha0 hw1 hm H locs ls hP hD hS hl
        refine lv_iload_n hx hb dX1_init_63 rfl (lv_at hl 0 rfl) ?_
        refine lv_bipush (v := 40) hx hb dX1_init_64 (by decide) ?_
        refine lv_icmp_ge (tgt := 82) hx hb dX1_init_66 (by decide) (fun c_1 => ?_) (fun c_1 => ?_)
        · have ha4 : 40 ≤ a := (nI_leI (a := 40) (by omega) (by omega)).mp c_1
          have hP := mw_w (w' := w0) hP (fun j h => hw1 j (by omega))
          have hD := mw_Dw (w' := w0) hD
          exact W.vret hx hb hr (fun t ht hW => ⟨⟨(ad, tt), rfl, rfl, by rw [ht]; exact hP, va_K.moved hW.alike hK, hD⟩, hS.F ht⟩) hS.2.2 dX1_init_82 hlocks
        · have ha4 : a < 40 := Nat.lt_of_not_le (fun h => c_1 (nI_le (a := 40) h (by omega)))
          refine lv_aload_n hx hb dX1_init_69 rfl (lv_at hl 1 rfl) ?_
          refine x1_get (v := .ref (ad 1)) S0 hin hK hP 1 (by decide) f_wireOf rfl rfl dX1_init_70 ?_
          refine lv_iload_n hx hb dX1_init_73 rfl (lv_at hl 0 rfl) ?_
          refine lv_iconst (v := (-1)) hx hb dX1_init_74 (by decide) ?_
          refine va_iast hx hb hK hP hD hS 1 0 rfl rfl (vp_in_nI (by omega) (by omega)) dX1_init_75 (fun H locs hP hD hS => ?_)
          rw [(nI_clamp (by omega))] at hP hD
          have hP : va_P D vwCl (mw ad tt R (upd w1 a (-1)) z0 z0 z0 0 0) H := hP
          have hD : va_D A (mw ad tt R (upd w1 a (-1)) z0 z0 z0 0 0) := hD
          refine lv_iinc (v := nI (a + 1)) (lv' := [(2, .int (nI (a + 1))), (0, .ref (ad 0)), (1, .int x)]) hx hb dX1_init_76 hl (k := 0) rfl (nI_1 a) (by decide) rfl (fun ls hl => ?_)
          refine lv_goto (tgt := 63) hx hb dX1_init_79 (by decide) ?_
          exact ih63 (a + 1) (upd w1 a (-1)) (by omega) (up_all hw1) (by omega) H locs ls hP hD hS (lv_sub hl [0, 1, 2] rfl)
    exact lp63 _ 0 z0 (by omega) (fun j h => absurd h (Nat.not_lt_zero j)) (Nat.lt_succ_self _) H locs ls hP hD hS (lv_sub hl [0, 1, 2] rfl)
  refine lv_icmp_ge (tgt := 46) hx hb dX1_init_39 (by decide) (fun c1 => ?_) (fun c1 => ?_)
  · refine lv_iload_n hx hb dX1_init_46 rfl (lv_at hl 1 rfl) ?_
    refine lv_bipush (v := 10) hx hb dX1_init_47 (by decide) ?_
    refine lv_icmp_le (tgt := 57) hx hb dX1_init_49 (by decide) (fun c2 => ?_) (fun c2 => ?_)
    · refine lv_iload_n hx hb dX1_init_57 rfl (lv_at hl 1 rfl) ?_
      exact go _ (cl_3 c1 c2)
    · refine lv_bipush (v := 10) hx hb dX1_init_52 (by decide) ?_
      refine lv_goto (tgt := 58) hx hb dX1_init_54 (by decide) ?_
      exact go _ (cl_2 c1 c2)
  · refine lv_iconst (v := 1) hx hb dX1_init_42 (by decide) ?_
    refine lv_goto (tgt := 58) hx hb dX1_init_43 (by decide) ?_
    exact go _ (cl_1 c1)
