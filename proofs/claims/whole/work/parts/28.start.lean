set_option maxHeartbeats 8000000 in
set_option maxRecDepth 100000 in
/-- the law, from its entry -/
theorem whole_start {p : Program} {e : Env} {s : State} {m : MethodId} {below : List Frame} {meth : Method} {c : Code} (l : Launch) {b L : Nat} {xs : Nat → Int32} (hL : L ≤ 2561) (C0 : lw_At p s m meth c b L xs) : W p l e room_1 s m #[Value.ref b] below meth c s.heap [] 0 0 (lw_Z below #[Value.ref b] s) (entryFrame m ([Value.ref b] : List Value).toArray 4) := by
  obtain ⟨hx, hb, hr, hml, hown, hts, hX, hbl, hlocks, hgv⟩ := id C0
  have hts : ∀ w ∈ wsL_law, w.before #[Value.ref b] s = true := fun w h => hts w (wsL_law_in w h)
  have hA : ∀ q : Nat, s.heap.size ≤ q → (fun q : Nat => s.heap.size ≤ q) q := fun _ h => h
  have hbA : ¬ (fun q : Nat => s.heap.size ≤ q) b := Nat.not_le.mpr hbl
  have hown : s.vm.findClass RL = some m.cls := hown
  have S0 : CallFix p m c cL_law 4 s #[Value.ref b] wsL_law RL := ⟨hx, hb, hml, hown, hts⟩
  obtain ⟨c0, iS0, hKn0⟩ := u_known (C := RX0) (T := TX0) (N := 8) (n := 8) hts inlX0 (hts (.instantiable RX0 8) (by decide +kernel))
  obtain ⟨c1, iS1, hKn1⟩ := u_known (C := RX1) (T := TX1) (N := 7) (n := 7) hts inlX1 (hts (.instantiable RX1 7) (by decide +kernel))
  obtain ⟨D, hKc⟩ : ∃ D : va_G, ∀ (k : Nat) (q : vw_C), vwCl[k]? = some q → u_Kn s q.1 q.2.1 q.2.2 (D.1 k) (D.2 k) := by
    refine ⟨(fun k => if k = 0 then c0 else c1, fun k => if k = 0 then iS0 else iS1), ?_⟩
    intro k q hq
    match k, hq with
    | 0, hq => cases hq; exact hKn0
    | 1, hq => cases hq; exact hKn1
    | k + 2, hq => simp [vwCl] at hq
  have hS : va_S (fun q : Nat => s.heap.size ≤ q) s.heap s.heap [] := va_S.rf
  have hK : va_K D vwCl [] s := ⟨hKc, fun k q h => by simp at h⟩
  have hP : va_P D vwCl [] s.heap := fun k q h => by simp at h
  have hD : va_D (fun q : Nat => s.heap.size ≤ q) [] := ⟨fun i j p q h => by simp at h, fun k q h => by simp at h⟩
  have hl := lv_entry ([.ref b]) (n := 4) (Nat.le_of_ble_eq_true rfl)
  rw [lg_entry_eq]
  generalize (lg_sl ([.ref b]) ++ List.replicate (4 - (lg_sl ([.ref b])).length) Slot.unset).toArray = ls at hl ⊢
  have hl : lv_has ls 4 [(0, .ref b)] := hl
  obtain ⟨cv, hcv⟩ : ∃ v : Int32, v = if 0 < L then xs 0 else 0 := ⟨_, rfl⟩
  obtain ⟨locs, hle⟩ : ∃ z : List Loc, z = [] := ⟨_, rfl⟩
  rw [← hle] at hS ⊢
  refine va_new (ci := 0) (fs := [.int 0, .null, .null, .null, .null, .null, .int 0, .int 0]) (C := RX0) (T := TX0) (N := 8) hx hb hts inlX0 tyX0 tyX0_ok hown (hts (.classLink RL 7 RX0) (by decide +kernel)) (hts (.instantiable RX0 8) (by decide +kernel)) (hts (.initialized RX0) (by decide +kernel)) hK hP hD hS hA rfl (fun j hj => by rcases (show j = 0 ∨ j = 1 ∨ j = 2 ∨ j = 3 ∨ j = 4 ∨ j = 5 ∨ j = 6 ∨ j = 7 by omega) with rfl | rfl | rfl | rfl | rfl | rfl | rfl | rfl <;> rfl) (Nat.le_of_ble_eq_true rfl) (Nat.le_of_ble_eq_true rfl) dL_law_0 (fun q0 H hP hD hS => ?_)
  have hP : va_P D vwCl ([(q0, .inr (0, [.int 0, .null, .null, .null, .null, .null, .int 0, .int 0]))]) H := hP
  have hD : va_D (fun q : Nat => s.heap.size ≤ q) ([(q0, .inr (0, [.int 0, .null, .null, .null, .null, .null, .int 0, .int 0]))]) := hD
  refine W.widen (k := 1) (n := 8) (by omega) (by omega) ?_
  refine lv_dup hx hb dL_law_3 rfl ?_
  refine lv_aload_n hx hb dL_law_4 rfl (lv_at hl 0 rfl) ?_
  refine lv_iconst (v := 0) hx hb dL_law_5 (by decide) ?_
  have hr9 := va_runS (As := [.ref b, .int 0]) (rest := [.ref q0, .ref q0]) S0 (k_L_cell l b L xs hL H.size) (va_cwS 2 hts gL_law_L_cell rfl rfl rfl (by decide +kernel) ⟨Nat.le_of_ble_eq_true rfl, Nat.le_of_ble_eq_true rfl⟩) (H := H) (locs := locs) (cells := 1) (slots := 8) (g := F0 m 6 ls [.int 0, .ref b, .ref q0, .ref q0]) (R := room_1) (e := e) (below := below) (meth := meth) ⟨fun a U g mk q => ⟨q.1, q.2.1, q.2.2.1, va_X.moved (u := U) (U := U.calling g mk a) (Vm.Alike.refl U.vm) q.2.2.2⟩, fun U hU hW => ⟨rfl, by rw [hU], Nat.lt_of_lt_of_le hbl hS.1, by rw [hU]; exact (hX.kept (hS.2.1 b hbl hbA)).moved hW.alike⟩⟩ rfl rfl hl.1 rfl (lv_room (Nat.le_of_ble_eq_true rfl)) dL_law_6 ⟨Nat.le_of_ble_eq_true rfl, Nat.le_of_ble_eq_true rfl⟩
  have hF9 := va_free (wc := []) hD hS hA [] rfl
  refine va_calli hr9 hS (fun q _ h => hF9 q h) hF9 (fun rv u t H1 locs1 ht hvm hw hB hz1 hk1 hSz => ?_)
  have hPz : va_P D vwCl ([(q0, .inr (0, [.int 0, .null, .null, .null, .null, .null, .int 0, .int 0]))]) H1 := fun k q hq => ((hP k q hq).kept (hk1 q.1 (hP k q hq).lt (fun h => by
    rcases h with ⟨k2, e2, h⟩ | h
    · simp at h
    · exact absurd (hP k q hq).lt (by omega))))
  clear hP hS hr9 hF9 hk1 hz1
  obtain ⟨H, hHe⟩ : ∃ z, z = H1 := ⟨_, rfl⟩
  obtain ⟨locs, hle⟩ : ∃ z, z = locs1 := ⟨_, rfl⟩
  have hP := hPz
  have hS := hSz
  rw [← hHe] at hP hS ⊢
  rw [← hle] at hS ⊢
  have hw : rv = cv := hw.trans hcv.symm
  rw [hw]
  have hFc := va_free (wc := [(q0, .inr (0, [.int 0, .null, .null, .null, .null, .null, .int 0, .int 0]))]) hD hS hA [0] rfl
  have hPc := xPs (wc := [(q0, .inr (0, [.int 0, .null, .null, .null, .null, .null, .int 0, .int 0]))]) hP [0] rfl
  have hDc := hD.sub (ws' := [(q0, .inr (0, [.int 0, .null, .null, .null, .null, .null, .int 0, .int 0]))]) [0] (by decide) rfl
  refine va_callv (va_runI (As := [.int cv]) (rest := [.ref q0]) S0 (k_X0_init l D q0 cv H.size) (cwI 1 hts gL_law_X0_init rfl rfl rfl (hts (.initialized RX0) (by decide +kernel)) (hts (.methodLink RL 15 yX0_init) (by decide +kernel)) (hts (.instanceMethod yX0_init) (by decide +kernel)) rfl (by decide +kernel) ⟨Nat.le_of_ble_eq_true rfl, Nat.le_of_ble_eq_true rfl⟩) ⟨xPre_blind, fun U hU hW => ⟨rfl, by rw [hU], by rw [hU]; exact hPc, va_K.moved hW.alike hK, hDc.weaken (fun _ _ _ _ => trivial)⟩⟩ rfl rfl hl.1 rfl (lv_room (Nat.le_of_ble_eq_true rfl)) dL_law_9 ⟨Nat.le_of_ble_eq_true rfl, Nat.le_of_ble_eq_true rfl⟩) hS (fun q _ h => hFc q h) hFc (fun u t H1 locs1 ht hvm hw hB hz1 hk1 hS => ?_)
  obtain ⟨ad, tt⟩ := u
  obtain ⟨hPn, hK1, hDn⟩ := hB
  rw [ht] at hPn
  have hK1 := va_K.moved hvm.symm hK1
  have hw : ad 0 = q0 := hw
  subst hw
  obtain ⟨hP, hD⟩ := va_join (wr := []) (w1 := xw ad tt (clampR cv) w0 z0 z0 z0 z0 (-1) (-1)) hP hD [0] [] rfl rfl (by decide) (by decide) hk1 hFc hPn hDn
  clear hPn hDn hPc hDc hFc hk1 hz1
  obtain ⟨H, hHe⟩ : ∃ z, z = H1 := ⟨_, rfl⟩
  rw [← hHe] at hP hS ⊢
  obtain ⟨locs, hle⟩ : ∃ z, z = locs1 := ⟨_, rfl⟩
  rw [← hle] at hS ⊢
  have hP : va_P D vwCl (xw ad tt (clampR cv) w0 z0 z0 z0 z0 (-1) (-1)) H := hP
  have hD : va_D (fun q : Nat => s.heap.size ≤ q) (xw ad tt (clampR cv) w0 z0 z0 z0 z0 (-1) (-1)) := hD
  have hK1 : va_K D vwCl (tyX tt) s := hK1
  refine W.widen (k := 6) (n := 130) (Nat.le_of_ble_eq_true rfl) (Nat.le_of_ble_eq_true rfl) ?_
  refine lv_astore_n (lv' := [(1, .ref (ad 0)), (0, .ref b)]) hx hb dL_law_12 rfl hl (by decide) rfl (fun ls hl => ?_)
  refine va_new (ci := 1) (fs := [.int 0, .null, .null, .null, .null, .int 0, .int 0]) (C := RX1) (T := TX1) (N := 7) hx hb hts inlX1 tyX1 tyX1_ok hown (hts (.classLink RL 18 RX1) (by decide +kernel)) (hts (.instantiable RX1 7) (by decide +kernel)) (hts (.initialized RX1) (by decide +kernel)) hK hP hD hS hA rfl (fun j hj => by rcases (show j = 0 ∨ j = 1 ∨ j = 2 ∨ j = 3 ∨ j = 4 ∨ j = 5 ∨ j = 6 by omega) with rfl | rfl | rfl | rfl | rfl | rfl | rfl <;> rfl) (Nat.le_of_ble_eq_true rfl) (Nat.le_of_ble_eq_true rfl) dL_law_13 (fun q1 H hP hD hS => ?_)
  have hP : va_P D vwCl (xw ad tt (clampR cv) w0 z0 z0 z0 z0 (-1) (-1) ++ [(q1, .inr (1, [.int 0, .null, .null, .null, .null, .int 0, .int 0]))]) H := hP
  have hD : va_D (fun q : Nat => s.heap.size ≤ q) (xw ad tt (clampR cv) w0 z0 z0 z0 z0 (-1) (-1) ++ [(q1, .inr (1, [.int 0, .null, .null, .null, .null, .int 0, .int 0]))]) := hD
  refine W.widen (k := 7) (n := 137) (Nat.le_of_ble_eq_true rfl) (Nat.le_of_ble_eq_true rfl) ?_
  refine lv_dup hx hb dL_law_16 rfl ?_
  refine lv_aload_n hx hb dL_law_17 rfl (lv_at hl 1 rfl) ?_
  refine lv_iconst (v := 0) hx hb dL_law_18 (by decide) ?_
  have hr9 := va_runS (As := [.ref b, .int 0]) (rest := [.ref q1, .ref q1]) S0 (k_L_cell l b L xs hL H.size) (va_cwS 2 hts gL_law_L_cell rfl rfl rfl (by decide +kernel) ⟨Nat.le_of_ble_eq_true rfl, Nat.le_of_ble_eq_true rfl⟩) (H := H) (locs := locs) (cells := 7) (slots := 137) (g := F0 m 19 ls [.int 0, .ref b, .ref q1, .ref q1]) (R := room_1) (e := e) (below := below) (meth := meth) ⟨fun a U g mk q => ⟨q.1, q.2.1, q.2.2.1, va_X.moved (u := U) (U := U.calling g mk a) (Vm.Alike.refl U.vm) q.2.2.2⟩, fun U hU hW => ⟨rfl, by rw [hU], Nat.lt_of_lt_of_le hbl hS.1, by rw [hU]; exact (hX.kept (hS.2.1 b hbl hbA)).moved hW.alike⟩⟩ rfl rfl hl.1 rfl (lv_room (Nat.le_of_ble_eq_true rfl)) dL_law_19 ⟨Nat.le_of_ble_eq_true rfl, Nat.le_of_ble_eq_true rfl⟩
  have hF9 := va_free (wc := []) hD hS hA [] rfl
  refine va_calli hr9 hS (fun q _ h => hF9 q h) hF9 (fun rv u t H1 locs1 ht hvm hw hB hz1 hk1 hSz => ?_)
  have hPz : va_P D vwCl (xw ad tt (clampR cv) w0 z0 z0 z0 z0 (-1) (-1) ++ [(q1, .inr (1, [.int 0, .null, .null, .null, .null, .int 0, .int 0]))]) H1 := fun k q hq => ((hP k q hq).kept (hk1 q.1 (hP k q hq).lt (fun h => by
    rcases h with ⟨k2, e2, h⟩ | h
    · simp at h
    · exact absurd (hP k q hq).lt (by omega))))
  clear hP hS hr9 hF9 hk1 hz1
  obtain ⟨H, hHe⟩ : ∃ z, z = H1 := ⟨_, rfl⟩
  obtain ⟨locs, hle⟩ : ∃ z, z = locs1 := ⟨_, rfl⟩
  have hP := hPz
  have hS := hSz
  rw [← hHe] at hP hS ⊢
  rw [← hle] at hS ⊢
  have hw : rv = cv := hw.trans hcv.symm
  rw [hw]
  have hFc := va_free (wc := [(q1, .inr (1, [.int 0, .null, .null, .null, .null, .int 0, .int 0]))]) hD hS hA [6] rfl
  have hPc := xPs (wc := [(q1, .inr (1, [.int 0, .null, .null, .null, .null, .int 0, .int 0]))]) hP [6] rfl
  have hDc := hD.sub (ws' := [(q1, .inr (1, [.int 0, .null, .null, .null, .null, .int 0, .int 0]))]) [6] (by decide) rfl
  refine va_callv (va_runI (As := [.int cv]) (rest := [.ref q1]) S0 (k_X1_init l D q1 cv H.size) (cwI 1 hts gL_law_X1_init rfl rfl rfl (hts (.initialized RX1) (by decide +kernel)) (hts (.methodLink RL 20 yX1_init) (by decide +kernel)) (hts (.instanceMethod yX1_init) (by decide +kernel)) rfl (by decide +kernel) ⟨Nat.le_of_ble_eq_true rfl, Nat.le_of_ble_eq_true rfl⟩) ⟨xPre_blind, fun U hU hW => ⟨rfl, by rw [hU], by rw [hU]; exact hPc, va_K.moved hW.alike hK, hDc.weaken (fun _ _ _ _ => trivial)⟩⟩ rfl rfl hl.1 rfl (lv_room (Nat.le_of_ble_eq_true rfl)) dL_law_22 ⟨Nat.le_of_ble_eq_true rfl, Nat.le_of_ble_eq_true rfl⟩) hS (fun q _ h => hFc q h) hFc (fun u t H1 locs1 ht hvm hw hB hz1 hk1 hS => ?_)
  obtain ⟨ad2, tt2⟩ := u
  obtain ⟨hPn, hK2, hDn⟩ := hB
  rw [ht] at hPn
  have hK2 := va_K.moved hvm.symm hK2
  have hw : ad2 0 = q1 := hw
  subst hw
  obtain ⟨hP, hD⟩ := va_join (wr := xw ad tt (clampR cv) w0 z0 z0 z0 z0 (-1) (-1)) (w1 := mw ad2 tt2 (clampR cv) w0 z0 z0 z0 0 0) hP hD [6] [0, 1, 2, 3, 4, 5] rfl rfl (by decide) (by decide) hk1 hFc hPn hDn
  clear hPn hDn hPc hDc hFc hk1 hz1
  obtain ⟨H, hHe⟩ : ∃ z, z = H1 := ⟨_, rfl⟩
  rw [← hHe] at hP hS ⊢
  obtain ⟨locs, hle⟩ : ∃ z, z = locs1 := ⟨_, rfl⟩
  rw [← hle] at hS ⊢
  have hP : va_P D vwCl (xw ad tt (clampR cv) w0 z0 z0 z0 z0 (-1) (-1) ++ mw ad2 tt2 (clampR cv) w0 z0 z0 z0 0 0) H := hP
  have hD : va_D (fun q : Nat => s.heap.size ≤ q) (xw ad tt (clampR cv) w0 z0 z0 z0 z0 (-1) (-1) ++ mw ad2 tt2 (clampR cv) w0 z0 z0 z0 0 0) := hD
  have hK2 : va_K D vwCl (tyM tt2) s := hK2
  refine W.widen (k := 11) (n := 243) (Nat.le_of_ble_eq_true rfl) (Nat.le_of_ble_eq_true rfl) ?_
  refine lv_astore_n (lv' := [(2, .ref (ad2 0)), (1, .ref (ad 0)), (0, .ref b)]) hx hb dL_law_25 rfl hl (by decide) rfl (fun ls hl => ?_)
  refine lv_iconst (v := 1) hx hb dL_law_26 (by decide) ?_
  refine lv_istore_n (lv' := [(3, .int 1), (2, .ref (ad2 0)), (1, .ref (ad 0)), (0, .ref b)]) hx hb dL_law_27 rfl hl (by decide) rfl (fun ls hl => ?_)
  exact law_loop (R := clampR cv) hL C0 hK1 hK2 _ 1 w0 z0 z0 z0 z0 z0 (-1) (-1) 0 0 (ok_0 cv) (by omega) (Nat.lt_succ_self _) H locs ls hP hD hS (lv_sub hl [3, 2, 1, 0] rfl)
