set_option maxHeartbeats 4000000 in
set_option maxRecDepth 100000 in
theorem k_X1_greatest (l : Launch) (D : va_G) (ad : Nat → Nat) (tt : Nat → ClassId) (R : Nat) (w c k d : Nat → Int32) (wp wr : Int32) (hok : ww_ok R w c) : xMi l yX1_greatest wsX1_greatest { frames := 3, cells := 0, slots := 0, locals := 73 } D (tyM tt) [.ref (ad 0)] (mw ad tt R w c k d wp wr) (fun u : Nat → Int32 => mw ad tt R w c k u wp wr) (fun v _ => v = nI (ww_mx R w c k)) := by
  refine xe_i (cc := cX1_greatest) (maxL := 4) (ret := (some .int)) (lvl := [(0, .ref (ad 0))]) (by decide) rfl (Nat.le_of_ble_eq_true rfl) rfl ?_
  intro p e s m below meth cd A ls hx hb hr hlocks hml hown hts hA hP hK hD hS hl
  have hin : ∀ w ∈ wsX10, w ∈ wsX1_greatest := fun _ h => List.mem_cons_of_mem _ (List.mem_append_right _ h)
  have S0 : CallFix p m cd cX1_greatest 4 s (([.ref (ad 0)] : List Value).toArray) wsX1_greatest RX1 := ⟨hx, hb, hml, hown, hts⟩
  obtain ⟨H, hH⟩ : ∃ H, H = s.heap := ⟨_, rfl⟩
  obtain ⟨locs, hlocs⟩ : ∃ q : List Loc, q = [] := ⟨_, rfl⟩
  have hP : va_P D vwCl (mw ad tt R w c k d wp wr) H := by rw [hH]; exact hP
  have hS : va_S A s.heap H locs := by rw [hH, hlocs]; exact hS
  suffices hgo : W p l e (headSpec wsX1_greatest ({ frames := 3, cells := 0, slots := 0, locals := 73 } : Room)).room s m (([.ref (ad 0)] : List Value).toArray) below meth cd H locs 0 0 (MQ below (va_Qi (fun v _ => v = nI (ww_mx R w c k)) (xB D (tyM tt) A (fun u : Nat → Int32 => mw ad tt R w c k u wp wr)) A) ([.ref (ad 0)] : List Value).toArray s 0 0 A) (F0 m 0 ls []) by rw [hH, hlocs] at hgo; exact hgo
  clear hH hlocs
  have f_distance := hts (.fieldLink RX1 20 "WireWaysModel" "distance" "[I") (by decide +kernel)
  have f_routers := hts (.fieldLink RX1 23 "WireWaysModel" "routers" "I") (by decide +kernel)
  have hR : R ≤ 10 := hok.2.1
  refine lv_iconst (v := 0) hx hb dX1_greatest_0 (by decide) ?_
  refine lv_istore_n (lv' := [(1, .int 0), (0, .ref (ad 0))]) hx hb dX1_greatest_1 rfl hl (by decide) rfl (fun ls hl => ?_)
  refine lv_iconst (v := 0) hx hb dX1_greatest_2 (by decide) ?_
  refine lv_istore_n (lv' := [(2, .int 0), (1, .int 0), (0, .ref (ad 0))]) hx hb dX1_greatest_3 rfl hl (by decide) rfl (fun ls hl => ?_)
  have lp4 : ∀ (fuel : Nat) (t : Nat) (g : Nat) (d1 : Nat → Int32), (t ≤ R) → (g = mx2 (fun t => ww_T R w c k 0 t) 1000000 R t) → R - t < fuel → ∀ (H : Heap) (locs : List Loc) (ls : Array Slot), va_P D vwCl (mw ad tt R w c k d1 wp wr) H → va_D A (mw ad tt R w c k d1 wp wr) → va_S A s.heap H locs → lv_has ls 4 [(2, .int (nI t)), (1, .int (nI g)), (0, .ref (ad 0))] → W p l e (headSpec wsX1_greatest ({ frames := 3, cells := 0, slots := 0, locals := 73 } : Room)).room s m ([.ref (ad 0)] : List Value).toArray below meth cd H locs 0 0 (MQ below (va_Qi (fun v _ => v = nI (ww_mx R w c k)) (xB D (tyM tt) A (fun u : Nat → Int32 => mw ad tt R w c k u wp wr)) A) ([.ref (ad 0)] : List Value).toArray s 0 0 A) (F0 m 4 ls []) := by
    intro fuel
    induction fuel with
    | zero => intro t g d1 ht0 hg hm; exact absurd hm (Nat.not_lt_zero _)
    | succ fuel ih4 =>
      intro t g d1 ht0 hg hm H locs ls hP hD hS hl
      refine lv_iload_n hx hb dX1_greatest_4 rfl (lv_at hl 0 rfl) ?_
      refine lv_aload_n hx hb dX1_greatest_5 rfl (lv_at hl 2 rfl) ?_
      refine x1_get (v := .int (nI R)) S0 hin hK hP 0 (by decide) f_routers rfl rfl dX1_greatest_6 ?_
      refine lv_icmp_ge (tgt := 72) hx hb dX1_greatest_9 (by decide) (fun c_1 => ?_) (fun c_1 => ?_)
      · have htR : R ≤ t := (nI_leI (by omega) (by omega)).mp c_1
        refine lv_iload_n hx hb dX1_greatest_72 rfl (lv_at hl 1 rfl) ?_
        exact xr_i hx hb hr hlocks d1 (by rw [hg, show t = R by omega]; rfl) hP hK hD hS dX1_greatest_73
      · have htR : t < R := Nat.lt_of_not_le (fun h => c_1 (nI_le h (by omega)))
        refine lv_aload_n hx hb dX1_greatest_12 rfl (lv_at hl 2 rfl) ?_
        refine lv_iconst (v := 0) hx hb dX1_greatest_13 (by decide) ?_
        refine lv_iload_n hx hb dX1_greatest_14 rfl (lv_at hl 0 rfl) ?_
        refine xs_Vv (wr := []) (q0 := 0) (ci := 1) (nA := 2) (As := [.int 0, .int (nI t)]) (rest := []) S0 (k_X1_reckon l D ad tt R w c k d1 wp wr hok 0 t (by omega) (ww_M R w c k 0 t) (ww_M_ok hok k 0 t)) gX1_greatest_X1_reckon rfl ⟨rfl, rfl⟩ (by decide +kernel) rfl ⟨Nat.le_of_ble_eq_true rfl, Nat.le_of_ble_eq_true rfl⟩ ⟨Nat.le_of_ble_eq_true rfl, Nat.le_of_ble_eq_true rfl⟩ hK hP hD hS hA [0, 1, 2, 3, 4] [] rfl rfl (by decide) (by decide) (by decide) rfl rfl rfl hl.1 rfl (Nat.le_of_ble_eq_true rfl) dX1_greatest_15 (fun u1 H locs hw hP hD hS => ?_)
        have hP : va_P D vwCl (mw ad tt R w c k u1 wp wr) H := hP
        have hD : va_D A (mw ad tt R w c k u1 wp wr) := hD
        have hrow := hw
        refine lv_iconst (v := 0) hx hb dX1_greatest_18 (by decide) ?_
        refine lv_istore_n (lv' := [(3, .int 0), (2, .int (nI t)), (1, .int (nI g)), (0, .ref (ad 0))]) hx hb dX1_greatest_19 rfl hl (by decide) rfl (fun ls hl => ?_)
        have lp20 : ∀ (fuel : Nat) (a : Nat) (g1 : Nat), (a ≤ R) → (g1 = mx1 (ww_T R w c k 0 t) 1000000 a (mx2 (fun t => ww_T R w c k 0 t) 1000000 R t)) → R - a < fuel → ∀ (H : Heap) (locs : List Loc) (ls : Array Slot), va_P D vwCl (mw ad tt R w c k u1 wp wr) H → va_D A (mw ad tt R w c k u1 wp wr) → va_S A s.heap H locs → lv_has ls 4 [(3, .int (nI a)), (2, .int (nI t)), (1, .int (nI g1)), (0, .ref (ad 0))] → W p l e (headSpec wsX1_greatest ({ frames := 3, cells := 0, slots := 0, locals := 73 } : Room)).room s m ([.ref (ad 0)] : List Value).toArray below meth cd H locs 0 0 (MQ below (va_Qi (fun v _ => v = nI (ww_mx R w c k)) (xB D (tyM tt) A (fun u : Nat → Int32 => mw ad tt R w c k u wp wr)) A) ([.ref (ad 0)] : List Value).toArray s 0 0 A) (F0 m 20 ls []) := by
          intro fuel
          induction fuel with
          | zero => intro a g1 ha0 hg1 hm; exact absurd hm (Nat.not_lt_zero _)
          | succ fuel ih20 =>
            intro a g1 ha0 hg1 hm H locs ls hP hD hS hl
            refine lv_iload_n hx hb dX1_greatest_20 rfl (lv_at hl 0 rfl) ?_
            refine lv_aload_n hx hb dX1_greatest_21 rfl (lv_at hl 3 rfl) ?_
            refine x1_get (v := .int (nI R)) S0 hin hK hP 0 (by decide) f_routers rfl rfl dX1_greatest_22 ?_
            refine lv_icmp_ge (tgt := 66) hx hb dX1_greatest_25 (by decide) (fun c_3 => ?_) (fun c_3 => ?_)
            · have haR : R ≤ a := (nI_leI (by omega) (by omega)).mp c_3
              refine lv_iinc (v := nI (t + 1)) (lv' := [(2, .int (nI (t + 1))), (3, .int (nI a)), (1, .int (nI g1)), (0, .ref (ad 0))]) hx hb dX1_greatest_66 hl (k := 1) rfl (nI_1 t) (by decide) rfl (fun ls hl => ?_)
              refine lv_goto (tgt := 4) hx hb dX1_greatest_69 (by decide) ?_
              exact ih4 (t + 1) g1 u1 (by omega) (by rw [hg1, show a = R by omega]; rfl) (by omega) H locs ls hP hD hS (lv_sub hl [0, 2, 3] rfl)
            · have haR : a < R := Nat.lt_of_not_le (fun h => c_3 (nI_le h (by omega)))
              have hMle := (ww_M_ok hok k 0 t).1 a haR
              have hg9 : g1 ≤ 1000000 := by rw [hg1]; exact mx1_le (mx2_le _ _ _ t) a
              refine lv_aload_n hx hb dX1_greatest_28 rfl (lv_at hl 3 rfl) ?_
              refine x1_get (v := .ref (ad 4)) S0 hin hK hP 4 (by decide) f_distance rfl rfl dX1_greatest_29 ?_
              refine lv_iload_n hx hb dX1_greatest_32 rfl (lv_at hl 0 rfl) ?_
              refine va_iald hx hb hK hP 4 3 rfl rfl (vp_in_nI (by omega) (by omega)) dX1_greatest_33 ?_
              refine xt_eq (z := u1 a) (congrArg u1 (nI_clamp (by omega))) ?_
              refine xt_eq (z := nI (ww_M R w c k 0 t a)) (hrow a haR) ?_
              refine lv_ldc (v := 100000) hx hb hown (hts (.constant RX1 42 100000) (by decide +kernel)) dX1_greatest_34 ?_
              refine lv_icmp_ge (tgt := 58) hx hb dX1_greatest_36 (by decide) (fun c_4 => ?_) (fun c_4 => ?_)
              · have hge : 100000 ≤ ww_M R w c k 0 t a := (nI_leI (a := 100000) (by omega) (by omega)).mp c_4
                have hsk : ¬ (ww_T R w c k 0 t a < 1000000 ∧ g1 < ww_T R w c k 0 t a) := fun h => absurd ((ww_M_iff hok haR).mpr h.1) (by omega)
                refine lv_iload_n hx hb dX1_greatest_58 rfl (lv_at hl 2 rfl) ?_
                refine lv_istore_n (lv' := [(1, .int (nI g1)), (3, .int (nI a)), (2, .int (nI t)), (0, .ref (ad 0))]) hx hb dX1_greatest_59 rfl hl (by decide) rfl (fun ls hl => ?_)
                refine lv_iinc (v := nI (a + 1)) (lv' := [(3, .int (nI (a + 1))), (1, .int (nI g1)), (2, .int (nI t)), (0, .ref (ad 0))]) hx hb dX1_greatest_60 hl (k := 1) rfl (nI_1 a) (by decide) rfl (fun ls hl => ?_)
                refine lv_goto (tgt := 20) hx hb dX1_greatest_63 (by decide) ?_
                exact ih20 (a + 1) g1 (by omega) (mx1_f hg1 hsk) (by omega) H locs ls hP hD hS (lv_sub hl [0, 2, 1, 3] rfl)
              · have hge : ww_M R w c k 0 t a < 100000 := Nat.lt_of_not_le (fun h => c_4 (nI_le (a := 100000) h (by omega)))
                have hTK := (ww_M_iff hok haR).mp hge
                have hMT := ww_M_1 hTK
                refine lv_aload_n hx hb dX1_greatest_39 rfl (lv_at hl 3 rfl) ?_
                refine x1_get (v := .ref (ad 4)) S0 hin hK hP 4 (by decide) f_distance rfl rfl dX1_greatest_40 ?_
                refine lv_iload_n hx hb dX1_greatest_43 rfl (lv_at hl 0 rfl) ?_
                refine va_iald hx hb hK hP 4 3 rfl rfl (vp_in_nI (by omega) (by omega)) dX1_greatest_44 ?_
                refine xt_eq (z := u1 a) (congrArg u1 (nI_clamp (by omega))) ?_
                refine xt_eq (z := nI (ww_M R w c k 0 t a)) (hrow a haR) ?_
                refine lv_iload_n hx hb dX1_greatest_45 rfl (lv_at hl 2 rfl) ?_
                refine lv_icmp_le (tgt := 58) hx hb dX1_greatest_46 (by decide) (fun c_5 => ?_) (fun c_5 => ?_)
                · have hle : ww_M R w c k 0 t a ≤ g1 := (nI_leI (by omega) (by omega)).mp c_5
                  have hsk : ¬ (ww_T R w c k 0 t a < 1000000 ∧ g1 < ww_T R w c k 0 t a) := by omega
                  refine lv_iload_n hx hb dX1_greatest_58 rfl (lv_at hl 2 rfl) ?_
                  refine lv_istore_n (lv' := [(1, .int (nI g1)), (3, .int (nI a)), (2, .int (nI t)), (0, .ref (ad 0))]) hx hb dX1_greatest_59 rfl hl (by decide) rfl (fun ls hl => ?_)
                  refine lv_iinc (v := nI (a + 1)) (lv' := [(3, .int (nI (a + 1))), (1, .int (nI g1)), (2, .int (nI t)), (0, .ref (ad 0))]) hx hb dX1_greatest_60 hl (k := 1) rfl (nI_1 a) (by decide) rfl (fun ls hl => ?_)
                  refine lv_goto (tgt := 20) hx hb dX1_greatest_63 (by decide) ?_
                  exact ih20 (a + 1) g1 (by omega) (mx1_f hg1 hsk) (by omega) H locs ls hP hD hS (lv_sub hl [0, 2, 1, 3] rfl)
                · have hle : g1 < ww_M R w c k 0 t a := Nat.lt_of_not_le (fun h => c_5 (nI_le h (by omega)))
                  refine lv_aload_n hx hb dX1_greatest_49 rfl (lv_at hl 3 rfl) ?_
                  refine x1_get (v := .ref (ad 4)) S0 hin hK hP 4 (by decide) f_distance rfl rfl dX1_greatest_50 ?_
                  refine lv_iload_n hx hb dX1_greatest_53 rfl (lv_at hl 0 rfl) ?_
                  refine va_iald hx hb hK hP 4 3 rfl rfl (vp_in_nI (by omega) (by omega)) dX1_greatest_54 ?_
                  refine xt_eq (z := u1 a) (congrArg u1 (nI_clamp (by omega))) ?_
                  refine xt_eq (z := nI (ww_T R w c k 0 t a)) ((hrow a haR).trans (by rw [hMT])) ?_
                  refine lv_goto (tgt := 59) hx hb dX1_greatest_55 (by decide) ?_
                  refine lv_istore_n (lv' := [(1, .int (nI (ww_T R w c k 0 t a))), (3, .int (nI a)), (2, .int (nI t)), (0, .ref (ad 0))]) hx hb dX1_greatest_59 rfl hl (by decide) rfl (fun ls hl => ?_)
                  refine lv_iinc (v := nI (a + 1)) (lv' := [(3, .int (nI (a + 1))), (1, .int (nI (ww_T R w c k 0 t a))), (2, .int (nI t)), (0, .ref (ad 0))]) hx hb dX1_greatest_60 hl (k := 1) rfl (nI_1 a) (by decide) rfl (fun ls hl => ?_)
                  refine lv_goto (tgt := 20) hx hb dX1_greatest_63 (by decide) ?_
                  exact ih20 (a + 1) (ww_T R w c k 0 t a) (by omega) (mx1_t hg1 hTK (by omega)) (by omega) H locs ls hP hD hS (lv_sub hl [0, 2, 1, 3] rfl)
        exact lp20 _ 0 g (by omega) hg (Nat.lt_succ_self _) H locs ls hP hD hS (lv_sub hl [0, 1, 2, 3] rfl)
  exact lp4 _ 0 0 d (by omega) rfl (Nat.lt_succ_self _) H locs ls hP hD hS (lv_sub hl [0, 1, 2] rfl)
set_option maxHeartbeats 4000000 in
set_option maxRecDepth 100000 in
theorem k_X1_count (l : Launch) (D : va_G) (ad : Nat → Nat) (tt : Nat → ClassId) (R : Nat) (w c k d : Nat → Int32) (wp wr : Int32) (hok : ww_ok R w c) (x : Int32) : xMi l yX1_count wsX1_count { frames := 4, cells := 0, slots := 0, locals := 96 } D (tyM tt) [.ref (ad 0), .int x] (mw ad tt R w c k d wp wr) (fun u : Nat → Int32 => mw ad tt R w c k u wp wr) (fun v _ => ct_ok R w c k x v) := by
  refine xe_i (cc := cX1_count) (maxL := 4) (ret := (some .int)) (lvl := [(0, .ref (ad 0)), (1, .int x)]) (by decide) rfl (Nat.le_of_ble_eq_true rfl) rfl ?_
  intro p e s m below meth cd A ls hx hb hr hlocks hml hown hts hA hP hK hD hS hl
  have hin : ∀ w ∈ wsX10, w ∈ wsX1_count := fun _ h => List.mem_cons_of_mem _ (List.mem_append_right _ h)
  have S0 : CallFix p m cd cX1_count 4 s (([.ref (ad 0), .int x] : List Value).toArray) wsX1_count RX1 := ⟨hx, hb, hml, hown, hts⟩
  obtain ⟨H, hH⟩ : ∃ H, H = s.heap := ⟨_, rfl⟩
  obtain ⟨locs, hlocs⟩ : ∃ q : List Loc, q = [] := ⟨_, rfl⟩
  have hP : va_P D vwCl (mw ad tt R w c k d wp wr) H := by rw [hH]; exact hP
  have hS : va_S A s.heap H locs := by rw [hH, hlocs]; exact hS
  suffices hgo : W p l e (headSpec wsX1_count ({ frames := 4, cells := 0, slots := 0, locals := 96 } : Room)).room s m (([.ref (ad 0), .int x] : List Value).toArray) below meth cd H locs 0 0 (MQ below (va_Qi (fun v _ => ct_ok R w c k x v) (xB D (tyM tt) A (fun u : Nat → Int32 => mw ad tt R w c k u wp wr)) A) ([.ref (ad 0), .int x] : List Value).toArray s 0 0 A) (F0 m 0 ls []) by rw [hH, hlocs] at hgo; exact hgo
  clear hH hlocs
  have f_wireOf := hts (.fieldLink RX1 7 "WireWaysModel" "wireOf" "[I") (by decide +kernel)
  have f_isCut := hts (.fieldLink RX1 16 "WireWaysModel" "isCut" "[Z") (by decide +kernel)
  have f_routers := hts (.fieldLink RX1 23 "WireWaysModel" "routers" "I") (by decide +kernel)
  have hR : R ≤ 10 := hok.2.1
  refine lv_iload_n hx hb dX1_count_0 rfl (lv_at hl 1 rfl) ?_
  refine lv_if_ne (tgt := 9) hx hb dX1_count_1 (by decide) (fun c_1 => ?_) (fun c_1 => ?_)
  · have h0 := c_1
    refine lv_iload_n hx hb dX1_count_9 rfl (lv_at hl 1 rfl) ?_
    refine lv_iconst (v := 3) hx hb dX1_count_10 (by decide) ?_
    refine lv_icmp_ne (tgt := 19) hx hb dX1_count_11 (by decide) (fun c_2 => ?_) (fun c_2 => ?_)
    · have h3 := c_2
      refine lv_iload_n hx hb dX1_count_19 rfl (lv_at hl 1 rfl) ?_
      refine lv_iconst (v := 1) hx hb dX1_count_20 (by decide) ?_
      refine lv_icmp_eq (tgt := 31) hx hb dX1_count_21 (by decide) (fun c_3 => ?_) (fun c_3 => ?_)
      · subst c_3
        refine lv_iconst (v := 0) hx hb dX1_count_31 (by decide) ?_
        refine lv_istore_n (lv' := [(2, .int 0), (0, .ref (ad 0)), (1, .int 1)]) hx hb dX1_count_32 rfl hl (by decide) rfl (fun ls hl => ?_)
        refine lv_iconst (v := 0) hx hb dX1_count_33 (by decide) ?_
        refine lv_istore_n (lv' := [(3, .int 0), (2, .int 0), (0, .ref (ad 0)), (1, .int 1)]) hx hb dX1_count_34 rfl hl (by decide) rfl (fun ls hl => ?_)
        have lp35 : ∀ (fuel : Nat) (a : Nat) (cn : Nat), (a ≤ 40) → (cn = dm_cnt (fun a => decide (w a ≠ -1)) a) → 40 - a < fuel → ∀ (H : Heap) (locs : List Loc) (ls : Array Slot), va_P D vwCl (mw ad tt R w c k d wp wr) H → va_D A (mw ad tt R w c k d wp wr) → va_S A s.heap H locs → lv_has ls 4 [(3, .int (nI a)), (2, .int (nI cn)), (0, .ref (ad 0)), (1, .int 1)] → W p l e (headSpec wsX1_count ({ frames := 4, cells := 0, slots := 0, locals := 96 } : Room)).room s m ([.ref (ad 0), .int (1)] : List Value).toArray below meth cd H locs 0 0 (MQ below (va_Qi (fun v _ => ct_ok R w c k (1) v) (xB D (tyM tt) A (fun u : Nat → Int32 => mw ad tt R w c k u wp wr)) A) ([.ref (ad 0), .int (1)] : List Value).toArray s 0 0 A) (F0 m 35 ls []) := by
          intro fuel
          induction fuel with
          | zero => intro a cn ha0 hcn hm; exact absurd hm (Nat.not_lt_zero _)
          | succ fuel ih35 =>
            intro a cn ha0 hcn hm H locs ls hP hD hS hl
            refine lv_iload_n hx hb dX1_count_35 rfl (lv_at hl 0 rfl) ?_
            refine lv_bipush (v := 40) hx hb dX1_count_36 (by decide) ?_
            refine lv_icmp_ge (tgt := 70) hx hb dX1_count_38 (by decide) (fun c_4 => ?_) (fun c_4 => ?_)
            · have ha4 : 40 ≤ a := (nI_leI (a := 40) (by omega) (by omega)).mp c_4
              refine lv_iconst (v := 0) hx hb dX1_count_70 (by decide) ?_
              refine lv_istore_n (lv' := [(3, .int 0), (2, .int (nI cn)), (0, .ref (ad 0)), (1, .int 1)]) hx hb dX1_count_71 rfl hl (by decide) rfl (fun ls hl => ?_)
              have lp72 : ∀ (fuel : Nat) (a : Nat) (cn : Nat), (a ≤ 16) → (cn = dm_cnt (fun a => decide (w a ≠ -1)) 40) → 16 - a < fuel → ∀ (H : Heap) (locs : List Loc) (ls : Array Slot), va_P D vwCl (mw ad tt R w c k d wp wr) H → va_D A (mw ad tt R w c k d wp wr) → va_S A s.heap H locs → lv_has ls 4 [(3, .int (nI a)), (2, .int (nI cn)), (0, .ref (ad 0)), (1, .int 1)] → W p l e (headSpec wsX1_count ({ frames := 4, cells := 0, slots := 0, locals := 96 } : Room)).room s m ([.ref (ad 0), .int (1)] : List Value).toArray below meth cd H locs 0 0 (MQ below (va_Qi (fun v _ => ct_ok R w c k (1) v) (xB D (tyM tt) A (fun u : Nat → Int32 => mw ad tt R w c k u wp wr)) A) ([.ref (ad 0), .int (1)] : List Value).toArray s 0 0 A) (F0 m 72 ls []) := by
                intro fuel
                induction fuel with
                | zero => intro a cn ha0 hcn hm; exact absurd hm (Nat.not_lt_zero _)
                | succ fuel ih72 =>
                  intro a cn ha0 hcn hm H locs ls hP hD hS hl
                  refine lv_iload_n hx hb dX1_count_72 rfl (lv_at hl 0 rfl) ?_
                  refine lv_bipush (v := 16) hx hb dX1_count_73 (by decide) ?_
                  refine lv_icmp_ge (tgt := 106) hx hb dX1_count_75 (by decide) (fun c_5 => ?_) (fun c_5 => ?_)
                  · have ha6 : 16 ≤ a := (nI_leI (a := 16) (by omega) (by omega)).mp c_5
                    refine lv_iload_n hx hb dX1_count_106 rfl (lv_at hl 1 rfl) ?_
                    exact xr_i hx hb hr hlocks d (Or.inr (Or.inl ⟨rfl, congrArg nI hcn⟩)) hP hK hD hS dX1_count_107
                  · have ha6 : a < 16 := Nat.lt_of_not_le (fun h => c_5 (nI_le (a := 16) h (by omega)))
                    refine lv_iload_n hx hb dX1_count_78 rfl (lv_at hl 1 rfl) ?_
                    refine lv_iload_n hx hb dX1_count_79 rfl (lv_at hl 3 rfl) ?_
                    refine lv_iconst (v := 2) hx hb dX1_count_80 (by decide) ?_
                    refine lv_icmp_ne (tgt := 97) hx hb dX1_count_81 (by decide) (fun c_6 => ?_) (fun c_6 => absurd c_6 (by decide))
                    refine lv_iconst (v := 0) hx hb dX1_count_97 (by decide) ?_
                    refine lv_iadd hx hb dX1_count_98 ?_
                    refine xt_eq (z := nI cn) (nI_add cn 0) ?_
                    refine lv_istore_n (lv' := [(2, .int (nI cn)), (3, .int (nI a)), (0, .ref (ad 0)), (1, .int 1)]) hx hb dX1_count_99 rfl hl (by decide) rfl (fun ls hl => ?_)
                    refine lv_iinc (v := nI (a + 1)) (lv' := [(3, .int (nI (a + 1))), (2, .int (nI cn)), (0, .ref (ad 0)), (1, .int 1)]) hx hb dX1_count_100 hl (k := 1) rfl (nI_1 a) (by decide) rfl (fun ls hl => ?_)
                    refine lv_goto (tgt := 72) hx hb dX1_count_103 (by decide) ?_
                    exact ih72 (a + 1) cn (by omega) hcn (by omega) H locs ls hP hD hS (lv_sub hl [0, 1, 2, 3] rfl)
              exact lp72 _ 0 cn (by omega) (by rw [hcn, show a = 40 by omega]) (Nat.lt_succ_self _) H locs ls hP hD hS (lv_sub hl [0, 1, 2, 3] rfl)
            · have ha4 : a < 40 := Nat.lt_of_not_le (fun h => c_4 (nI_le (a := 40) h (by omega)))
              refine lv_iload_n hx hb dX1_count_41 rfl (lv_at hl 1 rfl) ?_
              refine lv_iload_n hx hb dX1_count_42 rfl (lv_at hl 3 rfl) ?_
              refine lv_iconst (v := 1) hx hb dX1_count_43 (by decide) ?_
              refine lv_icmp_ne (tgt := 61) hx hb dX1_count_44 (by decide) (fun c_7 => absurd c_7 (by decide)) (fun c_7 => ?_)
              refine lv_aload_n hx hb dX1_count_47 rfl (lv_at hl 2 rfl) ?_
              refine x1_get (v := .ref (ad 1)) S0 hin hK hP 1 (by decide) f_wireOf rfl rfl dX1_count_48 ?_
              refine lv_iload_n hx hb dX1_count_51 rfl (lv_at hl 0 rfl) ?_
              refine va_iald hx hb hK hP 1 0 rfl rfl (vp_in_nI (by omega) (by omega)) dX1_count_52 ?_
              refine xt_eq (z := w a) (congrArg w (nI_clamp (by omega))) ?_
              refine lv_iconst (v := (-1)) hx hb dX1_count_53 (by decide) ?_
              refine lv_icmp_eq (tgt := 61) hx hb dX1_count_54 (by decide) (fun c_8 => ?_) (fun c_8 => ?_)
              · have he := c_8
                refine lv_iconst (v := 0) hx hb dX1_count_61 (by decide) ?_
                refine lv_iadd hx hb dX1_count_62 ?_
                refine xt_eq (z := nI cn) (nI_add cn 0) ?_
                refine lv_istore_n (lv' := [(2, .int (nI cn)), (3, .int (nI a)), (0, .ref (ad 0)), (1, .int 1)]) hx hb dX1_count_63 rfl hl (by decide) rfl (fun ls hl => ?_)
                refine lv_iinc (v := nI (a + 1)) (lv' := [(3, .int (nI (a + 1))), (2, .int (nI cn)), (0, .ref (ad 0)), (1, .int 1)]) hx hb dX1_count_64 hl (k := 1) rfl (nI_1 a) (by decide) rfl (fun ls hl => ?_)
                refine lv_goto (tgt := 35) hx hb dX1_count_67 (by decide) ?_
                exact ih35 (a + 1) cn (by omega) (cnt_f hcn (fun h => of_decide_eq_true h he)) (by omega) H locs ls hP hD hS (lv_sub hl [0, 1, 2, 3] rfl)
              · have he := c_8
                refine lv_iconst (v := 1) hx hb dX1_count_57 (by decide) ?_
                refine lv_goto (tgt := 62) hx hb dX1_count_58 (by decide) ?_
                refine lv_iadd hx hb dX1_count_62 ?_
                refine xt_eq (z := nI (cn + 1)) (nI_1 cn) ?_
                refine lv_istore_n (lv' := [(2, .int (nI (cn + 1))), (3, .int (nI a)), (0, .ref (ad 0)), (1, .int 1)]) hx hb dX1_count_63 rfl hl (by decide) rfl (fun ls hl => ?_)
                refine lv_iinc (v := nI (a + 1)) (lv' := [(3, .int (nI (a + 1))), (2, .int (nI (cn + 1))), (0, .ref (ad 0)), (1, .int 1)]) hx hb dX1_count_64 hl (k := 1) rfl (nI_1 a) (by decide) rfl (fun ls hl => ?_)
                refine lv_goto (tgt := 35) hx hb dX1_count_67 (by decide) ?_
                exact ih35 (a + 1) (cn + 1) (by omega) (cnt_t hcn (decide_eq_true he)) (by omega) H locs ls hP hD hS (lv_sub hl [0, 1, 2, 3] rfl)
        exact lp35 _ 0 0 (by omega) rfl (Nat.lt_succ_self _) H locs ls hP hD hS (lv_sub hl [0, 1, 2, 3] rfl)
      · have h1 := c_3
        refine lv_iload_n hx hb dX1_count_24 rfl (lv_at hl 1 rfl) ?_
        refine lv_iconst (v := 2) hx hb dX1_count_25 (by decide) ?_
        refine lv_icmp_eq (tgt := 31) hx hb dX1_count_26 (by decide) (fun c_9 => ?_) (fun c_9 => ?_)
        · subst c_9
          refine lv_iconst (v := 0) hx hb dX1_count_31 (by decide) ?_
          refine lv_istore_n (lv' := [(2, .int 0), (0, .ref (ad 0)), (1, .int 2)]) hx hb dX1_count_32 rfl hl (by decide) rfl (fun ls hl => ?_)
          refine lv_iconst (v := 0) hx hb dX1_count_33 (by decide) ?_
          refine lv_istore_n (lv' := [(3, .int 0), (2, .int 0), (0, .ref (ad 0)), (1, .int 2)]) hx hb dX1_count_34 rfl hl (by decide) rfl (fun ls hl => ?_)
          have lp35 : ∀ (fuel : Nat) (a : Nat) (cn : Nat), (a ≤ 40) → (cn = 0) → 40 - a < fuel → ∀ (H : Heap) (locs : List Loc) (ls : Array Slot), va_P D vwCl (mw ad tt R w c k d wp wr) H → va_D A (mw ad tt R w c k d wp wr) → va_S A s.heap H locs → lv_has ls 4 [(3, .int (nI a)), (2, .int (nI cn)), (0, .ref (ad 0)), (1, .int 2)] → W p l e (headSpec wsX1_count ({ frames := 4, cells := 0, slots := 0, locals := 96 } : Room)).room s m ([.ref (ad 0), .int (2)] : List Value).toArray below meth cd H locs 0 0 (MQ below (va_Qi (fun v _ => ct_ok R w c k (2) v) (xB D (tyM tt) A (fun u : Nat → Int32 => mw ad tt R w c k u wp wr)) A) ([.ref (ad 0), .int (2)] : List Value).toArray s 0 0 A) (F0 m 35 ls []) := by
            intro fuel
            induction fuel with
            | zero => intro a cn ha0 hcn hm; exact absurd hm (Nat.not_lt_zero _)
            | succ fuel ih35 =>
              intro a cn ha0 hcn hm H locs ls hP hD hS hl
              refine lv_iload_n hx hb dX1_count_35 rfl (lv_at hl 0 rfl) ?_
              refine lv_bipush (v := 40) hx hb dX1_count_36 (by decide) ?_
              refine lv_icmp_ge (tgt := 70) hx hb dX1_count_38 (by decide) (fun c_10 => ?_) (fun c_10 => ?_)
              · have ha4 : 40 ≤ a := (nI_leI (a := 40) (by omega) (by omega)).mp c_10
                refine lv_iconst (v := 0) hx hb dX1_count_70 (by decide) ?_
                refine lv_istore_n (lv' := [(3, .int 0), (2, .int (nI cn)), (0, .ref (ad 0)), (1, .int 2)]) hx hb dX1_count_71 rfl hl (by decide) rfl (fun ls hl => ?_)
                have lp72 : ∀ (fuel : Nat) (a : Nat) (cn : Nat), (a ≤ 16) → (cn = dm_cnt (fun a => decide (k a ≠ 0)) a) → 16 - a < fuel → ∀ (H : Heap) (locs : List Loc) (ls : Array Slot), va_P D vwCl (mw ad tt R w c k d wp wr) H → va_D A (mw ad tt R w c k d wp wr) → va_S A s.heap H locs → lv_has ls 4 [(3, .int (nI a)), (2, .int (nI cn)), (0, .ref (ad 0)), (1, .int 2)] → W p l e (headSpec wsX1_count ({ frames := 4, cells := 0, slots := 0, locals := 96 } : Room)).room s m ([.ref (ad 0), .int (2)] : List Value).toArray below meth cd H locs 0 0 (MQ below (va_Qi (fun v _ => ct_ok R w c k (2) v) (xB D (tyM tt) A (fun u : Nat → Int32 => mw ad tt R w c k u wp wr)) A) ([.ref (ad 0), .int (2)] : List Value).toArray s 0 0 A) (F0 m 72 ls []) := by
                  intro fuel
                  induction fuel with
                  | zero => intro a cn ha0 hcn hm; exact absurd hm (Nat.not_lt_zero _)
                  | succ fuel ih72 =>
                    intro a cn ha0 hcn hm H locs ls hP hD hS hl
                    refine lv_iload_n hx hb dX1_count_72 rfl (lv_at hl 0 rfl) ?_
                    refine lv_bipush (v := 16) hx hb dX1_count_73 (by decide) ?_
                    refine lv_icmp_ge (tgt := 106) hx hb dX1_count_75 (by decide) (fun c_11 => ?_) (fun c_11 => ?_)
                    · have ha6 : 16 ≤ a := (nI_leI (a := 16) (by omega) (by omega)).mp c_11
                      refine lv_iload_n hx hb dX1_count_106 rfl (lv_at hl 1 rfl) ?_
                      exact xr_i hx hb hr hlocks d (Or.inr (Or.inr (Or.inl ⟨rfl, by rw [hcn, show a = 16 by omega]⟩))) hP hK hD hS dX1_count_107
                    · have ha6 : a < 16 := Nat.lt_of_not_le (fun h => c_11 (nI_le (a := 16) h (by omega)))
                      refine lv_iload_n hx hb dX1_count_78 rfl (lv_at hl 1 rfl) ?_
                      refine lv_iload_n hx hb dX1_count_79 rfl (lv_at hl 3 rfl) ?_
                      refine lv_iconst (v := 2) hx hb dX1_count_80 (by decide) ?_
                      refine lv_icmp_ne (tgt := 97) hx hb dX1_count_81 (by decide) (fun c_12 => absurd c_12 (by decide)) (fun c_12 => ?_)
                      refine lv_aload_n hx hb dX1_count_84 rfl (lv_at hl 2 rfl) ?_
                      refine x1_get (v := .ref (ad 3)) S0 hin hK hP 3 (by decide) f_isCut rfl rfl dX1_count_85 ?_
                      refine lv_iload_n hx hb dX1_count_88 rfl (lv_at hl 0 rfl) ?_
                      refine va_zald hx hb hK hP 3 2 rfl rfl (vp_in_nI (by omega) (by omega)) dX1_count_89 ?_
                      refine xt_eq (z := k a) (congrArg k (nI_clamp (by omega))) ?_
                      refine lv_if_eq (tgt := 97) hx hb dX1_count_90 (by decide) (fun c_13 => ?_) (fun c_13 => ?_)
                      · have he := c_13
                        refine lv_iconst (v := 0) hx hb dX1_count_97 (by decide) ?_
                        refine lv_iadd hx hb dX1_count_98 ?_
                        refine xt_eq (z := nI cn) (nI_add cn 0) ?_
                        refine lv_istore_n (lv' := [(2, .int (nI cn)), (3, .int (nI a)), (0, .ref (ad 0)), (1, .int 2)]) hx hb dX1_count_99 rfl hl (by decide) rfl (fun ls hl => ?_)
                        refine lv_iinc (v := nI (a + 1)) (lv' := [(3, .int (nI (a + 1))), (2, .int (nI cn)), (0, .ref (ad 0)), (1, .int 2)]) hx hb dX1_count_100 hl (k := 1) rfl (nI_1 a) (by decide) rfl (fun ls hl => ?_)
                        refine lv_goto (tgt := 72) hx hb dX1_count_103 (by decide) ?_
                        exact ih72 (a + 1) cn (by omega) (cnt_f hcn (fun h => of_decide_eq_true h he)) (by omega) H locs ls hP hD hS (lv_sub hl [0, 1, 2, 3] rfl)
                      · have he := c_13
                        refine lv_iconst (v := 1) hx hb dX1_count_93 (by decide) ?_
                        refine lv_goto (tgt := 98) hx hb dX1_count_94 (by decide) ?_
                        refine lv_iadd hx hb dX1_count_98 ?_
                        refine xt_eq (z := nI (cn + 1)) (nI_1 cn) ?_
                        refine lv_istore_n (lv' := [(2, .int (nI (cn + 1))), (3, .int (nI a)), (0, .ref (ad 0)), (1, .int 2)]) hx hb dX1_count_99 rfl hl (by decide) rfl (fun ls hl => ?_)
                        refine lv_iinc (v := nI (a + 1)) (lv' := [(3, .int (nI (a + 1))), (2, .int (nI (cn + 1))), (0, .ref (ad 0)), (1, .int 2)]) hx hb dX1_count_100 hl (k := 1) rfl (nI_1 a) (by decide) rfl (fun ls hl => ?_)
                        refine lv_goto (tgt := 72) hx hb dX1_count_103 (by decide) ?_
                        exact ih72 (a + 1) (cn + 1) (by omega) (cnt_t hcn (decide_eq_true he)) (by omega) H locs ls hP hD hS (lv_sub hl [0, 1, 2, 3] rfl)
                exact lp72 _ 0 cn (by omega) hcn (Nat.lt_succ_self _) H locs ls hP hD hS (lv_sub hl [0, 1, 2, 3] rfl)
              · have ha4 : a < 40 := Nat.lt_of_not_le (fun h => c_10 (nI_le (a := 40) h (by omega)))
                refine lv_iload_n hx hb dX1_count_41 rfl (lv_at hl 1 rfl) ?_
                refine lv_iload_n hx hb dX1_count_42 rfl (lv_at hl 3 rfl) ?_
                refine lv_iconst (v := 1) hx hb dX1_count_43 (by decide) ?_
                refine lv_icmp_ne (tgt := 61) hx hb dX1_count_44 (by decide) (fun c_14 => ?_) (fun c_14 => absurd c_14 (by decide))
                refine lv_iconst (v := 0) hx hb dX1_count_61 (by decide) ?_
                refine lv_iadd hx hb dX1_count_62 ?_
                refine xt_eq (z := nI cn) (nI_add cn 0) ?_
                refine lv_istore_n (lv' := [(2, .int (nI cn)), (3, .int (nI a)), (0, .ref (ad 0)), (1, .int 2)]) hx hb dX1_count_63 rfl hl (by decide) rfl (fun ls hl => ?_)
                refine lv_iinc (v := nI (a + 1)) (lv' := [(3, .int (nI (a + 1))), (2, .int (nI cn)), (0, .ref (ad 0)), (1, .int 2)]) hx hb dX1_count_64 hl (k := 1) rfl (nI_1 a) (by decide) rfl (fun ls hl => ?_)
                refine lv_goto (tgt := 35) hx hb dX1_count_67 (by decide) ?_
                exact ih35 (a + 1) cn (by omega) hcn (by omega) H locs ls hP hD hS (lv_sub hl [0, 1, 2, 3] rfl)
          exact lp35 _ 0 0 (by omega) rfl (Nat.lt_succ_self _) H locs ls hP hD hS (lv_sub hl [0, 1, 2, 3] rfl)
        · have h2 := c_9
          refine lv_iconst (v := (-1)) hx hb dX1_count_29 (by decide) ?_
          exact xr_i hx hb hr hlocks d (Or.inr (Or.inr (Or.inr (Or.inr ⟨h0, h1, h2, h3, rfl⟩)))) hP hK hD hS dX1_count_30
    · have h3 := c_2
      refine lv_aload_n hx hb dX1_count_14 rfl (lv_at hl 0 rfl) ?_
      refine xs_Vi (wr := []) (q0 := 0) (ci := 1) (nA := 0) (As := []) (rest := []) S0 (k_X1_greatest l D ad tt R w c k d wp wr hok) gX1_count_X1_greatest rfl ⟨rfl, rfl⟩ (by decide +kernel) rfl ⟨Nat.le_of_ble_eq_true rfl, Nat.le_of_ble_eq_true rfl⟩ ⟨Nat.le_of_ble_eq_true rfl, Nat.le_of_ble_eq_true rfl⟩ hK hP hD hS hA [0, 1, 2, 3, 4] [] rfl rfl (by decide) (by decide) (by decide) rfl rfl rfl hl.1 rfl (Nat.le_of_ble_eq_true rfl) dX1_count_15 (fun r_15 u1 H locs hw hP hD hS => ?_)
      have hP : va_P D vwCl (mw ad tt R w c k u1 wp wr) H := hP
      have hD : va_D A (mw ad tt R w c k u1 wp wr) := hD
      subst hw
      exact xr_i hx hb hr hlocks u1 (Or.inr (Or.inr (Or.inr (Or.inl ⟨h3, rfl⟩)))) hP hK hD hS dX1_count_18
  · have h0 := c_1
    refine lv_aload_n hx hb dX1_count_4 rfl (lv_at hl 0 rfl) ?_
    refine x1_get (v := .int (nI R)) S0 hin hK hP 0 (by decide) f_routers rfl rfl dX1_count_5 ?_
    exact xr_i hx hb hr hlocks d (Or.inl ⟨h0, rfl⟩) hP hK hD hS dX1_count_8
