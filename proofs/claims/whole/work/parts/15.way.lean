set_option maxHeartbeats 4000000 in
set_option maxRecDepth 100000 in
theorem k_X0_nearestOther (l : Launch) (D : va_G) (ad : Nat → Nat) (tt : Nat → ClassId) (R : Nat) (w c k d n : Nat → Int32) (wp wr : Int32) (hR : R ≤ 10) (r : Nat) (x : Int32) (hrR : r < R) (T0 : Nat → Nat) (hd : ∀ a, a < R → d a = nI (T0 a) ∧ T0 a ≤ 1000000) : xMi l yX0_nearestOther wsX0_nearestOther { frames := 2, cells := 0, slots := 0, locals := 44 } D (tyX tt) [.ref (ad 0), .int (nI r), .int x] (xw ad tt R w c k d n wp wr) (fun _ : Unit => xw ad tt R w c k d n wp wr) (fun v _ => ∃ lt, no_in w T0 1000000 r x R v lt) := by
  refine xe_i (cc := cX0_nearestOther) (maxL := 6) (ret := (some .int)) (lvl := [(0, .ref (ad 0)), (1, .int (nI r)), (2, .int x)]) (by decide) rfl (Nat.le_of_ble_eq_true rfl) rfl ?_
  intro p e s m below meth cd A ls hx hb hr hlocks hml hown hts hA hP hK hD hS hl
  have hin : ∀ w ∈ wsX00, w ∈ wsX0_nearestOther := fun _ h => List.mem_cons_of_mem _ (List.mem_append_right _ h)
  have S0 : CallFix p m cd cX0_nearestOther 6 s (([.ref (ad 0), .int (nI r), .int x] : List Value).toArray) wsX0_nearestOther RX0 := ⟨hx, hb, hml, hown, hts⟩
  obtain ⟨H, hH⟩ : ∃ H, H = s.heap := ⟨_, rfl⟩
  obtain ⟨locs, hlocs⟩ : ∃ q : List Loc, q = [] := ⟨_, rfl⟩
  have hP : va_P D vwCl (xw ad tt R w c k d n wp wr) H := by rw [hH]; exact hP
  have hS : va_S A s.heap H locs := by rw [hH, hlocs]; exact hS
  suffices hgo : W p l e (headSpec wsX0_nearestOther ({ frames := 2, cells := 0, slots := 0, locals := 44 } : Room)).room s m (([.ref (ad 0), .int (nI r), .int x] : List Value).toArray) below meth cd H locs 0 0 (MQ below (va_Qi (fun v _ => ∃ lt, no_in w T0 1000000 r x R v lt) (xB D (tyX tt) A (fun _ : Unit => xw ad tt R w c k d n wp wr)) A) ([.ref (ad 0), .int (nI r), .int x] : List Value).toArray s 0 0 A) (F0 m 0 ls []) by rw [hH, hlocs] at hgo; exact hgo
  clear hH hlocs
  have f_routers := hts (.fieldLink RX0 18 "WireWays" "routers" "I") (by decide +kernel)
  have f_distance := hts (.fieldLink RX0 33 "WireWays" "distance" "[I") (by decide +kernel)
  refine lv_iconst (v := (-1)) hx hb dX0_nearestOther_0 (by decide) ?_
  refine lv_istore_n (lv' := [(3, .int (-1)), (0, .ref (ad 0)), (1, .int (nI r)), (2, .int x)]) hx hb dX0_nearestOther_1 rfl hl (by decide) rfl (fun ls hl => ?_)
  refine lv_ldc (v := 1000000) hx hb hown (hts (.constant RX0 83 1000000) (by decide +kernel)) dX0_nearestOther_2 ?_
  refine lv_istore (lv' := [(4, .int 1000000), (3, .int (-1)), (0, .ref (ad 0)), (1, .int (nI r)), (2, .int x)]) hx hb dX0_nearestOther_4 hl (by decide) rfl (fun ls hl => ?_)
  refine lv_iconst (v := 0) hx hb dX0_nearestOther_6 (by decide) ?_
  refine lv_istore (lv' := [(5, .int 0), (4, .int 1000000), (3, .int (-1)), (0, .ref (ad 0)), (1, .int (nI r)), (2, .int x)]) hx hb dX0_nearestOther_7 hl (by decide) rfl (fun ls hl => ?_)
  have lp9 : ∀ (fuel : Nat) (a : Nat) (bv : Int32) (lt : Nat), (a ≤ R) → (no_in w T0 1000000 r x a bv lt) → R - a < fuel → ∀ (H : Heap) (locs : List Loc) (ls : Array Slot), va_P D vwCl (xw ad tt R w c k d n wp wr) H → va_D A (xw ad tt R w c k d n wp wr) → va_S A s.heap H locs → lv_has ls 6 [(5, .int (nI a)), (4, .int (nI lt)), (3, .int bv), (0, .ref (ad 0)), (1, .int (nI r)), (2, .int x)] → W p l e (headSpec wsX0_nearestOther ({ frames := 2, cells := 0, slots := 0, locals := 44 } : Room)).room s m ([.ref (ad 0), .int (nI r), .int x] : List Value).toArray below meth cd H locs 0 0 (MQ below (va_Qi (fun v _ => ∃ lt, no_in w T0 1000000 r x R v lt) (xB D (tyX tt) A (fun _ : Unit => xw ad tt R w c k d n wp wr)) A) ([.ref (ad 0), .int (nI r), .int x] : List Value).toArray s 0 0 A) (F0 m 9 ls []) := by
    intro fuel
    induction fuel with
    | zero => intro a bv lt ha0 hno hm; exact absurd hm (Nat.not_lt_zero _)
    | succ fuel ih9 =>
      intro a bv lt ha0 hno hm H locs ls hP hD hS hl
      refine lv_iload hx hb dX0_nearestOther_9 (lv_at hl 0 rfl) ?_
      refine lv_aload_n hx hb dX0_nearestOther_11 rfl (lv_at hl 3 rfl) ?_
      refine x0_get (v := .int (nI R)) S0 hin hK hP 0 (by decide) f_routers rfl rfl dX0_nearestOther_12 ?_
      refine lv_icmp_ge (tgt := 65) hx hb dX0_nearestOther_15 (by decide) (fun c_1 => ?_) (fun c_1 => ?_)
      · have haR : R ≤ a := (nI_leI (by omega) (by omega)).mp c_1
        refine lv_iload_n hx hb dX0_nearestOther_65 rfl (lv_at hl 2 rfl) ?_
        exact xr_i hx hb hr hlocks () ⟨lt, by rw [show R = a by omega]; exact hno⟩ hP hK hD hS dX0_nearestOther_66
      · have haR : a < R := Nat.lt_of_not_le (fun h => c_1 (nI_le h (by omega)))
        have hda := hd a haR
        have hlK := no_le hno
        refine lv_iload hx hb dX0_nearestOther_18 (lv_at hl 0 rfl) ?_
        refine lv_iload_n hx hb dX0_nearestOther_20 rfl (lv_at hl 4 rfl) ?_
        refine lv_icmp_eq (tgt := 59) hx hb dX0_nearestOther_21 (by decide) (fun c_2 => ?_) (fun c_2 => ?_)
        · have hsk : a ≠ r → ww_on w a x → lt ≤ T0 a := fun h => absurd ((nI_eq (by omega) (by omega)).mp c_2) h
          refine lv_iinc (v := nI (a + 1)) (lv' := [(5, .int (nI (a + 1))), (4, .int (nI lt)), (3, .int bv), (0, .ref (ad 0)), (1, .int (nI r)), (2, .int x)]) hx hb dX0_nearestOther_59 hl (k := 0) rfl (nI_1 a) (by decide) rfl (fun ls hl => ?_)
          refine lv_goto (tgt := 9) hx hb dX0_nearestOther_62 (by decide) ?_
          exact ih9 (a + 1) bv lt (by omega) (no_skip hno hsk) (by omega) H locs ls hP hD hS (lv_sub hl [0, 1, 2, 3, 4, 5] rfl)
        · have hne : a ≠ r := fun h => c_2 (congrArg nI h)
          refine lv_aload_n hx hb dX0_nearestOther_24 rfl (lv_at hl 3 rfl) ?_
          refine x0_get (v := .ref (ad 4)) S0 hin hK hP 4 (by decide) f_distance rfl rfl dX0_nearestOther_25 ?_
          refine lv_iload hx hb dX0_nearestOther_28 (lv_at hl 0 rfl) ?_
          refine va_iald hx hb hK hP 4 3 rfl rfl (vp_in_nI (by omega) (by omega)) dX0_nearestOther_30 ?_
          refine xt_eq (z := d a) (congrArg d (nI_clamp (by omega))) ?_
          refine xt_eq (z := nI (T0 a)) hda.1 ?_
          refine lv_iload hx hb dX0_nearestOther_31 (lv_at hl 1 rfl) ?_
          refine lv_icmp_ge (tgt := 59) hx hb dX0_nearestOther_33 (by decide) (fun c_3 => ?_) (fun c_3 => ?_)
          · have hsk : a ≠ r → ww_on w a x → lt ≤ T0 a := fun _ _ => (nI_leI (by omega) (by omega)).mp c_3
            refine lv_iinc (v := nI (a + 1)) (lv' := [(5, .int (nI (a + 1))), (4, .int (nI lt)), (3, .int bv), (0, .ref (ad 0)), (1, .int (nI r)), (2, .int x)]) hx hb dX0_nearestOther_59 hl (k := 0) rfl (nI_1 a) (by decide) rfl (fun ls hl => ?_)
            refine lv_goto (tgt := 9) hx hb dX0_nearestOther_62 (by decide) ?_
            exact ih9 (a + 1) bv lt (by omega) (no_skip hno hsk) (by omega) H locs ls hP hD hS (lv_sub hl [0, 1, 2, 3, 4, 5] rfl)
          · have hlt : T0 a < lt := Nat.lt_of_not_le (fun h => c_3 (nI_le h (by omega)))
            refine lv_aload_n hx hb dX0_nearestOther_36 rfl (lv_at hl 3 rfl) ?_
            refine lv_iload hx hb dX0_nearestOther_37 (lv_at hl 0 rfl) ?_
            refine lv_iload_n hx hb dX0_nearestOther_39 rfl (lv_at hl 5 rfl) ?_
            refine xs_Vi (wr := []) (q0 := 0) (ci := 0) (nA := 2) (As := [.int (nI a), .int x]) (rest := []) S0 (k_X0_portOn l D ad tt R w c k d n wp wr a x (by omega)) gX0_nearestOther_X0_portOn rfl ⟨rfl, rfl⟩ (by decide +kernel) rfl ⟨Nat.le_of_ble_eq_true rfl, Nat.le_of_ble_eq_true rfl⟩ ⟨Nat.le_of_ble_eq_true rfl, Nat.le_of_ble_eq_true rfl⟩ hK hP hD hS hA [0, 1, 2, 3, 4, 5] [] rfl rfl (by decide) (by decide) (by decide) rfl rfl rfl hl.1 rfl (Nat.le_of_ble_eq_true rfl) dX0_nearestOther_40 (fun r_4 u H locs hw hP hD hS => ?_)
            have hP : va_P D vwCl (xw ad tt R w c k d n wp wr) H := hP
            have hD : va_D A (xw ad tt R w c k d n wp wr) := hD
            have h_po := hw
            refine lv_iconst (v := (-1)) hx hb dX0_nearestOther_43 (by decide) ?_
            refine lv_icmp_eq (tgt := 59) hx hb dX0_nearestOther_44 (by decide) (fun c_5 => ?_) (fun c_5 => ?_)
            · have hsk : a ≠ r → ww_on w a x → lt ≤ T0 a := fun _ h => absurd h ((ww_po_on h_po).mp c_5)
              refine lv_iinc (v := nI (a + 1)) (lv' := [(5, .int (nI (a + 1))), (4, .int (nI lt)), (3, .int bv), (0, .ref (ad 0)), (1, .int (nI r)), (2, .int x)]) hx hb dX0_nearestOther_59 hl (k := 0) rfl (nI_1 a) (by decide) rfl (fun ls hl => ?_)
              refine lv_goto (tgt := 9) hx hb dX0_nearestOther_62 (by decide) ?_
              exact ih9 (a + 1) bv lt (by omega) (no_skip hno hsk) (by omega) H locs ls hP hD hS (lv_sub hl [0, 1, 2, 3, 4, 5] rfl)
            · have hon := ww_on_of (v := 0) h_po c_5
              refine lv_iload hx hb dX0_nearestOther_47 (lv_at hl 0 rfl) ?_
              refine lv_istore_n (lv' := [(3, .int (nI a)), (5, .int (nI a)), (4, .int (nI lt)), (0, .ref (ad 0)), (1, .int (nI r)), (2, .int x)]) hx hb dX0_nearestOther_49 rfl hl (by decide) rfl (fun ls hl => ?_)
              refine lv_aload_n hx hb dX0_nearestOther_50 rfl (lv_at hl 3 rfl) ?_
              refine x0_get (v := .ref (ad 4)) S0 hin hK hP 4 (by decide) f_distance rfl rfl dX0_nearestOther_51 ?_
              refine lv_iload hx hb dX0_nearestOther_54 (lv_at hl 1 rfl) ?_
              refine va_iald hx hb hK hP 4 3 rfl rfl (vp_in_nI (by omega) (by omega)) dX0_nearestOther_56 ?_
              refine xt_eq (z := d a) (congrArg d (nI_clamp (by omega))) ?_
              refine xt_eq (z := nI (T0 a)) hda.1 ?_
              refine lv_istore (lv' := [(4, .int (nI (T0 a))), (3, .int (nI a)), (5, .int (nI a)), (0, .ref (ad 0)), (1, .int (nI r)), (2, .int x)]) hx hb dX0_nearestOther_57 hl (by decide) rfl (fun ls hl => ?_)
              refine lv_iinc (v := nI (a + 1)) (lv' := [(5, .int (nI (a + 1))), (4, .int (nI (T0 a))), (3, .int (nI a)), (0, .ref (ad 0)), (1, .int (nI r)), (2, .int x)]) hx hb dX0_nearestOther_59 hl (k := 2) rfl (nI_1 a) (by decide) rfl (fun ls hl => ?_)
              refine lv_goto (tgt := 9) hx hb dX0_nearestOther_62 (by decide) ?_
              exact ih9 (a + 1) (nI a) (T0 a) (by omega) (no_put hno hne hon hlt) (by omega) H locs ls hP hD hS (lv_sub hl [0, 1, 2, 3, 4, 5] rfl)
  exact lp9 _ 0 (-1) 1000000 (by omega) no_0 (Nat.lt_succ_self _) H locs ls hP hD hS (lv_sub hl [0, 1, 2, 3, 4, 5] rfl)
set_option maxHeartbeats 4000000 in
set_option maxRecDepth 100000 in
theorem k_X0_findWay (l : Launch) (D : va_G) (ad : Nat → Nat) (tt : Nat → ClassId) (R : Nat) (w c k d n : Nat → Int32) (wp wr : Int32) (hok : ww_ok R w c) (ov : Int32) (t : Nat) (T0 : Nat → Nat) (hT0 : dm_ok R (ww_tg w k ov t) (ww_E R w k) (ww_c c) 1000000 T0) (hd0 : ∀ a, a < R → d a = nI (T0 a)) (r : Nat) (hrR : r < R) (hrK : T0 r < 1000000) : xMv l yX0_findWay wsX0_findWay { frames := 3, cells := 0, slots := 0, locals := 69 } D (tyX tt) [.ref (ad 0), .int (nI r), .int ov, .int (nI t)] (xw ad tt R w c k d n wp wr) (fun u : Int32 × Int32 => xw ad tt R w c k d n u.1 u.2) (fun u => fw_ok R w c k ov t 1000000 T0 r u.1 u.2) := by
  refine xe_v (cc := cX0_findWay) (maxL := 8) (ret := none) (lvl := [(0, .ref (ad 0)), (1, .int (nI r)), (2, .int ov), (3, .int (nI t))]) (by decide) rfl (Nat.le_of_ble_eq_true rfl) rfl ?_
  intro p e s m below meth cd A ls hx hb hr hlocks hml hown hts hA hP hK hD hS hl
  have hin : ∀ w ∈ wsX00, w ∈ wsX0_findWay := fun _ h => List.mem_cons_of_mem _ (List.mem_append_right _ h)
  have S0 : CallFix p m cd cX0_findWay 8 s (([.ref (ad 0), .int (nI r), .int ov, .int (nI t)] : List Value).toArray) wsX0_findWay RX0 := ⟨hx, hb, hml, hown, hts⟩
  obtain ⟨H, hH⟩ : ∃ H, H = s.heap := ⟨_, rfl⟩
  obtain ⟨locs, hlocs⟩ : ∃ q : List Loc, q = [] := ⟨_, rfl⟩
  have hP : va_P D vwCl (xw ad tt R w c k d n wp wr) H := by rw [hH]; exact hP
  have hS : va_S A s.heap H locs := by rw [hH, hlocs]; exact hS
  suffices hgo : W p l e (headSpec wsX0_findWay ({ frames := 3, cells := 0, slots := 0, locals := 69 } : Room)).room s m (([.ref (ad 0), .int (nI r), .int ov, .int (nI t)] : List Value).toArray) below meth cd H locs 0 0 (MQ below (va_Qv (fun u => fw_ok R w c k ov t 1000000 T0 r u.1 u.2) (xB D (tyX tt) A (fun u : Int32 × Int32 => xw ad tt R w c k d n u.1 u.2)) A) ([.ref (ad 0), .int (nI r), .int ov, .int (nI t)] : List Value).toArray s 0 0 A) (F0 m 0 ls []) by rw [hH, hlocs] at hgo; exact hgo
  clear hH hlocs
  have f_wireAt := hts (.fieldLink RX0 22 "WireWays" "wireAt" "[I") (by decide +kernel)
  have f_costAt := hts (.fieldLink RX0 26 "WireWays" "costAt" "[I") (by decide +kernel)
  have f_distance := hts (.fieldLink RX0 33 "WireWays" "distance" "[I") (by decide +kernel)
  have f_wayPort := hts (.fieldLink RX0 39 "WireWays" "wayPort" "I") (by decide +kernel)
  have f_wayRouter := hts (.fieldLink RX0 42 "WireWays" "wayRouter" "I") (by decide +kernel)
  have hR : R ≤ 10 := hok.2.1
  have hd : ∀ a, a < R → d a = nI (T0 a) ∧ T0 a ≤ 1000000 := fun a h => ⟨hd0 a h, hT0.1 a h⟩
  refine lv_aload_n hx hb dX0_findWay_0 rfl (lv_at hl 0 rfl) ?_
  refine lv_iconst (v := (-1)) hx hb dX0_findWay_1 (by decide) ?_
  refine x0_put (v := .int (-1)) S0 hin hK hP hD hS 6 (by decide) f_wayPort rfl rfl rfl rfl rfl (Nat.le_of_ble_eq_true rfl) dX0_findWay_2 (fun H locs hP hD hS => ?_)
  have hP : va_P D vwCl (xw ad tt R w c k d n (-1) wr) H := hP
  have hD : va_D A (xw ad tt R w c k d n (-1) wr) := hD
  refine lv_aload_n hx hb dX0_findWay_5 rfl (lv_at hl 0 rfl) ?_
  refine lv_iconst (v := (-1)) hx hb dX0_findWay_6 (by decide) ?_
  refine x0_put (v := .int (-1)) S0 hin hK hP hD hS 7 (by decide) f_wayRouter rfl rfl rfl rfl rfl (Nat.le_of_ble_eq_true rfl) dX0_findWay_7 (fun H locs hP hD hS => ?_)
  have hP : va_P D vwCl (xw ad tt R w c k d n (-1) (-1)) H := hP
  have hD : va_D A (xw ad tt R w c k d n (-1) (-1)) := hD
  refine lv_aload_n hx hb dX0_findWay_10 rfl (lv_at hl 0 rfl) ?_
  refine x0_get (v := .ref (ad 4)) S0 hin hK hP 4 (by decide) f_distance rfl rfl dX0_findWay_11 ?_
  refine lv_iload_n hx hb dX0_findWay_14 rfl (lv_at hl 1 rfl) ?_
  refine va_iald hx hb hK hP 4 3 rfl rfl (vp_in_nI (by omega) (by omega)) dX0_findWay_15 ?_
  refine xt_eq (z := d r) (congrArg d (nI_clamp (by omega))) ?_
  refine xt_eq (z := nI (T0 r)) (hd r hrR).1 ?_
  refine lv_if_ne (tgt := 38) hx hb dX0_findWay_16 (by decide) (fun c_1 => ?_) (fun c_1 => ?_)
  · have htg : ¬ ww_tg w k ov t r := fun h => c_1 (by rw [hT0.2.1 r hrR h]; rfl)
    refine lv_ldc (v := 1000000) hx hb hown (hts (.constant RX0 83 1000000) (by decide +kernel)) dX0_findWay_38 ?_
    refine lv_istore (lv' := [(4, .int 1000000), (0, .ref (ad 0)), (1, .int (nI r)), (2, .int ov), (3, .int (nI t))]) hx hb dX0_findWay_40 hl (by decide) rfl (fun ls hl => ?_)
    refine lv_iconst (v := 0) hx hb dX0_findWay_42 (by decide) ?_
    refine lv_istore (lv' := [(5, .int 0), (4, .int 1000000), (0, .ref (ad 0)), (1, .int (nI r)), (2, .int ov), (3, .int (nI t))]) hx hb dX0_findWay_43 hl (by decide) rfl (fun ls hl => ?_)
    have lp45 : ∀ (fuel : Nat) (j : Nat) (lt : Nat) (p1 : Int32) (q1 : Int32), (j ≤ 4) → (lt ≤ 1000000) → (fw_in (ww_E R w k) (ww_c c) 1000000 T0 r j lt p1 q1) → 4 - j < fuel → ∀ (H : Heap) (locs : List Loc) (ls : Array Slot), va_P D vwCl (xw ad tt R w c k d n p1 q1) H → va_D A (xw ad tt R w c k d n p1 q1) → va_S A s.heap H locs → lv_has ls 8 [(5, .int (nI j)), (4, .int (nI lt)), (0, .ref (ad 0)), (1, .int (nI r)), (2, .int ov), (3, .int (nI t))] → W p l e (headSpec wsX0_findWay ({ frames := 3, cells := 0, slots := 0, locals := 69 } : Room)).room s m ([.ref (ad 0), .int (nI r), .int ov, .int (nI t)] : List Value).toArray below meth cd H locs 0 0 (MQ below (va_Qv (fun u => fw_ok R w c k ov t 1000000 T0 r u.1 u.2) (xB D (tyX tt) A (fun u : Int32 × Int32 => xw ad tt R w c k d n u.1 u.2)) A) ([.ref (ad 0), .int (nI r), .int ov, .int (nI t)] : List Value).toArray s 0 0 A) (F0 m 45 ls []) := by
      intro fuel
      induction fuel with
      | zero => intro j lt p1 q1 hj0 hlK hfw hm; exact absurd hm (Nat.not_lt_zero _)
      | succ fuel ih45 =>
        intro j lt p1 q1 hj0 hlK hfw hm H locs ls hP hD hS hl
        refine lv_iload hx hb dX0_findWay_45 (lv_at hl 0 rfl) ?_
        refine lv_iconst (v := 4) hx hb dX0_findWay_47 (by decide) ?_
        refine lv_icmp_ge (tgt := 155) hx hb dX0_findWay_48 (by decide) (fun c_2 => ?_) (fun c_2 => ?_)
        · have hj4 : 4 ≤ j := (nI_leI (a := 4) (by omega) (by omega)).mp c_2
          exact xr_v hx hb hr hlocks (p1, q1) ⟨fun h => absurd h htg, fun _ => fw_way (by rw [show 4 = j by omega]; exact hfw) (fun p b hE => ww_E4 hE) (by obtain ⟨p, b, hE, hq⟩ := hT0.2.2.2 r hrR htg hrK; exact ⟨p, b, hE, by omega⟩)⟩ hP hK hD hS dX0_findWay_155
        · have hj4 : j < 4 := Nat.lt_of_not_le (fun h => c_2 (nI_le (a := 4) h (by omega)))
          refine lv_iload_n hx hb dX0_findWay_51 rfl (lv_at hl 3 rfl) ?_
          refine lv_iload hx hb dX0_findWay_52 (lv_at hl 0 rfl) ?_
          refine xs_Si (nA := 2) (As := [.int (nI r), .int (nI j)]) (rest := []) S0 (k_X0_placeOf l D (nI r) (nI j)) gX0_findWay_X0_placeOf rfl ⟨rfl, rfl⟩ (by decide +kernel) rfl ⟨Nat.le_of_ble_eq_true rfl, Nat.le_of_ble_eq_true rfl⟩ ⟨Nat.le_of_ble_eq_true rfl, Nat.le_of_ble_eq_true rfl⟩ hK hP hD hS hA hl.1 rfl (Nat.le_of_ble_eq_true rfl) dX0_findWay_54 (fun r_3 H locs hw hP hD hS => ?_)
          have hw : r_3 = nI (4 * r + j) := by rw [hw]; exact nI_pl _ _
          subst hw
          refine lv_istore (lv' := [(6, .int (nI (4 * r + j))), (5, .int (nI j)), (4, .int (nI lt)), (0, .ref (ad 0)), (1, .int (nI r)), (2, .int ov), (3, .int (nI t))]) hx hb dX0_findWay_57 hl (by decide) rfl (fun ls hl => ?_)
          refine lv_aload_n hx hb dX0_findWay_59 rfl (lv_at hl 3 rfl) ?_
          refine lv_aload_n hx hb dX0_findWay_60 rfl (lv_at hl 3 rfl) ?_
          refine x0_get (v := .ref (ad 1)) S0 hin hK hP 1 (by decide) f_wireAt rfl rfl dX0_findWay_61 ?_
          refine lv_iload hx hb dX0_findWay_64 (lv_at hl 0 rfl) ?_
          refine va_iald hx hb hK hP 1 0 rfl rfl (vp_in_nI (by omega) (by omega)) dX0_findWay_66 ?_
          refine xt_eq (z := w (4 * r + j)) (congrArg w (nI_clamp (by omega))) ?_
          refine xs_Vi (wr := []) (q0 := 0) (ci := 0) (nA := 1) (As := [.int (w (4 * r + j))]) (rest := []) S0 (k_X0_isUp l D ad tt R w c k d n p1 q1 (w (4 * r + j))) gX0_findWay_X0_isUp rfl ⟨rfl, rfl⟩ (by decide +kernel) rfl ⟨Nat.le_of_ble_eq_true rfl, Nat.le_of_ble_eq_true rfl⟩ ⟨Nat.le_of_ble_eq_true rfl, Nat.le_of_ble_eq_true rfl⟩ hK hP hD hS hA [0, 1, 2, 3, 4, 5] [] rfl rfl (by decide) (by decide) (by decide) rfl rfl rfl hl.1 rfl (Nat.le_of_ble_eq_true rfl) dX0_findWay_67 (fun r_4 u H locs hw hP hD hS => ?_)
          have hP : va_P D vwCl (xw ad tt R w c k d n p1 q1) H := hP
          have hD : va_D A (xw ad tt R w c k d n p1 q1) := hD
          rcases hw with ⟨rfl, h_u⟩ | ⟨rfl, h_u⟩
          · refine lv_if_eq (tgt := 88) hx hb dX0_findWay_70 (by decide) (fun c_5 => absurd c_5 (by decide)) (fun c_5 => ?_)
            obtain ⟨x, hx6, ex, hk0⟩ := h_u
            have hcc := ww_c_ok hok hrR hj4 hx6 ex
            refine lv_aload_n hx hb dX0_findWay_73 rfl (lv_at hl 3 rfl) ?_
            refine lv_iload_n hx hb dX0_findWay_74 rfl (lv_at hl 4 rfl) ?_
            refine lv_aload_n hx hb dX0_findWay_75 rfl (lv_at hl 3 rfl) ?_
            refine x0_get (v := .ref (ad 1)) S0 hin hK hP 1 (by decide) f_wireAt rfl rfl dX0_findWay_76 ?_
            refine lv_iload hx hb dX0_findWay_79 (lv_at hl 0 rfl) ?_
            refine va_iald hx hb hK hP 1 0 rfl rfl (vp_in_nI (by omega) (by omega)) dX0_findWay_81 ?_
            refine xt_eq (z := w (4 * r + j)) (congrArg w (nI_clamp (by omega))) ?_
            refine xs_Vi (wr := []) (q0 := 0) (ci := 0) (nA := 2) (As := [.int (nI r), .int (w (4 * r + j))]) (rest := []) S0 (k_X0_nearestOther l D ad tt R w c k d n p1 q1 hR r (w (4 * r + j)) hrR T0 hd) gX0_findWay_X0_nearestOther rfl ⟨rfl, rfl⟩ (by decide +kernel) rfl ⟨Nat.le_of_ble_eq_true rfl, Nat.le_of_ble_eq_true rfl⟩ ⟨Nat.le_of_ble_eq_true rfl, Nat.le_of_ble_eq_true rfl⟩ hK hP hD hS hA [0, 1, 2, 3, 4, 5] [] rfl rfl (by decide) (by decide) (by decide) rfl rfl rfl hl.1 rfl (Nat.le_of_ble_eq_true rfl) dX0_findWay_82 (fun r_6 u H locs hw hP hD hS => ?_)
            have hP : va_P D vwCl (xw ad tt R w c k d n p1 q1) H := hP
            have hD : va_D A (xw ad tt R w c k d n p1 q1) := hD
            obtain ⟨l2, h_no⟩ := hw
            rcases h_no with ⟨rfl, hl2, hnone⟩ | ⟨b, hbR, hbr, rfl, hbon, hbl, hbK, hbmin⟩
            · refine lv_goto (tgt := 89) hx hb dX0_findWay_85 (by decide) ?_
              refine lv_istore (lv' := [(7, .int (-1)), (6, .int (nI (4 * r + j))), (5, .int (nI j)), (4, .int (nI lt)), (0, .ref (ad 0)), (1, .int (nI r)), (2, .int ov), (3, .int (nI t))]) hx hb dX0_findWay_89 hl (by decide) rfl (fun ls hl => ?_)
              refine lv_aload_n hx hb dX0_findWay_91 rfl (lv_at hl 4 rfl) ?_
              refine lv_iload hx hb dX0_findWay_92 (lv_at hl 0 rfl) ?_
              refine xs_Vi (wr := []) (q0 := 0) (ci := 0) (nA := 1) (As := [.int (-1)]) (rest := []) S0 (k_X0_isRouter l D ad tt R w c k d n p1 q1 (-1) hR) gX0_findWay_X0_isRouter rfl ⟨rfl, rfl⟩ (by decide +kernel) rfl ⟨Nat.le_of_ble_eq_true rfl, Nat.le_of_ble_eq_true rfl⟩ ⟨Nat.le_of_ble_eq_true rfl, Nat.le_of_ble_eq_true rfl⟩ hK hP hD hS hA [0, 1, 2, 3, 4, 5] [] rfl rfl (by decide) (by decide) (by decide) rfl rfl rfl hl.1 rfl (Nat.le_of_ble_eq_true rfl) dX0_findWay_94 (fun r_7 u H locs hw hP hD hS => ?_)
              have hP : va_P D vwCl (xw ad tt R w c k d n p1 q1) H := hP
              have hD : va_D A (xw ad tt R w c k d n p1 q1) := hD
              rcases hw with ⟨rfl, h_r⟩ | ⟨rfl, h_r⟩
              · exact absurd h_r (ix_nm (by omega))
              · refine lv_if_eq (tgt := 149) hx hb dX0_findWay_97 (by decide) (fun c_8 => ?_) (fun c_8 => absurd c_8 (by decide))
                refine lv_iinc (v := nI (j + 1)) (lv' := [(5, .int (nI (j + 1))), (7, .int (-1)), (6, .int (nI (4 * r + j))), (4, .int (nI lt)), (0, .ref (ad 0)), (1, .int (nI r)), (2, .int ov), (3, .int (nI t))]) hx hb dX0_findWay_149 hl (k := 2) rfl (nI_1 j) (by decide) rfl (fun ls hl => ?_)
                refine lv_goto (tgt := 45) hx hb dX0_findWay_152 (by decide) ?_
                exact ih45 (j + 1) lt p1 q1 (by omega) hlK (fw_skip hfw (fun b' hE hk => absurd hk (hnone b' (no_E hx6 ex hE).1 (no_E hx6 ex hE).2.1 (no_E hx6 ex hE).2.2)) (fun _ b' hE => hnone b' (no_E hx6 ex hE).1 (no_E hx6 ex hE).2.1 (no_E hx6 ex hE).2.2)) (by omega) H locs ls hP hD hS (lv_sub hl [0, 3, 4, 5, 6, 7] rfl)
            · have hsm := dm_small (ww_gr hok) hT0 hbR (by omega)
              refine lv_goto (tgt := 89) hx hb dX0_findWay_85 (by decide) ?_
              refine lv_istore (lv' := [(7, .int (nI b)), (6, .int (nI (4 * r + j))), (5, .int (nI j)), (4, .int (nI lt)), (0, .ref (ad 0)), (1, .int (nI r)), (2, .int ov), (3, .int (nI t))]) hx hb dX0_findWay_89 hl (by decide) rfl (fun ls hl => ?_)
              refine lv_aload_n hx hb dX0_findWay_91 rfl (lv_at hl 4 rfl) ?_
              refine lv_iload hx hb dX0_findWay_92 (lv_at hl 0 rfl) ?_
              refine xs_Vi (wr := []) (q0 := 0) (ci := 0) (nA := 1) (As := [.int (nI b)]) (rest := []) S0 (k_X0_isRouter l D ad tt R w c k d n p1 q1 (nI b) hR) gX0_findWay_X0_isRouter rfl ⟨rfl, rfl⟩ (by decide +kernel) rfl ⟨Nat.le_of_ble_eq_true rfl, Nat.le_of_ble_eq_true rfl⟩ ⟨Nat.le_of_ble_eq_true rfl, Nat.le_of_ble_eq_true rfl⟩ hK hP hD hS hA [0, 1, 2, 3, 4, 5] [] rfl rfl (by decide) (by decide) (by decide) rfl rfl rfl hl.1 rfl (Nat.le_of_ble_eq_true rfl) dX0_findWay_94 (fun r_9 u H locs hw hP hD hS => ?_)
              have hP : va_P D vwCl (xw ad tt R w c k d n p1 q1) H := hP
              have hD : va_D A (xw ad tt R w c k d n p1 q1) := hD
              rcases hw with ⟨rfl, h_r⟩ | ⟨rfl, h_r⟩
              · refine lv_if_eq (tgt := 149) hx hb dX0_findWay_97 (by decide) (fun c_10 => absurd c_10 (by decide)) (fun c_10 => ?_)
                refine lv_aload_n hx hb dX0_findWay_100 rfl (lv_at hl 4 rfl) ?_
                refine x0_get (v := .ref (ad 2)) S0 hin hK hP 2 (by decide) f_costAt rfl rfl dX0_findWay_101 ?_
                refine lv_iload hx hb dX0_findWay_104 (lv_at hl 1 rfl) ?_
                refine va_iald hx hb hK hP 2 1 rfl rfl (vp_in_nI (by omega) (by omega)) dX0_findWay_106 ?_
                refine xt_eq (z := c (4 * r + j)) (congrArg c (nI_clamp (by omega))) ?_
                refine xt_eq (z := nI (ww_c c r j)) hcc.1 ?_
                refine lv_aload_n hx hb dX0_findWay_107 rfl (lv_at hl 4 rfl) ?_
                refine x0_get (v := .ref (ad 4)) S0 hin hK hP 4 (by decide) f_distance rfl rfl dX0_findWay_108 ?_
                refine lv_iload hx hb dX0_findWay_111 (lv_at hl 0 rfl) ?_
                refine va_iald hx hb hK hP 4 3 rfl rfl (vp_in_nI (by omega) (by omega)) dX0_findWay_113 ?_
                refine xt_eq (z := d b) (congrArg d (nI_clamp (by omega))) ?_
                refine xt_eq (z := nI (T0 b)) (hd b hbR).1 ?_
                refine lv_iadd hx hb dX0_findWay_114 ?_
                refine xt_eq (z := nI (ww_c c r j + T0 b)) (nI_add _ _) ?_
                refine lv_iload hx hb dX0_findWay_115 (lv_at hl 3 rfl) ?_
                refine lv_icmp_ge (tgt := 149) hx hb dX0_findWay_117 (by decide) (fun c_11 => ?_) (fun c_11 => ?_)
                · have hle : lt ≤ ww_c c r j + T0 b := (nI_leI (by omega) (by omega)).mp c_11
                  refine lv_iinc (v := nI (j + 1)) (lv' := [(5, .int (nI (j + 1))), (7, .int (nI b)), (6, .int (nI (4 * r + j))), (4, .int (nI lt)), (0, .ref (ad 0)), (1, .int (nI r)), (2, .int ov), (3, .int (nI t))]) hx hb dX0_findWay_149 hl (k := 2) rfl (nI_1 j) (by decide) rfl (fun ls hl => ?_)
                  refine lv_goto (tgt := 45) hx hb dX0_findWay_152 (by decide) ?_
                  exact ih45 (j + 1) lt p1 q1 (by omega) hlK (fw_skip hfw (fun b' hE hk => Nat.le_trans hle (Nat.add_le_add_left (by have h9 := hbmin b' (no_E hx6 ex hE).1 (no_E hx6 ex hE).2.1 (no_E hx6 ex hE).2.2 hk; omega) _)) (fun h => absurd hle (by omega))) (by omega) H locs ls hP hD hS (lv_sub hl [0, 3, 4, 5, 6, 7] rfl)
                · have hle : ww_c c r j + T0 b < lt := Nat.lt_of_not_le (fun h => c_11 (nI_le h (by omega)))
                  refine lv_aload_n hx hb dX0_findWay_120 rfl (lv_at hl 4 rfl) ?_
                  refine x0_get (v := .ref (ad 2)) S0 hin hK hP 2 (by decide) f_costAt rfl rfl dX0_findWay_121 ?_
                  refine lv_iload hx hb dX0_findWay_124 (lv_at hl 1 rfl) ?_
                  refine va_iald hx hb hK hP 2 1 rfl rfl (vp_in_nI (by omega) (by omega)) dX0_findWay_126 ?_
                  refine xt_eq (z := c (4 * r + j)) (congrArg c (nI_clamp (by omega))) ?_
                  refine xt_eq (z := nI (ww_c c r j)) hcc.1 ?_
                  refine lv_aload_n hx hb dX0_findWay_127 rfl (lv_at hl 4 rfl) ?_
                  refine x0_get (v := .ref (ad 4)) S0 hin hK hP 4 (by decide) f_distance rfl rfl dX0_findWay_128 ?_
                  refine lv_iload hx hb dX0_findWay_131 (lv_at hl 0 rfl) ?_
                  refine va_iald hx hb hK hP 4 3 rfl rfl (vp_in_nI (by omega) (by omega)) dX0_findWay_133 ?_
                  refine xt_eq (z := d b) (congrArg d (nI_clamp (by omega))) ?_
                  refine xt_eq (z := nI (T0 b)) (hd b hbR).1 ?_
                  refine lv_iadd hx hb dX0_findWay_134 ?_
                  refine xt_eq (z := nI (ww_c c r j + T0 b)) (nI_add _ _) ?_
                  refine lv_istore (lv' := [(4, .int (nI (ww_c c r j + T0 b))), (7, .int (nI b)), (6, .int (nI (4 * r + j))), (5, .int (nI j)), (0, .ref (ad 0)), (1, .int (nI r)), (2, .int ov), (3, .int (nI t))]) hx hb dX0_findWay_135 hl (by decide) rfl (fun ls hl => ?_)
                  refine lv_aload_n hx hb dX0_findWay_137 rfl (lv_at hl 4 rfl) ?_
                  refine lv_iload hx hb dX0_findWay_138 (lv_at hl 3 rfl) ?_
                  refine x0_put (v := .int (nI j)) S0 hin hK hP hD hS 6 (by decide) f_wayPort rfl rfl rfl rfl rfl (Nat.le_of_ble_eq_true rfl) dX0_findWay_140 (fun H locs hP hD hS => ?_)
                  have hP : va_P D vwCl (xw ad tt R w c k d n (nI j) q1) H := hP
                  have hD : va_D A (xw ad tt R w c k d n (nI j) q1) := hD
                  refine lv_aload_n hx hb dX0_findWay_143 rfl (lv_at hl 4 rfl) ?_
                  refine lv_iload hx hb dX0_findWay_144 (lv_at hl 1 rfl) ?_
                  refine x0_put (v := .int (nI b)) S0 hin hK hP hD hS 7 (by decide) f_wayRouter rfl rfl rfl rfl rfl (Nat.le_of_ble_eq_true rfl) dX0_findWay_146 (fun H locs hP hD hS => ?_)
                  have hP : va_P D vwCl (xw ad tt R w c k d n (nI j) (nI b)) H := hP
                  have hD : va_D A (xw ad tt R w c k d n (nI j) (nI b)) := hD
                  refine lv_iinc (v := nI (j + 1)) (lv' := [(5, .int (nI (j + 1))), (4, .int (nI (ww_c c r j + T0 b))), (7, .int (nI b)), (6, .int (nI (4 * r + j))), (0, .ref (ad 0)), (1, .int (nI r)), (2, .int ov), (3, .int (nI t))]) hx hb dX0_findWay_149 hl (k := 3) rfl (nI_1 j) (by decide) rfl (fun ls hl => ?_)
                  refine lv_goto (tgt := 45) hx hb dX0_findWay_152 (by decide) ?_
                  exact ih45 (j + 1) (ww_c c r j + T0 b) (nI j) (nI b) (by omega) (by omega) (fw_put hfw ⟨hrR, hj4, hbR, hbr, x, hx6, ex, hk0, by rw [← ex]; exact hbon⟩ (by omega) hle (fun b' hE hk => hbmin b' (no_E hx6 ex hE).1 (no_E hx6 ex hE).2.1 (no_E hx6 ex hE).2.2 hk)) (by omega) H locs ls hP hD hS (lv_sub hl [0, 1, 4, 5, 6, 7] rfl)
              · exact absurd ⟨b, hbR, rfl⟩ h_r
          · refine lv_if_eq (tgt := 88) hx hb dX0_findWay_70 (by decide) (fun c_12 => ?_) (fun c_12 => absurd c_12 (by decide))
            have hnu := h_u
            refine lv_iconst (v := (-1)) hx hb dX0_findWay_88 (by decide) ?_
            refine lv_istore (lv' := [(7, .int (-1)), (6, .int (nI (4 * r + j))), (5, .int (nI j)), (4, .int (nI lt)), (0, .ref (ad 0)), (1, .int (nI r)), (2, .int ov), (3, .int (nI t))]) hx hb dX0_findWay_89 hl (by decide) rfl (fun ls hl => ?_)
            refine lv_aload_n hx hb dX0_findWay_91 rfl (lv_at hl 4 rfl) ?_
            refine lv_iload hx hb dX0_findWay_92 (lv_at hl 0 rfl) ?_
            refine xs_Vi (wr := []) (q0 := 0) (ci := 0) (nA := 1) (As := [.int (-1)]) (rest := []) S0 (k_X0_isRouter l D ad tt R w c k d n p1 q1 (-1) hR) gX0_findWay_X0_isRouter rfl ⟨rfl, rfl⟩ (by decide +kernel) rfl ⟨Nat.le_of_ble_eq_true rfl, Nat.le_of_ble_eq_true rfl⟩ ⟨Nat.le_of_ble_eq_true rfl, Nat.le_of_ble_eq_true rfl⟩ hK hP hD hS hA [0, 1, 2, 3, 4, 5] [] rfl rfl (by decide) (by decide) (by decide) rfl rfl rfl hl.1 rfl (Nat.le_of_ble_eq_true rfl) dX0_findWay_94 (fun r_13 u H locs hw hP hD hS => ?_)
            have hP : va_P D vwCl (xw ad tt R w c k d n p1 q1) H := hP
            have hD : va_D A (xw ad tt R w c k d n p1 q1) := hD
            rcases hw with ⟨rfl, h_r⟩ | ⟨rfl, h_r⟩
            · exact absurd h_r (ix_nm (by omega))
            · refine lv_if_eq (tgt := 149) hx hb dX0_findWay_97 (by decide) (fun c_14 => ?_) (fun c_14 => absurd c_14 (by decide))
              refine lv_iinc (v := nI (j + 1)) (lv' := [(5, .int (nI (j + 1))), (7, .int (-1)), (6, .int (nI (4 * r + j))), (4, .int (nI lt)), (0, .ref (ad 0)), (1, .int (nI r)), (2, .int ov), (3, .int (nI t))]) hx hb dX0_findWay_149 hl (k := 2) rfl (nI_1 j) (by decide) rfl (fun ls hl => ?_)
              refine lv_goto (tgt := 45) hx hb dX0_findWay_152 (by decide) ?_
              exact ih45 (j + 1) lt p1 q1 (by omega) hlK (fw_skip hfw (fun b' hE => (no_notup hnu hE).elim) (fun _ b' hE => (no_notup hnu hE).elim)) (by omega) H locs ls hP hD hS (lv_sub hl [0, 3, 4, 5, 6, 7] rfl)
    exact lp45 _ 0 1000000 (-1) (-1) (by omega) (by omega) fw_0 (Nat.lt_succ_self _) H locs ls hP hD hS (lv_sub hl [0, 1, 2, 3, 4, 5] rfl)
  · have htg : ww_tg w k ov t r := (dm_zero (ww_gr hok) hT0 (by omega) hrR).mp ((nI_eq (b := 0) (by omega) (by omega)).mp c_1)
    refine lv_aload_n hx hb dX0_findWay_19 rfl (lv_at hl 0 rfl) ?_
    refine lv_iload_n hx hb dX0_findWay_20 rfl (lv_at hl 2 rfl) ?_
    refine lv_if_eq (tgt := 33) hx hb dX0_findWay_21 (by decide) (fun c_15 => ?_) (fun c_15 => ?_)
    · have hov := c_15
      refine lv_iconst (v := (-1)) hx hb dX0_findWay_33 (by decide) ?_
      refine x0_put (v := .int (-1)) S0 hin hK hP hD hS 6 (by decide) f_wayPort rfl rfl rfl rfl rfl (Nat.le_of_ble_eq_true rfl) dX0_findWay_34 (fun H locs hP hD hS => ?_)
      have hP : va_P D vwCl (xw ad tt R w c k d n (-1) (-1)) H := hP
      have hD : va_D A (xw ad tt R w c k d n (-1) (-1)) := hD
      exact xr_v hx hb hr hlocks ((-1), (-1)) ⟨fun _ => ⟨rfl, fun _ => rfl, fun h => absurd hov h⟩, fun h => absurd htg h⟩ hP hK hD hS dX0_findWay_37
    · have hov := c_15
      refine lv_aload_n hx hb dX0_findWay_24 rfl (lv_at hl 0 rfl) ?_
      refine lv_iload_n hx hb dX0_findWay_25 rfl (lv_at hl 1 rfl) ?_
      refine lv_iload_n hx hb dX0_findWay_26 rfl (lv_at hl 3 rfl) ?_
      refine xs_Vi (wr := []) (q0 := 0) (ci := 0) (nA := 2) (As := [.int (nI r), .int (nI t)]) (rest := [.ref (ad 0)]) S0 (k_X0_portOn l D ad tt R w c k d n (-1) (-1) r (nI t) (by omega)) gX0_findWay_X0_portOn rfl ⟨rfl, rfl⟩ (by decide +kernel) rfl ⟨Nat.le_of_ble_eq_true rfl, Nat.le_of_ble_eq_true rfl⟩ ⟨Nat.le_of_ble_eq_true rfl, Nat.le_of_ble_eq_true rfl⟩ hK hP hD hS hA [0, 1, 2, 3, 4, 5] [] rfl rfl (by decide) (by decide) (by decide) rfl rfl rfl hl.1 rfl (Nat.le_of_ble_eq_true rfl) dX0_findWay_27 (fun r_16 u H locs hw hP hD hS => ?_)
      have hP : va_P D vwCl (xw ad tt R w c k d n (-1) (-1)) H := hP
      have hD : va_D A (xw ad tt R w c k d n (-1) (-1)) := hD
      have h_po := hw
      refine lv_goto (tgt := 34) hx hb dX0_findWay_30 (by decide) ?_
      refine x0_put (v := .int r_16) S0 hin hK hP hD hS 6 (by decide) f_wayPort rfl rfl rfl rfl rfl (Nat.le_of_ble_eq_true rfl) dX0_findWay_34 (fun H locs hP hD hS => ?_)
      have hP : va_P D vwCl (xw ad tt R w c k d n r_16 (-1)) H := hP
      have hD : va_D A (xw ad tt R w c k d n r_16 (-1)) := hD
      exact xr_v hx hb hr hlocks (r_16, (-1)) ⟨fun _ => ⟨rfl, fun h => absurd h hov, fun _ => h_po⟩, fun h => absurd htg h⟩ hP hK hD hS dX0_findWay_37
