set_option maxHeartbeats 4000000 in
set_option maxRecDepth 100000 in
theorem k_X0_nearestOther (l : Launch) (D : va_G) (ad : Nat → Nat) (tt : Nat → ClassId) (R : Nat) (w c k d n : Nat → Int32) (wp wr : Int32) (hR : R ≤ 10) (r : Nat) (x : Int32) (hrR : r < R) (T0 : Nat → Nat) (hd : ∀ a, a < R → d a = nI (T0 a) ∧ T0 a ≤ 1000000) : xMi l yX0_nearestOther wsX0_nearestOther { frames := 2, cells := 0, slots := 0, locals := 44 } D (tyX tt) [.ref (ad 0), .int (nI r), .int x] (xw ad tt R w c k d n wp wr) (fun _ : Unit => xw ad tt R w c k d n wp wr) (fun v _ => ∃ lt, no_in w T0 1000000 r x R v lt) := by
  refine xe_i (cc := cX0_nearestOther) (maxL := 6) (ret := (some .int)) (lvl := [(0, .ref (ad 0)), (1, .int (nI r)), (2, .int x)]) (by decide) rfl (Nat.le_of_ble_eq_true rfl) rfl ?_
  intro p e s m below meth cd A ls hx hb hr hlocks hml hown hts hA hP hK hD hS hl
  have hin : ∀ w ∈ wsX00, w ∈ wsX0_nearestOther := fun _ h => List.mem_cons_of_mem _ (List.mem_append_right _ h)
  have S0 : CallFix p m cd cX0_nearestOther 6 s (([.ref (ad 0), .int (nI r), .int x] : List Value).toArray) wsX0_nearestOther RX0 := ⟨hx, hb, hml, hown, hts⟩
  obtain ⟨H, hH⟩ : ∃ H, H = s.heap := ⟨_, rfl⟩
  obtain ⟨locs, hlocs⟩ : ∃ q : List Loc, q = [] := ⟨_, rfl⟩
  have hP : va_P D vwCl (xw ad tt R w c k d n wp wr) H := by rw [hH]; exact hP
  have hS : va_S A s.heap H locs := by rw [hH, hlocs]; exact hS
  suffices hgo : W p l e (headSpec wsX0_nearestOther ({ frames := 2, cells := 0, slots := 0, locals := 44 } : Room)).room s m (([.ref (ad 0), .int (nI r), .int x] : List Value).toArray) below meth cd H locs 0 0 (MQ below (va_Qi (fun v _ => ∃ lt, no_in w T0 1000000 r x R v lt) (xB D (tyX tt) A (fun _ : Unit => xw ad tt R w c k d n wp wr)) A) ([.ref (ad 0), .int (nI r), .int x] : List Value).toArray s 0 0 A) (F0 m 0 ls []) by rw [hH, hlocs] at hgo; exact hgo
  clear hH hlocs
  have f_routers := hts (.fieldLink RX0 18 "WireWays" "routers" "I") (by decide +kernel)
  have f_distance := hts (.fieldLink RX0 33 "WireWays" "distance" "[I") (by decide +kernel)
  refine lv_iconst (v := (-1)) hx hb dX0_nearestOther_0 (by decide) ?_
  refine lv_istore_n (lv' := [(3, .int (-1)), (0, .ref (ad 0)), (1, .int (nI r)), (2, .int x)]) hx hb dX0_nearestOther_1 rfl hl (by decide) rfl (fun ls hl => ?_)
  refine lv_ldc (v := 1000000) hx hb hown (hts (.constant RX0 83 1000000) (by decide +kernel)) dX0_nearestOther_2 ?_
  refine lv_istore (lv' := [(4, .int 1000000), (3, .int (-1)), (0, .ref (ad 0)), (1, .int (nI r)), (2, .int x)]) hx hb dX0_nearestOther_4 hl (by decide) rfl (fun ls hl => ?_)
  refine lv_iconst (v := 0) hx hb dX0_nearestOther_6 (by decide) ?_
  refine lv_istore (lv' := [(5, .int 0), (4, .int 1000000), (3, .int (-1)), (0, .ref (ad 0)), (1, .int (nI r)), (2, .int x)]) hx hb dX0_nearestOther_7 hl (by decide) rfl (fun ls hl => ?_)
  have lp9 : ∀ (fuel : Nat) (a : Nat) (bv : Int32) (lt : Nat), (a ≤ R) → (no_in w T0 1000000 r x a bv lt) → R - a < fuel → ∀ (H : Heap) (locs : List Loc) (ls : Array Slot), va_P D vwCl (xw ad tt R w c k d n wp wr) H → va_D A (xw ad tt R w c k d n wp wr) → va_S A s.heap H locs → lv_has ls 6 [(5, .int (nI a)), (4, .int (nI lt)), (3, .int bv), (0, .ref (ad 0)), (1, .int (nI r)), (2, .int x)] → W p l e (headSpec wsX0_nearestOther ({ frames := 2, cells := 0, slots := 0, locals := 44 } : Room)).room s m ([.ref (ad 0), .int (nI r), .int x] : List Value).toArray below meth cd H locs 0 0 (MQ below (va_Qi (fun v _ => ∃ lt, no_in w T0 1000000 r x R v lt) (xB D (tyX tt) A (fun _ : Unit => xw ad tt R w c k d n wp wr)) A) ([.ref (ad 0), .int (nI r), .int x] : List Value).toArray s 0 0 A) (F0 m 9 ls []) := by
    intro fuel
    induction fuel with
    | zero => intro a bv lt ha0 hno hm; exact absurd hm (Nat.not_lt_zero _)
    | succ fuel ih9 =>
      intro a bv lt ha0 hno hm H locs ls hP hD hS hl
      refine lv_iload hx hb dX0_nearestOther_9 (lv_at hl 0 rfl) ?_
      refine lv_aload_n hx hb dX0_nearestOther_11 rfl (lv_at hl 3 rfl) ?_
      refine x0_get (v := .int (nI R)) S0 hin hK hP 0 (by decide) f_routers rfl rfl dX0_nearestOther_12 ?_
      refine lv_icmp_ge (tgt := 65) hx hb dX0_nearestOther_15 (by decide) (fun c_1 => ?_) (fun c_1 => ?_)
      · have haR : R ≤ a := (nI_leI (by omega) (by omega)).mp c_1
        refine lv_iload_n hx hb dX0_nearestOther_65 rfl (lv_at hl 2 rfl) ?_
        exact xr_i hx hb hr hlocks () ⟨lt, by rw [show R = a by omega]; exact hno⟩ hP hK hD hS dX0_nearestOther_66
      · have haR : a < R := Nat.lt_of_not_le (fun h => c_1 (nI_le h (by omega)))
        have hda := hd a haR
        have hlK := no_le hno
        refine lv_iload hx hb dX0_nearestOther_18 (lv_at hl 0 rfl) ?_
        refine lv_iload_n hx hb dX0_nearestOther_20 rfl (lv_at hl 4 rfl) ?_
        refine lv_icmp_eq (tgt := 59) hx hb dX0_nearestOther_21 (by decide) (fun c_2 => ?_) (fun c_2 => ?_)
        · have hsk : a ≠ r → ww_on w a x → lt ≤ T0 a := fun h => absurd ((nI_eq (by omega) (by omega)).mp c_2) h
          refine lv_iinc (v := nI (a + 1)) (lv' := [(5, .int (nI (a + 1))), (4, .int (nI lt)), (3, .int bv), (0, .ref (ad 0)), (1, .int (nI r)), (2, .int x)]) hx hb dX0_nearestOther_59 hl (k := 0) rfl (nI_1 a) (by decide) rfl (fun ls hl => ?_)
          refine lv_goto (tgt := 9) hx hb dX0_nearestOther_62 (by decide) ?_
          exact ih9 (a + 1) bv lt (by omega) (no_skip hno hsk) (by omega) H locs ls hP hD hS (lv_sub hl [0, 1, 2, 3, 4, 5] rfl)
        · have hne : a ≠ r := fun h => c_2 (congrArg nI h)
          refine lv_aload_n hx hb dX0_nearestOther_24 rfl (lv_at hl 3 rfl) ?_
          refine x0_get (v := .ref (ad 4)) S0 hin hK hP 4 (by decide) f_distance rfl rfl dX0_nearestOther_25 ?_
          refine lv_iload hx hb dX0_nearestOther_28 (lv_at hl 0 rfl) ?_
          refine va_iald hx hb hK hP 4 3 rfl rfl (vp_in_nI (by omega) (by omega)) dX0_nearestOther_30 ?_
          refine xt_eq (z := d a) (congrArg d (nI_clamp (by omega))) ?_
          refine xt_eq (z := nI (T0 a)) hda.1 ?_
          refine lv_iload hx hb dX0_nearestOther_31 (lv_at hl 1 rfl) ?_
          refine lv_icmp_ge (tgt := 59) hx hb dX0_nearestOther_33 (by decide) (fun c_3 => ?_) (fun c_3 => ?_)
          · have hsk : a ≠ r → ww_on w a x → lt ≤ T0 a := fun _ _ => (nI_leI (by omega) (by omega)).mp c_3
            refine lv_iinc (v := nI (a + 1)) (lv' := [(5, .int (nI (a + 1))), (4, .int (nI lt)), (3, .int bv), (0, .ref (ad 0)), (1, .int (nI r)), (2, .int x)]) hx hb dX0_nearestOther_59 hl (k := 0) rfl (nI_1 a) (by decide) rfl (fun ls hl => ?_)
            refine lv_goto (tgt := 9) hx hb dX0_nearestOther_62 (by decide) ?_
            exact ih9 (a + 1) bv lt (by omega) (no_skip hno hsk) (by omega) H locs ls hP hD hS (lv_sub hl [0, 1, 2, 3, 4, 5] rfl)
          · have hlt : T0 a < lt := Nat.lt_of_not_le (fun h => c_3 (nI_le h (by omega)))
            refine lv_aload_n hx hb dX0_nearestOther_36 rfl (lv_at hl 3 rfl) ?_
            refine lv_iload hx hb dX0_nearestOther_37 (lv_at hl 0 rfl) ?_
            refine lv_iload_n hx hb dX0_nearestOther_39 rfl (lv_at hl 5 rfl) ?_
            refine xs_Vi (wr := []) (q0 := 0) (ci := 0) (nA := 2) (As := [.int (nI a), .int x]) (rest := []) S0 (k_X0_portOn l D ad tt R w c k d n wp wr a x (by omega)) gX0_nearestOther_X0_portOn rfl ⟨rfl, rfl⟩ (by decide +kernel) rfl ⟨Nat.le_of_ble_eq_true rfl, Nat.le_of_ble_eq_true rfl⟩ ⟨Nat.le_of_ble_eq_true rfl, Nat.le_of_ble_eq_true rfl⟩ hK hP hD hS hA [0, 1, 2, 3, 4, 5] [] rfl rfl (by decide) (by decide) (by decide) rfl rfl rfl hl.1 rfl (Nat.le_of_ble_eq_true rfl) dX0_nearestOther_40 (fun r_4 u H locs hw hP hD hS => ?_)
            have hP : va_P D vwCl (xw ad tt R w c k d n wp wr) H := hP
            have hD : va_D A (xw ad tt R w c k d n wp wr) := hD
            have h_po := hw
            refine lv_iconst (v := (-1)) hx hb dX0_nearestOther_43 (by decide) ?_
            refine lv_icmp_eq (tgt := 59) hx hb dX0_nearestOther_44 (by decide) (fun c_5 => ?_) (fun c_5 => ?_)
            · have hsk : a ≠ r → ww_on w a x → lt ≤ T0 a := fun _ h => absurd h ((ww_po_on h_po).mp c_5)
              refine lv_iinc (v := nI (a + 1)) (lv' := [(5, .int (nI (a + 1))), (4, .int (nI lt)), (3, .int bv), (0, .ref (ad 0)), (1, .int (nI r)), (2, .int x)]) hx hb dX0_nearestOther_59 hl (k := 0) rfl (nI_1 a) (by decide) rfl (fun ls hl => ?_)
              refine lv_goto (tgt := 9) hx hb dX0_nearestOther_62 (by decide) ?_
              exact ih9 (a + 1) bv lt (by omega) (no_skip hno hsk) (by omega) H locs ls hP hD hS (lv_sub hl [0, 1, 2, 3, 4, 5] rfl)
            · have hon := ww_on_of (v := 0) h_po c_5
              refine lv_iload hx hb dX0_nearestOther_47 (lv_at hl 0 rfl) ?_
              refine lv_istore_n (lv' := [(3, .int (nI a)), (5, .int (nI a)), (4, .int (nI lt)), (0, .ref (ad 0)), (1, .int (nI r)), (2, .int x)]) hx hb dX0_nearestOther_49 rfl hl (by decide) rfl (fun ls hl => ?_)
              refine lv_aload_n hx hb dX0_nearestOther_50 rfl (lv_at hl 3 rfl) ?_
              refine x0_get (v := .ref (ad 4)) S0 hin hK hP 4 (by decide) f_distance rfl rfl dX0_nearestOther_51 ?_
              refine lv_iload hx hb dX0_nearestOther_54 (lv_at hl 1 rfl) ?_
              refine va_iald hx hb hK hP 4 3 rfl rfl (vp_in_nI (by omega) (by omega)) dX0_nearestOther_56 ?_
              refine xt_eq (z := d a) (congrArg d (nI_clamp (by omega))) ?_
              refine xt_eq (z := nI (T0 a)) hda.1 ?_
              refine lv_istore (lv' := [(4, .int (nI (T0 a))), (3, .int (nI a)), (5, .int (nI a)), (0, .ref (ad 0)), (1, .int (nI r)), (2, .int x)]) hx hb dX0_nearestOther_57 hl (by decide) rfl (fun ls hl => ?_)
              refine lv_iinc (v := nI (a + 1)) (lv' := [(5, .int (nI (a + 1))), (4, .int (nI (T0 a))), (3, .int (nI a)), (0, .ref (ad 0)), (1, .int (nI r)), (2, .int x)]) hx hb dX0_nearestOther_59 hl (k := 2) rfl (nI_1 a) (by decide) rfl (fun ls hl => ?_)
              refine lv_goto (tgt := 9) hx hb dX0_nearestOther_62 (by decide) ?_
              exact ih9 (a + 1) (nI a) (T0 a) (by omega) (no_put hno hne hon hlt) (by omega) H locs ls hP hD hS (lv_sub hl [0, 1, 2, 3, 4, 5] rfl)
  exact lp9 _ 0 (-1) 1000000 (by omega) no_0 (Nat.lt_succ_self _) H locs ls hP hD hS (lv_sub hl [0, 1, 2, 3, 4, 5] rfl)
