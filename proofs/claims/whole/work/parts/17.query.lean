set_option maxHeartbeats 4000000 in
set_option maxRecDepth 100000 in
theorem k_X0_canCome (l : Launch) (D : va_G) (ad : Nat → Nat) (tt : Nat → ClassId) (R : Nat) (w c k d n : Nat → Int32) (wp wr : Int32) (hok : ww_ok R w c) (x ov z : Int32) : xMi l yX0_canCome wsX0_canCome { frames := 4, cells := 0, slots := 0, locals := 90 } D (tyX tt) [.ref (ad 0), .int x, .int ov, .int z] (xw ad tt R w c k d n wp wr) (fun u : (Nat → Int32) × (Nat → Int32) => xw ad tt R w c k u.1 u.2 wp wr) (fun v u => (v = 1 ∧ ∃ r t, come R w c k x ov z r t ∧ ∀ a, a < R → u.1 a = nI (ww_T R w c k ov t a)) ∨ (v = 0 ∧ ¬ ∃ r t, come R w c k x ov z r t)) := by
  refine xe_i (cc := cX0_canCome) (maxL := 4) (ret := (some .boolean)) (lvl := [(0, .ref (ad 0)), (1, .int x), (2, .int ov), (3, .int z)]) (by decide) rfl (Nat.le_of_ble_eq_true rfl) rfl ?_
  intro p e s m below meth cd A ls hx hb hr hlocks hml hown hts hA hP hK hD hS hl
  have hin : ∀ w ∈ wsX00, w ∈ wsX0_canCome := fun _ h => List.mem_cons_of_mem _ (List.mem_append_right _ h)
  have S0 : CallFix p m cd cX0_canCome 4 s (([.ref (ad 0), .int x, .int ov, .int z] : List Value).toArray) wsX0_canCome RX0 := ⟨hx, hb, hml, hown, hts⟩
  obtain ⟨H, hH⟩ : ∃ H, H = s.heap := ⟨_, rfl⟩
  obtain ⟨locs, hlocs⟩ : ∃ q : List Loc, q = [] := ⟨_, rfl⟩
  have hP : va_P D vwCl (xw ad tt R w c k d n wp wr) H := by rw [hH]; exact hP
  have hS : va_S A s.heap H locs := by rw [hH, hlocs]; exact hS
  suffices hgo : W p l e (headSpec wsX0_canCome ({ frames := 4, cells := 0, slots := 0, locals := 90 } : Room)).room s m (([.ref (ad 0), .int x, .int ov, .int z] : List Value).toArray) below meth cd H locs 0 0 (MQ below (va_Qi (fun v u => (v = 1 ∧ ∃ r t, come R w c k x ov z r t ∧ ∀ a, a < R → u.1 a = nI (ww_T R w c k ov t a)) ∨ (v = 0 ∧ ¬ ∃ r t, come R w c k x ov z r t)) (xB D (tyX tt) A (fun u : (Nat → Int32) × (Nat → Int32) => xw ad tt R w c k u.1 u.2 wp wr)) A) ([.ref (ad 0), .int x, .int ov, .int z] : List Value).toArray s 0 0 A) (F0 m 0 ls []) by rw [hH, hlocs] at hgo; exact hgo
  clear hH hlocs
  have f_distance := hts (.fieldLink RX0 33 "WireWays" "distance" "[I") (by decide +kernel)
  have hR : R ≤ 10 := hok.2.1
  refine lv_aload_n hx hb dX0_canCome_0 rfl (lv_at hl 0 rfl) ?_
  refine lv_iload_n hx hb dX0_canCome_1 rfl (lv_at hl 1 rfl) ?_
  refine xs_Vi (wr := []) (q0 := 0) (ci := 0) (nA := 1) (As := [.int x]) (rest := []) S0 (k_X0_isRouter l D ad tt R w c k d n wp wr x hR) gX0_canCome_X0_isRouter rfl ⟨rfl, rfl⟩ (by decide +kernel) rfl ⟨Nat.le_of_ble_eq_true rfl, Nat.le_of_ble_eq_true rfl⟩ ⟨Nat.le_of_ble_eq_true rfl, Nat.le_of_ble_eq_true rfl⟩ hK hP hD hS hA [0, 1, 2, 3, 4, 5] [] rfl rfl (by decide) (by decide) (by decide) rfl rfl rfl hl.1 rfl (Nat.le_of_ble_eq_true rfl) dX0_canCome_2 (fun r_1 u H locs hw hP hD hS => ?_)
  have hP : va_P D vwCl (xw ad tt R w c k d n wp wr) H := hP
  have hD : va_D A (xw ad tt R w c k d n wp wr) := hD
  rcases hw with ⟨rfl, h_r⟩ | ⟨rfl, h_r⟩
  · refine lv_if_eq (tgt := 17) hx hb dX0_canCome_5 (by decide) (fun c_2 => absurd c_2 (by decide)) (fun c_2 => ?_)
    refine lv_aload_n hx hb dX0_canCome_8 rfl (lv_at hl 0 rfl) ?_
    refine lv_iload_n hx hb dX0_canCome_9 rfl (lv_at hl 2 rfl) ?_
    refine lv_iload_n hx hb dX0_canCome_10 rfl (lv_at hl 3 rfl) ?_
    refine xs_Vi (wr := []) (q0 := 0) (ci := 0) (nA := 2) (As := [.int ov, .int z]) (rest := []) S0 (k_X0_isAim l D ad tt R w c k d n wp wr ov z hR) gX0_canCome_X0_isAim rfl ⟨rfl, rfl⟩ (by decide +kernel) rfl ⟨Nat.le_of_ble_eq_true rfl, Nat.le_of_ble_eq_true rfl⟩ ⟨Nat.le_of_ble_eq_true rfl, Nat.le_of_ble_eq_true rfl⟩ hK hP hD hS hA [0, 1, 2, 3, 4, 5] [] rfl rfl (by decide) (by decide) (by decide) rfl rfl rfl hl.1 rfl (Nat.le_of_ble_eq_true rfl) dX0_canCome_11 (fun r_3 u H locs hw hP hD hS => ?_)
    have hP : va_P D vwCl (xw ad tt R w c k d n wp wr) H := hP
    have hD : va_D A (xw ad tt R w c k d n wp wr) := hD
    rcases hw with ⟨rfl, h_a⟩ | ⟨rfl, h_a⟩
    · refine lv_if_ne (tgt := 19) hx hb dX0_canCome_14 (by decide) (fun c_4 => ?_) (fun c_4 => absurd c_4 (by decide))
      obtain ⟨r, hrR, rfl⟩ := h_r
      obtain ⟨t, rfl, ht⟩ := aim_t h_a
      have hTle := (ww_T_ok hok k ov t).1 r hrR
      have hask : asks R (nI r) ov (nI t) r t := ⟨hrR, rfl, rfl, fun h => (ht.1 h).1, ht.2⟩
      refine lv_aload_n hx hb dX0_canCome_19 rfl (lv_at hl 0 rfl) ?_
      refine lv_iload_n hx hb dX0_canCome_20 rfl (lv_at hl 2 rfl) ?_
      refine lv_iload_n hx hb dX0_canCome_21 rfl (lv_at hl 3 rfl) ?_
      refine xs_Vv (wr := []) (q0 := 0) (ci := 0) (nA := 2) (As := [.int ov, .int (nI t)]) (rest := []) S0 (k_X0_measure l D ad tt R w c k d n wp wr hok ov t ht (ww_T R w c k ov t) (ww_T_ok hok k ov t)) gX0_canCome_X0_measure rfl ⟨rfl, rfl⟩ (by decide +kernel) rfl ⟨Nat.le_of_ble_eq_true rfl, Nat.le_of_ble_eq_true rfl⟩ ⟨Nat.le_of_ble_eq_true rfl, Nat.le_of_ble_eq_true rfl⟩ hK hP hD hS hA [0, 1, 2, 3, 4, 5] [] rfl rfl (by decide) (by decide) (by decide) rfl rfl rfl hl.1 rfl (Nat.le_of_ble_eq_true rfl) dX0_canCome_22 (fun u1 H locs hw hP hD hS => ?_)
      have hP : va_P D vwCl (xw ad tt R w c k u1.1 u1.2 wp wr) H := hP
      have hD : va_D A (xw ad tt R w c k u1.1 u1.2 wp wr) := hD
      have hrow := hw
      refine lv_aload_n hx hb dX0_canCome_25 rfl (lv_at hl 0 rfl) ?_
      refine x0_get (v := .ref (ad 4)) S0 hin hK hP 4 (by decide) f_distance rfl rfl dX0_canCome_26 ?_
      refine lv_iload_n hx hb dX0_canCome_29 rfl (lv_at hl 1 rfl) ?_
      refine va_iald hx hb hK hP 4 3 rfl rfl (vp_in_nI (by omega) (by omega)) dX0_canCome_30 ?_
      refine xt_eq (z := u1.1 r) (congrArg u1.1 (nI_clamp (by omega))) ?_
      refine xt_eq (z := nI (ww_T R w c k ov t r)) (hrow r hrR) ?_
      refine lv_ldc (v := 1000000) hx hb hown (hts (.constant RX0 83 1000000) (by decide +kernel)) dX0_canCome_31 ?_
      refine lv_icmp_ge (tgt := 40) hx hb dX0_canCome_33 (by decide) (fun c_6 => ?_) (fun c_6 => ?_)
      · have hge : 1000000 ≤ ww_T R w c k ov t r := (nI_leI (a := 1000000) (by omega) (by omega)).mp c_6
        refine lv_iconst (v := 0) hx hb dX0_canCome_40 (by decide) ?_
        exact xr_z hx hb hr hlocks rfl (u1.1, u1.2) (Or.inr ⟨rfl, fun h => by first | exact h_r (come_r h) | exact h_a (come_aim hok h) | exact come_no hR hask hge h⟩) hP hK hD hS dX0_canCome_41
      · have hge : ww_T R w c k ov t r < 1000000 := Nat.lt_of_not_le (fun h => c_6 (nI_le (a := 1000000) h (by omega)))
        refine lv_iconst (v := 1) hx hb dX0_canCome_36 (by decide) ?_
        refine lv_goto (tgt := 41) hx hb dX0_canCome_37 (by decide) ?_
        exact xr_z hx hb hr hlocks rfl (u1.1, u1.2) (Or.inl ⟨rfl, r, t, ⟨hask, hge⟩, hrow⟩) hP hK hD hS dX0_canCome_41
    · refine lv_if_ne (tgt := 19) hx hb dX0_canCome_14 (by decide) (fun c_7 => absurd c_7 (by decide)) (fun c_7 => ?_)
      refine lv_iconst (v := 0) hx hb dX0_canCome_17 (by decide) ?_
      exact xr_z hx hb hr hlocks rfl (d, n) (Or.inr ⟨rfl, fun h => by first | exact h_r (come_r h) | exact h_a (come_aim hok h) | exact come_no hR hask hge h⟩) hP hK hD hS dX0_canCome_18
  · refine lv_if_eq (tgt := 17) hx hb dX0_canCome_5 (by decide) (fun c_8 => ?_) (fun c_8 => absurd c_8 (by decide))
    refine lv_iconst (v := 0) hx hb dX0_canCome_17 (by decide) ?_
    exact xr_z hx hb hr hlocks rfl (d, n) (Or.inr ⟨rfl, fun h => by first | exact h_r (come_r h) | exact h_a (come_aim hok h) | exact come_no hR hask hge h⟩) hP hK hD hS dX0_canCome_18
set_option maxHeartbeats 4000000 in
set_option maxRecDepth 100000 in
theorem k_X0_far (l : Launch) (D : va_G) (ad : Nat → Nat) (tt : Nat → ClassId) (R : Nat) (w c k d n : Nat → Int32) (wp wr : Int32) (hok : ww_ok R w c) (x ov z : Int32) : xMi l yX0_far wsX0_far { frames := 5, cells := 0, slots := 0, locals := 113 } D (tyX tt) [.ref (ad 0), .int x, .int ov, .int z] (xw ad tt R w c k d n wp wr) (fun u : (Nat → Int32) × (Nat → Int32) => xw ad tt R w c k u.1 u.2 wp wr) (fun v _ => fa_ok R w c k x ov z v) := by
  refine xe_i (cc := cX0_far) (maxL := 4) (ret := (some .int)) (lvl := [(0, .ref (ad 0)), (1, .int x), (2, .int ov), (3, .int z)]) (by decide) rfl (Nat.le_of_ble_eq_true rfl) rfl ?_
  intro p e s m below meth cd A ls hx hb hr hlocks hml hown hts hA hP hK hD hS hl
  have hin : ∀ w ∈ wsX00, w ∈ wsX0_far := fun _ h => List.mem_cons_of_mem _ (List.mem_append_right _ h)
  have S0 : CallFix p m cd cX0_far 4 s (([.ref (ad 0), .int x, .int ov, .int z] : List Value).toArray) wsX0_far RX0 := ⟨hx, hb, hml, hown, hts⟩
  obtain ⟨H, hH⟩ : ∃ H, H = s.heap := ⟨_, rfl⟩
  obtain ⟨locs, hlocs⟩ : ∃ q : List Loc, q = [] := ⟨_, rfl⟩
  have hP : va_P D vwCl (xw ad tt R w c k d n wp wr) H := by rw [hH]; exact hP
  have hS : va_S A s.heap H locs := by rw [hH, hlocs]; exact hS
  suffices hgo : W p l e (headSpec wsX0_far ({ frames := 5, cells := 0, slots := 0, locals := 113 } : Room)).room s m (([.ref (ad 0), .int x, .int ov, .int z] : List Value).toArray) below meth cd H locs 0 0 (MQ below (va_Qi (fun v _ => fa_ok R w c k x ov z v) (xB D (tyX tt) A (fun u : (Nat → Int32) × (Nat → Int32) => xw ad tt R w c k u.1 u.2 wp wr)) A) ([.ref (ad 0), .int x, .int ov, .int z] : List Value).toArray s 0 0 A) (F0 m 0 ls []) by rw [hH, hlocs] at hgo; exact hgo
  clear hH hlocs
  have f_distance := hts (.fieldLink RX0 33 "WireWays" "distance" "[I") (by decide +kernel)
  have hR : R ≤ 10 := hok.2.1
  refine lv_aload_n hx hb dX0_far_0 rfl (lv_at hl 0 rfl) ?_
  refine lv_iload_n hx hb dX0_far_1 rfl (lv_at hl 1 rfl) ?_
  refine lv_iload_n hx hb dX0_far_2 rfl (lv_at hl 2 rfl) ?_
  refine lv_iload_n hx hb dX0_far_3 rfl (lv_at hl 3 rfl) ?_
  refine xs_Vi (wr := []) (q0 := 0) (ci := 0) (nA := 3) (As := [.int x, .int ov, .int z]) (rest := []) S0 (k_X0_canCome l D ad tt R w c k d n wp wr hok x ov z) gX0_far_X0_canCome rfl ⟨rfl, rfl⟩ (by decide +kernel) rfl ⟨Nat.le_of_ble_eq_true rfl, Nat.le_of_ble_eq_true rfl⟩ ⟨Nat.le_of_ble_eq_true rfl, Nat.le_of_ble_eq_true rfl⟩ hK hP hD hS hA [0, 1, 2, 3, 4, 5] [] rfl rfl (by decide) (by decide) (by decide) rfl rfl rfl hl.1 rfl (Nat.le_of_ble_eq_true rfl) dX0_far_4 (fun r_1 u1 H locs hw hP hD hS => ?_)
  have hP : va_P D vwCl (xw ad tt R w c k u1.1 u1.2 wp wr) H := hP
  have hD : va_D A (xw ad tt R w c k u1.1 u1.2 wp wr) := hD
  rcases hw with ⟨rfl, r, t, hcm, hrow⟩ | ⟨rfl, hno⟩
  · obtain ⟨⟨hrR, rfl, rfl, ht16, htR⟩, hTK⟩ := id hcm
    refine lv_if_eq (tgt := 19) hx hb dX0_far_7 (by decide) (fun c_2 => absurd c_2 (by decide)) (fun c_2 => ?_)
    refine lv_aload_n hx hb dX0_far_10 rfl (lv_at hl 0 rfl) ?_
    refine x0_get (v := .ref (ad 4)) S0 hin hK hP 4 (by decide) f_distance rfl rfl dX0_far_11 ?_
    refine lv_iload_n hx hb dX0_far_14 rfl (lv_at hl 1 rfl) ?_
    refine va_iald hx hb hK hP 4 3 rfl rfl (vp_in_nI (by omega) (by omega)) dX0_far_15 ?_
    refine xt_eq (z := u1.1 r) (congrArg u1.1 (nI_clamp (by omega))) ?_
    refine xt_eq (z := nI (ww_T R w c k ov t r)) (hrow r hrR) ?_
    refine lv_goto (tgt := 20) hx hb dX0_far_16 (by decide) ?_
    exact xr_i hx hb hr hlocks (u1.1, u1.2) (Or.inl ⟨r, t, hcm, rfl⟩) hP hK hD hS dX0_far_20
  · refine lv_if_eq (tgt := 19) hx hb dX0_far_7 (by decide) (fun c_3 => ?_) (fun c_3 => absurd c_3 (by decide))
    refine lv_iconst (v := (-1)) hx hb dX0_far_19 (by decide) ?_
    exact xr_i hx hb hr hlocks (u1.1, u1.2) (Or.inr ⟨rfl, hno⟩) hP hK hD hS dX0_far_20
set_option maxHeartbeats 4000000 in
set_option maxRecDepth 100000 in
theorem k_X0_port (l : Launch) (D : va_G) (ad : Nat → Nat) (tt : Nat → ClassId) (R : Nat) (w c k d n : Nat → Int32) (wp wr : Int32) (hok : ww_ok R w c) (x ov z : Int32) : xMi l yX0_port wsX0_port { frames := 5, cells := 0, slots := 0, locals := 113 } D (tyX tt) [.ref (ad 0), .int x, .int ov, .int z] (xw ad tt R w c k d n wp wr) (fun u : ((Nat → Int32) × (Nat → Int32)) × (Int32 × Int32) => xw ad tt R w c k u.1.1 u.1.2 u.2.1 u.2.2) (fun v _ => po_ok R w c k x ov z v) := by
  refine xe_i (cc := cX0_port) (maxL := 4) (ret := (some .int)) (lvl := [(0, .ref (ad 0)), (1, .int x), (2, .int ov), (3, .int z)]) (by decide) rfl (Nat.le_of_ble_eq_true rfl) rfl ?_
  intro p e s m below meth cd A ls hx hb hr hlocks hml hown hts hA hP hK hD hS hl
  have hin : ∀ w ∈ wsX00, w ∈ wsX0_port := fun _ h => List.mem_cons_of_mem _ (List.mem_append_right _ h)
  have S0 : CallFix p m cd cX0_port 4 s (([.ref (ad 0), .int x, .int ov, .int z] : List Value).toArray) wsX0_port RX0 := ⟨hx, hb, hml, hown, hts⟩
  obtain ⟨H, hH⟩ : ∃ H, H = s.heap := ⟨_, rfl⟩
  obtain ⟨locs, hlocs⟩ : ∃ q : List Loc, q = [] := ⟨_, rfl⟩
  have hP : va_P D vwCl (xw ad tt R w c k d n wp wr) H := by rw [hH]; exact hP
  have hS : va_S A s.heap H locs := by rw [hH, hlocs]; exact hS
  suffices hgo : W p l e (headSpec wsX0_port ({ frames := 5, cells := 0, slots := 0, locals := 113 } : Room)).room s m (([.ref (ad 0), .int x, .int ov, .int z] : List Value).toArray) below meth cd H locs 0 0 (MQ below (va_Qi (fun v _ => po_ok R w c k x ov z v) (xB D (tyX tt) A (fun u : ((Nat → Int32) × (Nat → Int32)) × (Int32 × Int32) => xw ad tt R w c k u.1.1 u.1.2 u.2.1 u.2.2)) A) ([.ref (ad 0), .int x, .int ov, .int z] : List Value).toArray s 0 0 A) (F0 m 0 ls []) by rw [hH, hlocs] at hgo; exact hgo
  clear hH hlocs
  have f_wayPort := hts (.fieldLink RX0 39 "WireWays" "wayPort" "I") (by decide +kernel)
  have hR : R ≤ 10 := hok.2.1
  refine lv_aload_n hx hb dX0_port_0 rfl (lv_at hl 0 rfl) ?_
  refine lv_iload_n hx hb dX0_port_1 rfl (lv_at hl 1 rfl) ?_
  refine lv_iload_n hx hb dX0_port_2 rfl (lv_at hl 2 rfl) ?_
  refine lv_iload_n hx hb dX0_port_3 rfl (lv_at hl 3 rfl) ?_
  refine xs_Vi (wr := []) (q0 := 0) (ci := 0) (nA := 3) (As := [.int x, .int ov, .int z]) (rest := []) S0 (k_X0_canCome l D ad tt R w c k d n wp wr hok x ov z) gX0_port_X0_canCome rfl ⟨rfl, rfl⟩ (by decide +kernel) rfl ⟨Nat.le_of_ble_eq_true rfl, Nat.le_of_ble_eq_true rfl⟩ ⟨Nat.le_of_ble_eq_true rfl, Nat.le_of_ble_eq_true rfl⟩ hK hP hD hS hA [0, 1, 2, 3, 4, 5] [] rfl rfl (by decide) (by decide) (by decide) rfl rfl rfl hl.1 rfl (Nat.le_of_ble_eq_true rfl) dX0_port_4 (fun r_1 u1 H locs hw hP hD hS => ?_)
  have hP : va_P D vwCl (xw ad tt R w c k u1.1 u1.2 wp wr) H := hP
  have hD : va_D A (xw ad tt R w c k u1.1 u1.2 wp wr) := hD
  rcases hw with ⟨rfl, r, t, hcm, hrow⟩ | ⟨rfl, hno⟩
  · obtain ⟨⟨hrR, rfl, rfl, ht16, htR⟩, hTK⟩ := id hcm
    refine lv_if_ne (tgt := 12) hx hb dX0_port_7 (by decide) (fun c_2 => ?_) (fun c_2 => absurd c_2 (by decide))
    refine lv_aload_n hx hb dX0_port_12 rfl (lv_at hl 0 rfl) ?_
    refine lv_iload_n hx hb dX0_port_13 rfl (lv_at hl 1 rfl) ?_
    refine lv_iload_n hx hb dX0_port_14 rfl (lv_at hl 2 rfl) ?_
    refine lv_iload_n hx hb dX0_port_15 rfl (lv_at hl 3 rfl) ?_
    refine xs_Vv (wr := []) (q0 := 0) (ci := 0) (nA := 3) (As := [.int (nI r), .int ov, .int (nI t)]) (rest := []) S0 (k_X0_findWay l D ad tt R w c k u1.1 u1.2 wp wr hok ov t (ww_T R w c k ov t) (ww_T_ok hok k ov t) hrow r hrR hTK) gX0_port_X0_findWay rfl ⟨rfl, rfl⟩ (by decide +kernel) rfl ⟨Nat.le_of_ble_eq_true rfl, Nat.le_of_ble_eq_true rfl⟩ ⟨Nat.le_of_ble_eq_true rfl, Nat.le_of_ble_eq_true rfl⟩ hK hP hD hS hA [0, 1, 2, 3, 4, 5] [] rfl rfl (by decide) (by decide) (by decide) rfl rfl rfl hl.1 rfl (Nat.le_of_ble_eq_true rfl) dX0_port_16 (fun u2 H locs hw hP hD hS => ?_)
    have hP : va_P D vwCl (xw ad tt R w c k u1.1 u1.2 u2.1 u2.2) H := hP
    have hD : va_D A (xw ad tt R w c k u1.1 u1.2 u2.1 u2.2) := hD
    refine lv_aload_n hx hb dX0_port_19 rfl (lv_at hl 0 rfl) ?_
    refine x0_get (v := .int u2.1) S0 hin hK hP 6 (by decide) f_wayPort rfl rfl dX0_port_20 ?_
    exact xr_i hx hb hr hlocks ((u1.1, u1.2), (u2.1, u2.2)) (Or.inl ⟨r, t, hcm, _, hw⟩) hP hK hD hS dX0_port_23
  · refine lv_if_ne (tgt := 12) hx hb dX0_port_7 (by decide) (fun c_4 => absurd c_4 (by decide)) (fun c_4 => ?_)
    refine lv_iconst (v := (-1)) hx hb dX0_port_10 (by decide) ?_
    exact xr_i hx hb hr hlocks ((u1.1, u1.2), (wp, wr)) (Or.inr ⟨rfl, hno⟩) hP hK hD hS dX0_port_11
set_option maxHeartbeats 4000000 in
set_option maxRecDepth 100000 in
theorem k_X0_next (l : Launch) (D : va_G) (ad : Nat → Nat) (tt : Nat → ClassId) (R : Nat) (w c k d n : Nat → Int32) (wp wr : Int32) (hok : ww_ok R w c) (x ov z : Int32) : xMi l yX0_next wsX0_next { frames := 5, cells := 0, slots := 0, locals := 113 } D (tyX tt) [.ref (ad 0), .int x, .int ov, .int z] (xw ad tt R w c k d n wp wr) (fun u : ((Nat → Int32) × (Nat → Int32)) × (Int32 × Int32) => xw ad tt R w c k u.1.1 u.1.2 u.2.1 u.2.2) (fun v _ => nx_ok R w c k x ov z v) := by
  refine xe_i (cc := cX0_next) (maxL := 4) (ret := (some .int)) (lvl := [(0, .ref (ad 0)), (1, .int x), (2, .int ov), (3, .int z)]) (by decide) rfl (Nat.le_of_ble_eq_true rfl) rfl ?_
  intro p e s m below meth cd A ls hx hb hr hlocks hml hown hts hA hP hK hD hS hl
  have hin : ∀ w ∈ wsX00, w ∈ wsX0_next := fun _ h => List.mem_cons_of_mem _ (List.mem_append_right _ h)
  have S0 : CallFix p m cd cX0_next 4 s (([.ref (ad 0), .int x, .int ov, .int z] : List Value).toArray) wsX0_next RX0 := ⟨hx, hb, hml, hown, hts⟩
  obtain ⟨H, hH⟩ : ∃ H, H = s.heap := ⟨_, rfl⟩
  obtain ⟨locs, hlocs⟩ : ∃ q : List Loc, q = [] := ⟨_, rfl⟩
  have hP : va_P D vwCl (xw ad tt R w c k d n wp wr) H := by rw [hH]; exact hP
  have hS : va_S A s.heap H locs := by rw [hH, hlocs]; exact hS
  suffices hgo : W p l e (headSpec wsX0_next ({ frames := 5, cells := 0, slots := 0, locals := 113 } : Room)).room s m (([.ref (ad 0), .int x, .int ov, .int z] : List Value).toArray) below meth cd H locs 0 0 (MQ below (va_Qi (fun v _ => nx_ok R w c k x ov z v) (xB D (tyX tt) A (fun u : ((Nat → Int32) × (Nat → Int32)) × (Int32 × Int32) => xw ad tt R w c k u.1.1 u.1.2 u.2.1 u.2.2)) A) ([.ref (ad 0), .int x, .int ov, .int z] : List Value).toArray s 0 0 A) (F0 m 0 ls []) by rw [hH, hlocs] at hgo; exact hgo
  clear hH hlocs
  have f_wayRouter := hts (.fieldLink RX0 42 "WireWays" "wayRouter" "I") (by decide +kernel)
  have hR : R ≤ 10 := hok.2.1
  refine lv_aload_n hx hb dX0_next_0 rfl (lv_at hl 0 rfl) ?_
  refine lv_iload_n hx hb dX0_next_1 rfl (lv_at hl 1 rfl) ?_
  refine lv_iload_n hx hb dX0_next_2 rfl (lv_at hl 2 rfl) ?_
  refine lv_iload_n hx hb dX0_next_3 rfl (lv_at hl 3 rfl) ?_
  refine xs_Vi (wr := []) (q0 := 0) (ci := 0) (nA := 3) (As := [.int x, .int ov, .int z]) (rest := []) S0 (k_X0_canCome l D ad tt R w c k d n wp wr hok x ov z) gX0_next_X0_canCome rfl ⟨rfl, rfl⟩ (by decide +kernel) rfl ⟨Nat.le_of_ble_eq_true rfl, Nat.le_of_ble_eq_true rfl⟩ ⟨Nat.le_of_ble_eq_true rfl, Nat.le_of_ble_eq_true rfl⟩ hK hP hD hS hA [0, 1, 2, 3, 4, 5] [] rfl rfl (by decide) (by decide) (by decide) rfl rfl rfl hl.1 rfl (Nat.le_of_ble_eq_true rfl) dX0_next_4 (fun r_1 u1 H locs hw hP hD hS => ?_)
  have hP : va_P D vwCl (xw ad tt R w c k u1.1 u1.2 wp wr) H := hP
  have hD : va_D A (xw ad tt R w c k u1.1 u1.2 wp wr) := hD
  rcases hw with ⟨rfl, r, t, hcm, hrow⟩ | ⟨rfl, hno⟩
  · obtain ⟨⟨hrR, rfl, rfl, ht16, htR⟩, hTK⟩ := id hcm
    refine lv_if_ne (tgt := 12) hx hb dX0_next_7 (by decide) (fun c_2 => ?_) (fun c_2 => absurd c_2 (by decide))
    refine lv_aload_n hx hb dX0_next_12 rfl (lv_at hl 0 rfl) ?_
    refine lv_iload_n hx hb dX0_next_13 rfl (lv_at hl 1 rfl) ?_
    refine lv_iload_n hx hb dX0_next_14 rfl (lv_at hl 2 rfl) ?_
    refine lv_iload_n hx hb dX0_next_15 rfl (lv_at hl 3 rfl) ?_
    refine xs_Vv (wr := []) (q0 := 0) (ci := 0) (nA := 3) (As := [.int (nI r), .int ov, .int (nI t)]) (rest := []) S0 (k_X0_findWay l D ad tt R w c k u1.1 u1.2 wp wr hok ov t (ww_T R w c k ov t) (ww_T_ok hok k ov t) hrow r hrR hTK) gX0_next_X0_findWay rfl ⟨rfl, rfl⟩ (by decide +kernel) rfl ⟨Nat.le_of_ble_eq_true rfl, Nat.le_of_ble_eq_true rfl⟩ ⟨Nat.le_of_ble_eq_true rfl, Nat.le_of_ble_eq_true rfl⟩ hK hP hD hS hA [0, 1, 2, 3, 4, 5] [] rfl rfl (by decide) (by decide) (by decide) rfl rfl rfl hl.1 rfl (Nat.le_of_ble_eq_true rfl) dX0_next_16 (fun u2 H locs hw hP hD hS => ?_)
    have hP : va_P D vwCl (xw ad tt R w c k u1.1 u1.2 u2.1 u2.2) H := hP
    have hD : va_D A (xw ad tt R w c k u1.1 u1.2 u2.1 u2.2) := hD
    refine lv_aload_n hx hb dX0_next_19 rfl (lv_at hl 0 rfl) ?_
    refine x0_get (v := .int u2.2) S0 hin hK hP 7 (by decide) f_wayRouter rfl rfl dX0_next_20 ?_
    exact xr_i hx hb hr hlocks ((u1.1, u1.2), (u2.1, u2.2)) (Or.inl ⟨r, t, hcm, _, hw⟩) hP hK hD hS dX0_next_23
  · refine lv_if_ne (tgt := 12) hx hb dX0_next_7 (by decide) (fun c_4 => absurd c_4 (by decide)) (fun c_4 => ?_)
    refine lv_iconst (v := (-1)) hx hb dX0_next_10 (by decide) ?_
    exact xr_i hx hb hr hlocks ((u1.1, u1.2), (wp, wr)) (Or.inr ⟨rfl, hno⟩) hP hK hD hS dX0_next_11
set_option maxHeartbeats 4000000 in
set_option maxRecDepth 100000 in
theorem k_X0_walk (l : Launch) (D : va_G) (ad : Nat → Nat) (tt : Nat → ClassId) (R : Nat) (w c k d n : Nat → Int32) (wp wr : Int32) (hok : ww_ok R w c) (x ov z kk : Int32) : xMi l yX0_walk wsX0_walk { frames := 5, cells := 0, slots := 0, locals := 113 } D (tyX tt) [.ref (ad 0), .int x, .int ov, .int z, .int kk] (xw ad tt R w c k d n wp wr) (fun u : ((Nat → Int32) × (Nat → Int32)) × (Int32 × Int32) => xw ad tt R w c k u.1.1 u.1.2 u.2.1 u.2.2) (fun v _ => wk_ok R w c k x ov z kk v) := by
  refine xe_i (cc := cX0_walk) (maxL := 7) (ret := (some .int)) (lvl := [(0, .ref (ad 0)), (1, .int x), (2, .int ov), (3, .int z), (4, .int kk)]) (by decide) rfl (Nat.le_of_ble_eq_true rfl) rfl ?_
  intro p e s m below meth cd A ls hx hb hr hlocks hml hown hts hA hP hK hD hS hl
  have hin : ∀ w ∈ wsX00, w ∈ wsX0_walk := fun _ h => List.mem_cons_of_mem _ (List.mem_append_right _ h)
  have S0 : CallFix p m cd cX0_walk 7 s (([.ref (ad 0), .int x, .int ov, .int z, .int kk] : List Value).toArray) wsX0_walk RX0 := ⟨hx, hb, hml, hown, hts⟩
  obtain ⟨H, hH⟩ : ∃ H, H = s.heap := ⟨_, rfl⟩
  obtain ⟨locs, hlocs⟩ : ∃ q : List Loc, q = [] := ⟨_, rfl⟩
  have hP : va_P D vwCl (xw ad tt R w c k d n wp wr) H := by rw [hH]; exact hP
  have hS : va_S A s.heap H locs := by rw [hH, hlocs]; exact hS
  suffices hgo : W p l e (headSpec wsX0_walk ({ frames := 5, cells := 0, slots := 0, locals := 113 } : Room)).room s m (([.ref (ad 0), .int x, .int ov, .int z, .int kk] : List Value).toArray) below meth cd H locs 0 0 (MQ below (va_Qi (fun v _ => wk_ok R w c k x ov z kk v) (xB D (tyX tt) A (fun u : ((Nat → Int32) × (Nat → Int32)) × (Int32 × Int32) => xw ad tt R w c k u.1.1 u.1.2 u.2.1 u.2.2)) A) ([.ref (ad 0), .int x, .int ov, .int z, .int kk] : List Value).toArray s 0 0 A) (F0 m 0 ls []) by rw [hH, hlocs] at hgo; exact hgo
  clear hH hlocs
  have f_routers := hts (.fieldLink RX0 18 "WireWays" "routers" "I") (by decide +kernel)
  have f_wayRouter := hts (.fieldLink RX0 42 "WireWays" "wayRouter" "I") (by decide +kernel)
  have hR : R ≤ 10 := hok.2.1
  refine lv_iload hx hb dX0_walk_0 (lv_at hl 4 rfl) ?_
  refine lv_if_lt (tgt := 24) hx hb dX0_walk_2 (by decide) (fun c_1 => ?_) (fun c_1 => ?_)
  · have hk0 := c_1
    refine lv_iconst (v := (-1)) hx hb dX0_walk_24 (by decide) ?_
    exact xr_i hx hb hr hlocks ((d, n), (wp, wr)) (by first | exact Or.inr ⟨rfl, Or.inl hk0⟩ | exact Or.inl ⟨r, t, kn, hcm, hkn, rfl, Or.inr ⟨rfl, by have h9 := wks_stop (wks_end hws htg) (kn - (m9 + 1)); rw [show m9 + 1 + (kn - (m9 + 1)) = kn by omega] at h9; exact h9⟩⟩ | exact Or.inr ⟨rfl, Or.inr hno⟩ | exact wk_big hok hk1 hkR) hP hK hD hS dX0_walk_25
  · have hk1 := c_1
    refine lv_iload hx hb dX0_walk_5 (lv_at hl 4 rfl) ?_
    refine lv_aload_n hx hb dX0_walk_7 rfl (lv_at hl 0 rfl) ?_
    refine x0_get (v := .int (nI R)) S0 hin hK hP 0 (by decide) f_routers rfl rfl dX0_walk_8 ?_
    refine lv_icmp_ge (tgt := 24) hx hb dX0_walk_11 (by decide) (fun c_2 => ?_) (fun c_2 => ?_)
    · have hkR := c_2
      refine lv_iconst (v := (-1)) hx hb dX0_walk_24 (by decide) ?_
      exact xr_i hx hb hr hlocks ((d, n), (wp, wr)) (by first | exact Or.inr ⟨rfl, Or.inl hk0⟩ | exact Or.inl ⟨r, t, kn, hcm, hkn, rfl, Or.inr ⟨rfl, by have h9 := wks_stop (wks_end hws htg) (kn - (m9 + 1)); rw [show m9 + 1 + (kn - (m9 + 1)) = kn by omega] at h9; exact h9⟩⟩ | exact Or.inr ⟨rfl, Or.inr hno⟩ | exact wk_big hok hk1 hkR) hP hK hD hS dX0_walk_25
    · have hkR2 := c_2
      refine lv_aload_n hx hb dX0_walk_14 rfl (lv_at hl 0 rfl) ?_
      refine lv_iload_n hx hb dX0_walk_15 rfl (lv_at hl 1 rfl) ?_
      refine lv_iload_n hx hb dX0_walk_16 rfl (lv_at hl 2 rfl) ?_
      refine lv_iload_n hx hb dX0_walk_17 rfl (lv_at hl 3 rfl) ?_
      refine xs_Vi (wr := []) (q0 := 0) (ci := 0) (nA := 3) (As := [.int x, .int ov, .int z]) (rest := []) S0 (k_X0_canCome l D ad tt R w c k d n wp wr hok x ov z) gX0_walk_X0_canCome rfl ⟨rfl, rfl⟩ (by decide +kernel) rfl ⟨Nat.le_of_ble_eq_true rfl, Nat.le_of_ble_eq_true rfl⟩ ⟨Nat.le_of_ble_eq_true rfl, Nat.le_of_ble_eq_true rfl⟩ hK hP hD hS hA [0, 1, 2, 3, 4, 5] [] rfl rfl (by decide) (by decide) (by decide) rfl rfl rfl hl.1 rfl (Nat.le_of_ble_eq_true rfl) dX0_walk_18 (fun r_3 u1 H locs hw hP hD hS => ?_)
      have hP : va_P D vwCl (xw ad tt R w c k u1.1 u1.2 wp wr) H := hP
      have hD : va_D A (xw ad tt R w c k u1.1 u1.2 wp wr) := hD
      rcases hw with ⟨rfl, r, t, hcm, hrow⟩ | ⟨rfl, hno⟩
      · obtain ⟨⟨hrR, rfl, rfl, ht16, htR⟩, hTK⟩ := id hcm
        refine lv_if_ne (tgt := 26) hx hb dX0_walk_21 (by decide) (fun c_4 => ?_) (fun c_4 => absurd c_4 (by decide))
        obtain ⟨kn, hkn, rfl⟩ := nI_of hk1
        refine lv_iload_n hx hb dX0_walk_26 rfl (lv_at hl 1 rfl) ?_
        refine lv_istore (lv' := [(5, .int (nI r)), (0, .ref (ad 0)), (1, .int (nI r)), (2, .int ov), (3, .int (nI t)), (4, .int (nI kn))]) hx hb dX0_walk_27 hl (by decide) rfl (fun ls hl => ?_)
        refine lv_iconst (v := 0) hx hb dX0_walk_29 (by decide) ?_
        refine lv_istore (lv' := [(6, .int 0), (5, .int (nI r)), (0, .ref (ad 0)), (1, .int (nI r)), (2, .int ov), (3, .int (nI t)), (4, .int (nI kn))]) hx hb dX0_walk_30 hl (by decide) rfl (fun ls hl => ?_)
        have lp32 : ∀ (fuel : Nat) (m9 : Nat) (a : Nat) (p1 : Int32) (q1 : Int32), (m9 ≤ kn) → (a < R) → (ww_T R w c k ov t a < 1000000) → (wks (ww_tg w k ov t) (ww_E R w k) (ww_c c) 1000000 (ww_T R w c k ov t) m9 r a) → kn - m9 < fuel → ∀ (H : Heap) (locs : List Loc) (ls : Array Slot), va_P D vwCl (xw ad tt R w c k u1.1 u1.2 p1 q1) H → va_D A (xw ad tt R w c k u1.1 u1.2 p1 q1) → va_S A s.heap H locs → lv_has ls 7 [(6, .int (nI m9)), (5, .int (nI a)), (0, .ref (ad 0)), (1, .int (nI r)), (2, .int ov), (3, .int (nI t)), (4, .int (nI kn))] → W p l e (headSpec wsX0_walk ({ frames := 5, cells := 0, slots := 0, locals := 113 } : Room)).room s m ([.ref (ad 0), .int (nI r), .int ov, .int (nI t), .int (nI kn)] : List Value).toArray below meth cd H locs 0 0 (MQ below (va_Qi (fun v _ => wk_ok R w c k (nI r) ov (nI t) (nI kn) v) (xB D (tyX tt) A (fun u : ((Nat → Int32) × (Nat → Int32)) × (Int32 × Int32) => xw ad tt R w c k u.1.1 u.1.2 u.2.1 u.2.2)) A) ([.ref (ad 0), .int (nI r), .int ov, .int (nI t), .int (nI kn)] : List Value).toArray s 0 0 A) (F0 m 32 ls []) := by
          intro fuel
          induction fuel with
          | zero => intro m9 a p1 q1 hm0 haR haK hws hm; exact absurd hm (Nat.not_lt_zero _)
          | succ fuel ih32 =>
            intro m9 a p1 q1 hm0 haR haK hws hm H locs ls hP hD hS hl
            refine lv_iload hx hb dX0_walk_32 (lv_at hl 0 rfl) ?_
            refine lv_iload hx hb dX0_walk_34 (lv_at hl 6 rfl) ?_
            refine lv_icmp_ge (tgt := 72) hx hb dX0_walk_36 (by decide) (fun c_5 => ?_) (fun c_5 => ?_)
            · have hmk : kn ≤ m9 := (nI_leI (by omega) (by omega)).mp c_5
              refine lv_iload hx hb dX0_walk_72 (lv_at hl 1 rfl) ?_
              exact xr_i hx hb hr hlocks ((u1.1, u1.2), (p1, q1)) (Or.inl ⟨r, t, kn, hcm, hkn, rfl, Or.inl ⟨a, rfl, by rw [show kn = m9 by omega]; exact hws⟩⟩) hP hK hD hS dX0_walk_74
            · have hmk : m9 < kn := Nat.lt_of_not_le (fun h => c_5 (nI_le h (by omega)))
              refine lv_aload_n hx hb dX0_walk_39 rfl (lv_at hl 2 rfl) ?_
              refine lv_iload hx hb dX0_walk_40 (lv_at hl 1 rfl) ?_
              refine lv_iload_n hx hb dX0_walk_42 rfl (lv_at hl 4 rfl) ?_
              refine lv_iload_n hx hb dX0_walk_43 rfl (lv_at hl 5 rfl) ?_
              refine xs_Vv (wr := []) (q0 := 0) (ci := 0) (nA := 3) (As := [.int (nI a), .int ov, .int (nI t)]) (rest := []) S0 (k_X0_findWay l D ad tt R w c k u1.1 u1.2 p1 q1 hok ov t (ww_T R w c k ov t) (ww_T_ok hok k ov t) hrow a haR haK) gX0_walk_X0_findWay rfl ⟨rfl, rfl⟩ (by decide +kernel) rfl ⟨Nat.le_of_ble_eq_true rfl, Nat.le_of_ble_eq_true rfl⟩ ⟨Nat.le_of_ble_eq_true rfl, Nat.le_of_ble_eq_true rfl⟩ hK hP hD hS hA [0, 1, 2, 3, 4, 5] [] rfl rfl (by decide) (by decide) (by decide) rfl rfl rfl hl.1 rfl (Nat.le_of_ble_eq_true rfl) dX0_walk_44 (fun u2 H locs hw hP hD hS => ?_)
              have hP : va_P D vwCl (xw ad tt R w c k u1.1 u1.2 u2.1 u2.2) H := hP
              have hD : va_D A (xw ad tt R w c k u1.1 u1.2 u2.1 u2.2) := hD
              have hfw := hw
              refine lv_aload_n hx hb dX0_walk_47 rfl (lv_at hl 2 rfl) ?_
              refine lv_aload_n hx hb dX0_walk_48 rfl (lv_at hl 2 rfl) ?_
              refine x0_get (v := .int u2.2) S0 hin hK hP 7 (by decide) f_wayRouter rfl rfl dX0_walk_49 ?_
              refine xs_Vi (wr := []) (q0 := 0) (ci := 0) (nA := 1) (As := [.int u2.2]) (rest := []) S0 (k_X0_isRouter l D ad tt R w c k u1.1 u1.2 u2.1 u2.2 u2.2 hR) gX0_walk_X0_isRouter rfl ⟨rfl, rfl⟩ (by decide +kernel) rfl ⟨Nat.le_of_ble_eq_true rfl, Nat.le_of_ble_eq_true rfl⟩ ⟨Nat.le_of_ble_eq_true rfl, Nat.le_of_ble_eq_true rfl⟩ hK hP hD hS hA [0, 1, 2, 3, 4, 5] [] rfl rfl (by decide) (by decide) (by decide) rfl rfl rfl hl.1 rfl (Nat.le_of_ble_eq_true rfl) dX0_walk_52 (fun r_7 u H locs hw hP hD hS => ?_)
              have hP : va_P D vwCl (xw ad tt R w c k u1.1 u1.2 u2.1 u2.2) H := hP
              have hD : va_D A (xw ad tt R w c k u1.1 u1.2 u2.1 u2.2) := hD
              rcases hw with ⟨rfl, h_r⟩ | ⟨rfl, h_r⟩
              · obtain ⟨b, eb, hbR, hbT, hbg, p9, hbw⟩ := fw_r1 hok (ww_T_ok hok k ov t) hfw haR haK h_r
                refine lv_if_ne (tgt := 60) hx hb dX0_walk_55 (by decide) (fun c_8 => ?_) (fun c_8 => absurd c_8 (by decide))
                refine lv_aload_n hx hb dX0_walk_60 rfl (lv_at hl 2 rfl) ?_
                refine x0_get (v := .int u2.2) S0 hin hK hP 7 (by decide) f_wayRouter rfl rfl dX0_walk_61 ?_
                refine xt_eq (z := nI b) eb ?_
                refine lv_istore (lv' := [(5, .int (nI b)), (6, .int (nI m9)), (0, .ref (ad 0)), (1, .int (nI r)), (2, .int ov), (3, .int (nI t)), (4, .int (nI kn))]) hx hb dX0_walk_64 hl (by decide) rfl (fun ls hl => ?_)
                refine lv_iinc (v := nI (m9 + 1)) (lv' := [(6, .int (nI (m9 + 1))), (5, .int (nI b)), (0, .ref (ad 0)), (1, .int (nI r)), (2, .int ov), (3, .int (nI t)), (4, .int (nI kn))]) hx hb dX0_walk_66 hl (k := 1) rfl (nI_1 m9) (by decide) rfl (fun ls hl => ?_)
                refine lv_goto (tgt := 32) hx hb dX0_walk_69 (by decide) ?_
                exact ih32 (m9 + 1) b u2.1 u2.2 (by omega) hbR (by omega) ⟨a, hws, hbg, p9, hbw⟩ (by omega) H locs ls hP hD hS (lv_sub hl [0, 1, 2, 3, 4, 5, 6] rfl)
              · have htg := fw_r0 hfw h_r
                refine lv_if_ne (tgt := 60) hx hb dX0_walk_55 (by decide) (fun c_9 => absurd c_9 (by decide)) (fun c_9 => ?_)
                refine lv_iconst (v := (-1)) hx hb dX0_walk_58 (by decide) ?_
                exact xr_i hx hb hr hlocks ((u1.1, u1.2), (u2.1, u2.2)) (by first | exact Or.inr ⟨rfl, Or.inl hk0⟩ | exact Or.inl ⟨r, t, kn, hcm, hkn, rfl, Or.inr ⟨rfl, by have h9 := wks_stop (wks_end hws htg) (kn - (m9 + 1)); rw [show m9 + 1 + (kn - (m9 + 1)) = kn by omega] at h9; exact h9⟩⟩ | exact Or.inr ⟨rfl, Or.inr hno⟩ | exact wk_big hok hk1 hkR) hP hK hD hS dX0_walk_59
        exact lp32 _ 0 r wp wr (by omega) hrR hTK rfl (Nat.lt_succ_self _) H locs ls hP hD hS (lv_sub hl [0, 1, 2, 3, 4, 5, 6] rfl)
      · refine lv_if_ne (tgt := 26) hx hb dX0_walk_21 (by decide) (fun c_10 => absurd c_10 (by decide)) (fun c_10 => ?_)
        refine lv_iconst (v := (-1)) hx hb dX0_walk_24 (by decide) ?_
        exact xr_i hx hb hr hlocks ((u1.1, u1.2), (wp, wr)) (by first | exact Or.inr ⟨rfl, Or.inl hk0⟩ | exact Or.inl ⟨r, t, kn, hcm, hkn, rfl, Or.inr ⟨rfl, by have h9 := wks_stop (wks_end hws htg) (kn - (m9 + 1)); rw [show m9 + 1 + (kn - (m9 + 1)) = kn by omega] at h9; exact h9⟩⟩ | exact Or.inr ⟨rfl, Or.inr hno⟩ | exact wk_big hok hk1 hkR) hP hK hD hS dX0_walk_25
set_option maxHeartbeats 4000000 in
set_option maxRecDepth 100000 in
theorem k_X0_reach (l : Launch) (D : va_G) (ad : Nat → Nat) (tt : Nat → ClassId) (R : Nat) (w c k d n : Nat → Int32) (wp wr : Int32) (hok : ww_ok R w c) (x : Int32) : xMi l yX0_reach wsX0_reach { frames := 4, cells := 0, slots := 0, locals := 90 } D (tyX tt) [.ref (ad 0), .int x] (xw ad tt R w c k d n wp wr) (fun u : (Nat → Int32) × (Nat → Int32) => xw ad tt R w c k u.1 u.2 wp wr) (fun v _ => rc_ok R w c k x v) := by
  refine xe_i (cc := cX0_reach) (maxL := 4) (ret := (some .int)) (lvl := [(0, .ref (ad 0)), (1, .int x)]) (by decide) rfl (Nat.le_of_ble_eq_true rfl) rfl ?_
  intro p e s m below meth cd A ls hx hb hr hlocks hml hown hts hA hP hK hD hS hl
  have hin : ∀ w ∈ wsX00, w ∈ wsX0_reach := fun _ h => List.mem_cons_of_mem _ (List.mem_append_right _ h)
  have S0 : CallFix p m cd cX0_reach 4 s (([.ref (ad 0), .int x] : List Value).toArray) wsX0_reach RX0 := ⟨hx, hb, hml, hown, hts⟩
  obtain ⟨H, hH⟩ : ∃ H, H = s.heap := ⟨_, rfl⟩
  obtain ⟨locs, hlocs⟩ : ∃ q : List Loc, q = [] := ⟨_, rfl⟩
  have hP : va_P D vwCl (xw ad tt R w c k d n wp wr) H := by rw [hH]; exact hP
  have hS : va_S A s.heap H locs := by rw [hH, hlocs]; exact hS
  suffices hgo : W p l e (headSpec wsX0_reach ({ frames := 4, cells := 0, slots := 0, locals := 90 } : Room)).room s m (([.ref (ad 0), .int x] : List Value).toArray) below meth cd H locs 0 0 (MQ below (va_Qi (fun v _ => rc_ok R w c k x v) (xB D (tyX tt) A (fun u : (Nat → Int32) × (Nat → Int32) => xw ad tt R w c k u.1 u.2 wp wr)) A) ([.ref (ad 0), .int x] : List Value).toArray s 0 0 A) (F0 m 0 ls []) by rw [hH, hlocs] at hgo; exact hgo
  clear hH hlocs
  have f_routers := hts (.fieldLink RX0 18 "WireWays" "routers" "I") (by decide +kernel)
  have f_distance := hts (.fieldLink RX0 33 "WireWays" "distance" "[I") (by decide +kernel)
  have hR : R ≤ 10 := hok.2.1
  refine lv_aload_n hx hb dX0_reach_0 rfl (lv_at hl 0 rfl) ?_
  refine lv_iload_n hx hb dX0_reach_1 rfl (lv_at hl 1 rfl) ?_
  refine xs_Vi (wr := []) (q0 := 0) (ci := 0) (nA := 1) (As := [.int x]) (rest := []) S0 (k_X0_isRouter l D ad tt R w c k d n wp wr x hR) gX0_reach_X0_isRouter rfl ⟨rfl, rfl⟩ (by decide +kernel) rfl ⟨Nat.le_of_ble_eq_true rfl, Nat.le_of_ble_eq_true rfl⟩ ⟨Nat.le_of_ble_eq_true rfl, Nat.le_of_ble_eq_true rfl⟩ hK hP hD hS hA [0, 1, 2, 3, 4, 5] [] rfl rfl (by decide) (by decide) (by decide) rfl rfl rfl hl.1 rfl (Nat.le_of_ble_eq_true rfl) dX0_reach_2 (fun r_1 u H locs hw hP hD hS => ?_)
  have hP : va_P D vwCl (xw ad tt R w c k d n wp wr) H := hP
  have hD : va_D A (xw ad tt R w c k d n wp wr) := hD
  rcases hw with ⟨rfl, h_r⟩ | ⟨rfl, h_r⟩
  · refine lv_if_ne (tgt := 10) hx hb dX0_reach_5 (by decide) (fun c_2 => ?_) (fun c_2 => absurd c_2 (by decide))
    obtain ⟨r, hrR, rfl⟩ := h_r
    refine lv_aload_n hx hb dX0_reach_10 rfl (lv_at hl 0 rfl) ?_
    refine lv_iconst (v := 0) hx hb dX0_reach_11 (by decide) ?_
    refine lv_iload_n hx hb dX0_reach_12 rfl (lv_at hl 1 rfl) ?_
    refine xs_Vv (wr := []) (q0 := 0) (ci := 0) (nA := 2) (As := [.int 0, .int (nI r)]) (rest := []) S0 (k_X0_measure l D ad tt R w c k d n wp wr hok 0 r ⟨fun h => absurd rfl h, fun _ => hrR⟩ (ww_T R w c k 0 r) (ww_T_ok hok k 0 r)) gX0_reach_X0_measure rfl ⟨rfl, rfl⟩ (by decide +kernel) rfl ⟨Nat.le_of_ble_eq_true rfl, Nat.le_of_ble_eq_true rfl⟩ ⟨Nat.le_of_ble_eq_true rfl, Nat.le_of_ble_eq_true rfl⟩ hK hP hD hS hA [0, 1, 2, 3, 4, 5] [] rfl rfl (by decide) (by decide) (by decide) rfl rfl rfl hl.1 rfl (Nat.le_of_ble_eq_true rfl) dX0_reach_13 (fun u1 H locs hw hP hD hS => ?_)
    have hP : va_P D vwCl (xw ad tt R w c k u1.1 u1.2 wp wr) H := hP
    have hD : va_D A (xw ad tt R w c k u1.1 u1.2 wp wr) := hD
    have hrow := hw
    refine lv_iconst (v := 0) hx hb dX0_reach_16 (by decide) ?_
    refine lv_istore_n (lv' := [(2, .int 0), (0, .ref (ad 0)), (1, .int (nI r))]) hx hb dX0_reach_17 rfl hl (by decide) rfl (fun ls hl => ?_)
    refine lv_iconst (v := 0) hx hb dX0_reach_18 (by decide) ?_
    refine lv_istore_n (lv' := [(3, .int 0), (2, .int 0), (0, .ref (ad 0)), (1, .int (nI r))]) hx hb dX0_reach_19 rfl hl (by decide) rfl (fun ls hl => ?_)
    have lp20 : ∀ (fuel : Nat) (a : Nat) (cn : Nat), (a ≤ R) → (cn = dm_cnt (fun a => decide (ww_T R w c k 0 r a < 1000000)) a) → R - a < fuel → ∀ (H : Heap) (locs : List Loc) (ls : Array Slot), va_P D vwCl (xw ad tt R w c k u1.1 u1.2 wp wr) H → va_D A (xw ad tt R w c k u1.1 u1.2 wp wr) → va_S A s.heap H locs → lv_has ls 4 [(3, .int (nI a)), (2, .int (nI cn)), (0, .ref (ad 0)), (1, .int (nI r))] → W p l e (headSpec wsX0_reach ({ frames := 4, cells := 0, slots := 0, locals := 90 } : Room)).room s m ([.ref (ad 0), .int (nI r)] : List Value).toArray below meth cd H locs 0 0 (MQ below (va_Qi (fun v _ => rc_ok R w c k (nI r) v) (xB D (tyX tt) A (fun u : (Nat → Int32) × (Nat → Int32) => xw ad tt R w c k u.1 u.2 wp wr)) A) ([.ref (ad 0), .int (nI r)] : List Value).toArray s 0 0 A) (F0 m 20 ls []) := by
      intro fuel
      induction fuel with
      | zero => intro a cn ha0 hcn hm; exact absurd hm (Nat.not_lt_zero _)
      | succ fuel ih20 =>
        intro a cn ha0 hcn hm H locs ls hP hD hS hl
        refine lv_iload_n hx hb dX0_reach_20 rfl (lv_at hl 0 rfl) ?_
        refine lv_aload_n hx hb dX0_reach_21 rfl (lv_at hl 2 rfl) ?_
        refine x0_get (v := .int (nI R)) S0 hin hK hP 0 (by decide) f_routers rfl rfl dX0_reach_22 ?_
        refine lv_icmp_ge (tgt := 48) hx hb dX0_reach_25 (by decide) (fun c_4 => ?_) (fun c_4 => ?_)
        · have haR : R ≤ a := (nI_leI (by omega) (by omega)).mp c_4
          refine lv_iload_n hx hb dX0_reach_48 rfl (lv_at hl 1 rfl) ?_
          exact xr_i hx hb hr hlocks (u1.1, u1.2) (Or.inl ⟨r, hrR, rfl, by rw [hcn, show a = R by omega]⟩) hP hK hD hS dX0_reach_49
        · have haR : a < R := Nat.lt_of_not_le (fun h => c_4 (nI_le h (by omega)))
          have hTle := (ww_T_ok hok k 0 r).1 a haR
          refine lv_aload_n hx hb dX0_reach_28 rfl (lv_at hl 2 rfl) ?_
          refine x0_get (v := .ref (ad 4)) S0 hin hK hP 4 (by decide) f_distance rfl rfl dX0_reach_29 ?_
          refine lv_iload_n hx hb dX0_reach_32 rfl (lv_at hl 0 rfl) ?_
          refine va_iald hx hb hK hP 4 3 rfl rfl (vp_in_nI (by omega) (by omega)) dX0_reach_33 ?_
          refine xt_eq (z := u1.1 a) (congrArg u1.1 (nI_clamp (by omega))) ?_
          refine xt_eq (z := nI (ww_T R w c k 0 r a)) (hrow a haR) ?_
          refine lv_ldc (v := 1000000) hx hb hown (hts (.constant RX0 83 1000000) (by decide +kernel)) dX0_reach_34 ?_
          refine lv_icmp_ge (tgt := 42) hx hb dX0_reach_36 (by decide) (fun c_5 => ?_) (fun c_5 => ?_)
          · have hge : 1000000 ≤ ww_T R w c k 0 r a := (nI_leI (a := 1000000) (by omega) (by omega)).mp c_5
            refine lv_iinc (v := nI (a + 1)) (lv' := [(3, .int (nI (a + 1))), (2, .int (nI cn)), (0, .ref (ad 0)), (1, .int (nI r))]) hx hb dX0_reach_42 hl (k := 0) rfl (nI_1 a) (by decide) rfl (fun ls hl => ?_)
            refine lv_goto (tgt := 20) hx hb dX0_reach_45 (by decide) ?_
            exact ih20 (a + 1) cn (by omega) (cnt_f hcn (fun h => absurd (of_decide_eq_true h) (by omega))) (by omega) H locs ls hP hD hS (lv_sub hl [0, 1, 2, 3] rfl)
          · have hge : ww_T R w c k 0 r a < 1000000 := Nat.lt_of_not_le (fun h => c_5 (nI_le (a := 1000000) h (by omega)))
            refine lv_iinc (v := nI (cn + 1)) (lv' := [(2, .int (nI (cn + 1))), (3, .int (nI a)), (0, .ref (ad 0)), (1, .int (nI r))]) hx hb dX0_reach_39 hl (k := 1) rfl (nI_1 cn) (by decide) rfl (fun ls hl => ?_)
            refine lv_iinc (v := nI (a + 1)) (lv' := [(3, .int (nI (a + 1))), (2, .int (nI (cn + 1))), (0, .ref (ad 0)), (1, .int (nI r))]) hx hb dX0_reach_42 hl (k := 1) rfl (nI_1 a) (by decide) rfl (fun ls hl => ?_)
            refine lv_goto (tgt := 20) hx hb dX0_reach_45 (by decide) ?_
            exact ih20 (a + 1) (cn + 1) (by omega) (cnt_t hcn (decide_eq_true hge)) (by omega) H locs ls hP hD hS (lv_sub hl [0, 1, 2, 3] rfl)
    exact lp20 _ 0 0 (by omega) rfl (Nat.lt_succ_self _) H locs ls hP hD hS (lv_sub hl [0, 1, 2, 3] rfl)
  · refine lv_if_ne (tgt := 10) hx hb dX0_reach_5 (by decide) (fun c_6 => absurd c_6 (by decide)) (fun c_6 => ?_)
    refine lv_iconst (v := (-1)) hx hb dX0_reach_8 (by decide) ?_
    exact xr_i hx hb hr hlocks (d, n) (Or.inr ⟨rfl, h_r⟩) hP hK hD hS dX0_reach_9
set_option maxHeartbeats 4000000 in
set_option maxRecDepth 100000 in
theorem k_X0_pluggedPorts (l : Launch) (D : va_G) (ad : Nat → Nat) (tt : Nat → ClassId) (R : Nat) (w c k d n : Nat → Int32) (wp wr : Int32) (hW : ∀ a, a < 40 → w a = -1 ∨ ix (w a) 16) : xMi l yX0_pluggedPorts wsX0_pluggedPorts { frames := 1, cells := 0, slots := 0, locals := 20 } D (tyX tt) [.ref (ad 0)] (xw ad tt R w c k d n wp wr) (fun _ : Unit => xw ad tt R w c k d n wp wr) (fun v _ => v = nI (dm_cnt (fun a => decide (w a ≠ -1)) 40)) := by
  refine xe_i (cc := cX0_pluggedPorts) (maxL := 3) (ret := (some .int)) (lvl := [(0, .ref (ad 0))]) (by decide) rfl (Nat.le_of_ble_eq_true rfl) rfl ?_
  intro p e s m below meth cd A ls hx hb hr hlocks hml hown hts hA hP hK hD hS hl
  have hin : ∀ w ∈ wsX00, w ∈ wsX0_pluggedPorts := fun _ h => List.mem_cons_of_mem _ (List.mem_append_right _ h)
  have S0 : CallFix p m cd cX0_pluggedPorts 3 s (([.ref (ad 0)] : List Value).toArray) wsX0_pluggedPorts RX0 := ⟨hx, hb, hml, hown, hts⟩
  obtain ⟨H, hH⟩ : ∃ H, H = s.heap := ⟨_, rfl⟩
  obtain ⟨locs, hlocs⟩ : ∃ q : List Loc, q = [] := ⟨_, rfl⟩
  have hP : va_P D vwCl (xw ad tt R w c k d n wp wr) H := by rw [hH]; exact hP
  have hS : va_S A s.heap H locs := by rw [hH, hlocs]; exact hS
  suffices hgo : W p l e (headSpec wsX0_pluggedPorts ({ frames := 1, cells := 0, slots := 0, locals := 20 } : Room)).room s m (([.ref (ad 0)] : List Value).toArray) below meth cd H locs 0 0 (MQ below (va_Qi (fun v _ => v = nI (dm_cnt (fun a => decide (w a ≠ -1)) 40)) (xB D (tyX tt) A (fun _ : Unit => xw ad tt R w c k d n wp wr)) A) ([.ref (ad 0)] : List Value).toArray s 0 0 A) (F0 m 0 ls []) by rw [hH, hlocs] at hgo; exact hgo
  clear hH hlocs
  have f_wireAt := hts (.fieldLink RX0 22 "WireWays" "wireAt" "[I") (by decide +kernel)
  refine lv_iconst (v := 0) hx hb dX0_pluggedPorts_0 (by decide) ?_
  refine lv_istore_n (lv' := [(1, .int 0), (0, .ref (ad 0))]) hx hb dX0_pluggedPorts_1 rfl hl (by decide) rfl (fun ls hl => ?_)
  refine lv_iconst (v := 0) hx hb dX0_pluggedPorts_2 (by decide) ?_
  refine lv_istore_n (lv' := [(2, .int 0), (1, .int 0), (0, .ref (ad 0))]) hx hb dX0_pluggedPorts_3 rfl hl (by decide) rfl (fun ls hl => ?_)
  have lp4 : ∀ (fuel : Nat) (a : Nat) (cn : Nat), (a ≤ 40) → (cn = dm_cnt (fun a => decide (w a ≠ -1)) a) → 40 - a < fuel → ∀ (H : Heap) (locs : List Loc) (ls : Array Slot), va_P D vwCl (xw ad tt R w c k d n wp wr) H → va_D A (xw ad tt R w c k d n wp wr) → va_S A s.heap H locs → lv_has ls 3 [(2, .int (nI a)), (1, .int (nI cn)), (0, .ref (ad 0))] → W p l e (headSpec wsX0_pluggedPorts ({ frames := 1, cells := 0, slots := 0, locals := 20 } : Room)).room s m ([.ref (ad 0)] : List Value).toArray below meth cd H locs 0 0 (MQ below (va_Qi (fun v _ => v = nI (dm_cnt (fun a => decide (w a ≠ -1)) 40)) (xB D (tyX tt) A (fun _ : Unit => xw ad tt R w c k d n wp wr)) A) ([.ref (ad 0)] : List Value).toArray s 0 0 A) (F0 m 4 ls []) := by
    intro fuel
    induction fuel with
    | zero => intro a cn ha0 hcn hm; exact absurd hm (Nat.not_lt_zero _)
    | succ fuel ih4 =>
      intro a cn ha0 hcn hm H locs ls hP hD hS hl
      refine lv_iload_n hx hb dX0_pluggedPorts_4 rfl (lv_at hl 0 rfl) ?_
      refine lv_aload_n hx hb dX0_pluggedPorts_5 rfl (lv_at hl 2 rfl) ?_
      refine x0_get (v := .ref (ad 1)) S0 hin hK hP 1 (by decide) f_wireAt rfl rfl dX0_pluggedPorts_6 ?_
      refine va_alen (v := 40) hx hb hK hP 1 0 rfl rfl rfl dX0_pluggedPorts_9 ?_
      refine lv_icmp_ge (tgt := 34) hx hb dX0_pluggedPorts_10 (by decide) (fun c_1 => ?_) (fun c_1 => ?_)
      · have ha4 : 40 ≤ a := (nI_leI (a := 40) (by omega) (by omega)).mp c_1
        refine lv_iload_n hx hb dX0_pluggedPorts_34 rfl (lv_at hl 1 rfl) ?_
        exact xr_i hx hb hr hlocks () (by rw [hcn, show a = 40 by omega]) hP hK hD hS dX0_pluggedPorts_35
      · have ha4 : a < 40 := Nat.lt_of_not_le (fun h => c_1 (nI_le (a := 40) h (by omega)))
        refine lv_aload_n hx hb dX0_pluggedPorts_13 rfl (lv_at hl 2 rfl) ?_
        refine x0_get (v := .ref (ad 1)) S0 hin hK hP 1 (by decide) f_wireAt rfl rfl dX0_pluggedPorts_14 ?_
        refine lv_iload_n hx hb dX0_pluggedPorts_17 rfl (lv_at hl 0 rfl) ?_
        refine va_iald hx hb hK hP 1 0 rfl rfl (vp_in_nI (by omega) (by omega)) dX0_pluggedPorts_18 ?_
        refine xt_eq (z := w a) (congrArg w (nI_clamp (by omega))) ?_
        refine xs_Si (nA := 1) (As := [.int (w a)]) (rest := []) S0 (k_X0_isWire l D (w a)) gX0_pluggedPorts_X0_isWire rfl ⟨rfl, rfl⟩ (by decide +kernel) rfl ⟨Nat.le_of_ble_eq_true rfl, Nat.le_of_ble_eq_true rfl⟩ ⟨Nat.le_of_ble_eq_true rfl, Nat.le_of_ble_eq_true rfl⟩ hK hP hD hS hA hl.1 rfl (Nat.le_of_ble_eq_true rfl) dX0_pluggedPorts_19 (fun r_2 H locs hw hP hD hS => ?_)
        rcases hw with ⟨rfl, h_w⟩ | ⟨rfl, h_w⟩
        · refine lv_if_eq (tgt := 28) hx hb dX0_pluggedPorts_22 (by decide) (fun c_3 => absurd c_3 (by decide)) (fun c_3 => ?_)
          refine lv_iinc (v := nI (cn + 1)) (lv' := [(1, .int (nI (cn + 1))), (2, .int (nI a)), (0, .ref (ad 0))]) hx hb dX0_pluggedPorts_25 hl (k := 1) rfl (nI_1 cn) (by decide) rfl (fun ls hl => ?_)
          refine lv_iinc (v := nI (a + 1)) (lv' := [(2, .int (nI (a + 1))), (1, .int (nI (cn + 1))), (0, .ref (ad 0))]) hx hb dX0_pluggedPorts_28 hl (k := 1) rfl (nI_1 a) (by decide) rfl (fun ls hl => ?_)
          refine lv_goto (tgt := 4) hx hb dX0_pluggedPorts_31 (by decide) ?_
          exact ih4 (a + 1) (cn + 1) (by omega) (cnt_t hcn (decide_eq_true (ix_m1 h_w))) (by omega) H locs ls hP hD hS (lv_sub hl [0, 1, 2] rfl)
        · refine lv_if_eq (tgt := 28) hx hb dX0_pluggedPorts_22 (by decide) (fun c_4 => ?_) (fun c_4 => absurd c_4 (by decide))
          refine lv_iinc (v := nI (a + 1)) (lv' := [(2, .int (nI (a + 1))), (1, .int (nI cn)), (0, .ref (ad 0))]) hx hb dX0_pluggedPorts_28 hl (k := 0) rfl (nI_1 a) (by decide) rfl (fun ls hl => ?_)
          refine lv_goto (tgt := 4) hx hb dX0_pluggedPorts_31 (by decide) ?_
          exact ih4 (a + 1) cn (by omega) (cnt_f hcn (fun h => h_w ((hW a ha4).resolve_left (of_decide_eq_true h)))) (by omega) H locs ls hP hD hS (lv_sub hl [0, 1, 2] rfl)
  exact lp4 _ 0 0 (by omega) rfl (Nat.lt_succ_self _) H locs ls hP hD hS (lv_sub hl [0, 1, 2] rfl)
set_option maxHeartbeats 4000000 in
set_option maxRecDepth 100000 in
theorem k_X0_cutWires (l : Launch) (D : va_G) (ad : Nat → Nat) (tt : Nat → ClassId) (R : Nat) (w c k d n : Nat → Int32) (wp wr : Int32) : xMi l yX0_cutWires wsX0_cutWires { frames := 0, cells := 0, slots := 0, locals := 0 } D (tyX tt) [.ref (ad 0)] (xw ad tt R w c k d n wp wr) (fun _ : Unit => xw ad tt R w c k d n wp wr) (fun v _ => v = nI (dm_cnt (fun a => decide (k a ≠ 0)) 16)) := by
  refine xe_i (cc := cX0_cutWires) (maxL := 3) (ret := (some .int)) (lvl := [(0, .ref (ad 0))]) (by decide) rfl (Nat.le_of_ble_eq_true rfl) rfl ?_
  intro p e s m below meth cd A ls hx hb hr hlocks hml hown hts hA hP hK hD hS hl
  have hin : ∀ w ∈ wsX00, w ∈ wsX0_cutWires := fun _ h => List.mem_cons_of_mem _ (List.mem_append_right _ h)
  have S0 : CallFix p m cd cX0_cutWires 3 s (([.ref (ad 0)] : List Value).toArray) wsX0_cutWires RX0 := ⟨hx, hb, hml, hown, hts⟩
  obtain ⟨H, hH⟩ : ∃ H, H = s.heap := ⟨_, rfl⟩
  obtain ⟨locs, hlocs⟩ : ∃ q : List Loc, q = [] := ⟨_, rfl⟩
  have hP : va_P D vwCl (xw ad tt R w c k d n wp wr) H := by rw [hH]; exact hP
  have hS : va_S A s.heap H locs := by rw [hH, hlocs]; exact hS
  suffices hgo : W p l e (headSpec wsX0_cutWires ({ frames := 0, cells := 0, slots := 0, locals := 0 } : Room)).room s m (([.ref (ad 0)] : List Value).toArray) below meth cd H locs 0 0 (MQ below (va_Qi (fun v _ => v = nI (dm_cnt (fun a => decide (k a ≠ 0)) 16)) (xB D (tyX tt) A (fun _ : Unit => xw ad tt R w c k d n wp wr)) A) ([.ref (ad 0)] : List Value).toArray s 0 0 A) (F0 m 0 ls []) by rw [hH, hlocs] at hgo; exact hgo
  clear hH hlocs
  have f_isCut := hts (.fieldLink RX0 29 "WireWays" "isCut" "[Z") (by decide +kernel)
  refine lv_iconst (v := 0) hx hb dX0_cutWires_0 (by decide) ?_
  refine lv_istore_n (lv' := [(1, .int 0), (0, .ref (ad 0))]) hx hb dX0_cutWires_1 rfl hl (by decide) rfl (fun ls hl => ?_)
  refine lv_iconst (v := 0) hx hb dX0_cutWires_2 (by decide) ?_
  refine lv_istore_n (lv' := [(2, .int 0), (1, .int 0), (0, .ref (ad 0))]) hx hb dX0_cutWires_3 rfl hl (by decide) rfl (fun ls hl => ?_)
  have lp4 : ∀ (fuel : Nat) (a : Nat) (cn : Nat), (a ≤ 16) → (cn = dm_cnt (fun a => decide (k a ≠ 0)) a) → 16 - a < fuel → ∀ (H : Heap) (locs : List Loc) (ls : Array Slot), va_P D vwCl (xw ad tt R w c k d n wp wr) H → va_D A (xw ad tt R w c k d n wp wr) → va_S A s.heap H locs → lv_has ls 3 [(2, .int (nI a)), (1, .int (nI cn)), (0, .ref (ad 0))] → W p l e (headSpec wsX0_cutWires ({ frames := 0, cells := 0, slots := 0, locals := 0 } : Room)).room s m ([.ref (ad 0)] : List Value).toArray below meth cd H locs 0 0 (MQ below (va_Qi (fun v _ => v = nI (dm_cnt (fun a => decide (k a ≠ 0)) 16)) (xB D (tyX tt) A (fun _ : Unit => xw ad tt R w c k d n wp wr)) A) ([.ref (ad 0)] : List Value).toArray s 0 0 A) (F0 m 4 ls []) := by
    intro fuel
    induction fuel with
    | zero => intro a cn ha0 hcn hm; exact absurd hm (Nat.not_lt_zero _)
    | succ fuel ih4 =>
      intro a cn ha0 hcn hm H locs ls hP hD hS hl
      refine lv_iload_n hx hb dX0_cutWires_4 rfl (lv_at hl 0 rfl) ?_
      refine lv_bipush (v := 16) hx hb dX0_cutWires_5 (by decide) ?_
      refine lv_icmp_ge (tgt := 28) hx hb dX0_cutWires_7 (by decide) (fun c_1 => ?_) (fun c_1 => ?_)
      · have ha4 : 16 ≤ a := (nI_leI (a := 16) (by omega) (by omega)).mp c_1
        refine lv_iload_n hx hb dX0_cutWires_28 rfl (lv_at hl 1 rfl) ?_
        exact xr_i hx hb hr hlocks () (by rw [hcn, show a = 16 by omega]) hP hK hD hS dX0_cutWires_29
      · have ha4 : a < 16 := Nat.lt_of_not_le (fun h => c_1 (nI_le (a := 16) h (by omega)))
        refine lv_aload_n hx hb dX0_cutWires_10 rfl (lv_at hl 2 rfl) ?_
        refine x0_get (v := .ref (ad 3)) S0 hin hK hP 3 (by decide) f_isCut rfl rfl dX0_cutWires_11 ?_
        refine lv_iload_n hx hb dX0_cutWires_14 rfl (lv_at hl 0 rfl) ?_
        refine va_zald hx hb hK hP 3 2 rfl rfl (vp_in_nI (by omega) (by omega)) dX0_cutWires_15 ?_
        refine xt_eq (z := k a) (congrArg k (nI_clamp (by omega))) ?_
        refine lv_if_eq (tgt := 22) hx hb dX0_cutWires_16 (by decide) (fun c_2 => ?_) (fun c_2 => ?_)
        · have hk0 := c_2
          refine lv_iinc (v := nI (a + 1)) (lv' := [(2, .int (nI (a + 1))), (1, .int (nI cn)), (0, .ref (ad 0))]) hx hb dX0_cutWires_22 hl (k := 0) rfl (nI_1 a) (by decide) rfl (fun ls hl => ?_)
          refine lv_goto (tgt := 4) hx hb dX0_cutWires_25 (by decide) ?_
          exact ih4 (a + 1) cn (by omega) (cnt_f hcn (fun h => of_decide_eq_true h hk0)) (by omega) H locs ls hP hD hS (lv_sub hl [0, 1, 2] rfl)
        · have hk0 := c_2
          refine lv_iinc (v := nI (cn + 1)) (lv' := [(1, .int (nI (cn + 1))), (2, .int (nI a)), (0, .ref (ad 0))]) hx hb dX0_cutWires_19 hl (k := 1) rfl (nI_1 cn) (by decide) rfl (fun ls hl => ?_)
          refine lv_iinc (v := nI (a + 1)) (lv' := [(2, .int (nI (a + 1))), (1, .int (nI (cn + 1))), (0, .ref (ad 0))]) hx hb dX0_cutWires_22 hl (k := 1) rfl (nI_1 a) (by decide) rfl (fun ls hl => ?_)
          refine lv_goto (tgt := 4) hx hb dX0_cutWires_25 (by decide) ?_
          exact ih4 (a + 1) (cn + 1) (by omega) (cnt_t hcn (decide_eq_true hk0)) (by omega) H locs ls hP hD hS (lv_sub hl [0, 1, 2] rfl)
  exact lp4 _ 0 0 (by omega) rfl (Nat.lt_succ_self _) H locs ls hP hD hS (lv_sub hl [0, 1, 2] rfl)
set_option maxHeartbeats 4000000 in
set_option maxRecDepth 100000 in
theorem k_X0_greatestDistance (l : Launch) (D : va_G) (ad : Nat → Nat) (tt : Nat → ClassId) (R : Nat) (w c k d n : Nat → Int32) (wp wr : Int32) (hok : ww_ok R w c) : xMi l yX0_greatestDistance wsX0_greatestDistance { frames := 4, cells := 0, slots := 0, locals := 90 } D (tyX tt) [.ref (ad 0)] (xw ad tt R w c k d n wp wr) (fun u : (Nat → Int32) × (Nat → Int32) => xw ad tt R w c k u.1 u.2 wp wr) (fun v _ => v = nI (ww_mx R w c k)) := by
  refine xe_i (cc := cX0_greatestDistance) (maxL := 4) (ret := (some .int)) (lvl := [(0, .ref (ad 0))]) (by decide) rfl (Nat.le_of_ble_eq_true rfl) rfl ?_
  intro p e s m below meth cd A ls hx hb hr hlocks hml hown hts hA hP hK hD hS hl
  have hin : ∀ w ∈ wsX00, w ∈ wsX0_greatestDistance := fun _ h => List.mem_cons_of_mem _ (List.mem_append_right _ h)
  have S0 : CallFix p m cd cX0_greatestDistance 4 s (([.ref (ad 0)] : List Value).toArray) wsX0_greatestDistance RX0 := ⟨hx, hb, hml, hown, hts⟩
  obtain ⟨H, hH⟩ : ∃ H, H = s.heap := ⟨_, rfl⟩
  obtain ⟨locs, hlocs⟩ : ∃ q : List Loc, q = [] := ⟨_, rfl⟩
  have hP : va_P D vwCl (xw ad tt R w c k d n wp wr) H := by rw [hH]; exact hP
  have hS : va_S A s.heap H locs := by rw [hH, hlocs]; exact hS
  suffices hgo : W p l e (headSpec wsX0_greatestDistance ({ frames := 4, cells := 0, slots := 0, locals := 90 } : Room)).room s m (([.ref (ad 0)] : List Value).toArray) below meth cd H locs 0 0 (MQ below (va_Qi (fun v _ => v = nI (ww_mx R w c k)) (xB D (tyX tt) A (fun u : (Nat → Int32) × (Nat → Int32) => xw ad tt R w c k u.1 u.2 wp wr)) A) ([.ref (ad 0)] : List Value).toArray s 0 0 A) (F0 m 0 ls []) by rw [hH, hlocs] at hgo; exact hgo
  clear hH hlocs
  have f_routers := hts (.fieldLink RX0 18 "WireWays" "routers" "I") (by decide +kernel)
  have f_distance := hts (.fieldLink RX0 33 "WireWays" "distance" "[I") (by decide +kernel)
  have hR : R ≤ 10 := hok.2.1
  refine lv_iconst (v := 0) hx hb dX0_greatestDistance_0 (by decide) ?_
  refine lv_istore_n (lv' := [(1, .int 0), (0, .ref (ad 0))]) hx hb dX0_greatestDistance_1 rfl hl (by decide) rfl (fun ls hl => ?_)
  refine lv_iconst (v := 0) hx hb dX0_greatestDistance_2 (by decide) ?_
  refine lv_istore_n (lv' := [(2, .int 0), (1, .int 0), (0, .ref (ad 0))]) hx hb dX0_greatestDistance_3 rfl hl (by decide) rfl (fun ls hl => ?_)
  have lp4 : ∀ (fuel : Nat) (t : Nat) (g : Nat) (d1 : Nat → Int32) (n1 : Nat → Int32), (t ≤ R) → (g = mx2 (fun t => ww_T R w c k 0 t) 1000000 R t) → R - t < fuel → ∀ (H : Heap) (locs : List Loc) (ls : Array Slot), va_P D vwCl (xw ad tt R w c k d1 n1 wp wr) H → va_D A (xw ad tt R w c k d1 n1 wp wr) → va_S A s.heap H locs → lv_has ls 4 [(2, .int (nI t)), (1, .int (nI g)), (0, .ref (ad 0))] → W p l e (headSpec wsX0_greatestDistance ({ frames := 4, cells := 0, slots := 0, locals := 90 } : Room)).room s m ([.ref (ad 0)] : List Value).toArray below meth cd H locs 0 0 (MQ below (va_Qi (fun v _ => v = nI (ww_mx R w c k)) (xB D (tyX tt) A (fun u : (Nat → Int32) × (Nat → Int32) => xw ad tt R w c k u.1 u.2 wp wr)) A) ([.ref (ad 0)] : List Value).toArray s 0 0 A) (F0 m 4 ls []) := by
    intro fuel
    induction fuel with
    | zero => intro t g d1 n1 ht0 hg hm; exact absurd hm (Nat.not_lt_zero _)
    | succ fuel ih4 =>
      intro t g d1 n1 ht0 hg hm H locs ls hP hD hS hl
      refine lv_iload_n hx hb dX0_greatestDistance_4 rfl (lv_at hl 0 rfl) ?_
      refine lv_aload_n hx hb dX0_greatestDistance_5 rfl (lv_at hl 2 rfl) ?_
      refine x0_get (v := .int (nI R)) S0 hin hK hP 0 (by decide) f_routers rfl rfl dX0_greatestDistance_6 ?_
      refine lv_icmp_ge (tgt := 68) hx hb dX0_greatestDistance_9 (by decide) (fun c_1 => ?_) (fun c_1 => ?_)
      · have htR : R ≤ t := (nI_leI (by omega) (by omega)).mp c_1
        refine lv_iload_n hx hb dX0_greatestDistance_68 rfl (lv_at hl 1 rfl) ?_
        exact xr_i hx hb hr hlocks (d1, n1) (by rw [hg, show t = R by omega]; rfl) hP hK hD hS dX0_greatestDistance_69
      · have htR : t < R := Nat.lt_of_not_le (fun h => c_1 (nI_le h (by omega)))
        refine lv_aload_n hx hb dX0_greatestDistance_12 rfl (lv_at hl 2 rfl) ?_
        refine lv_iconst (v := 0) hx hb dX0_greatestDistance_13 (by decide) ?_
        refine lv_iload_n hx hb dX0_greatestDistance_14 rfl (lv_at hl 0 rfl) ?_
        refine xs_Vv (wr := []) (q0 := 0) (ci := 0) (nA := 2) (As := [.int 0, .int (nI t)]) (rest := []) S0 (k_X0_measure l D ad tt R w c k d1 n1 wp wr hok 0 t ⟨fun h => absurd rfl h, fun _ => htR⟩ (ww_T R w c k 0 t) (ww_T_ok hok k 0 t)) gX0_greatestDistance_X0_measure rfl ⟨rfl, rfl⟩ (by decide +kernel) rfl ⟨Nat.le_of_ble_eq_true rfl, Nat.le_of_ble_eq_true rfl⟩ ⟨Nat.le_of_ble_eq_true rfl, Nat.le_of_ble_eq_true rfl⟩ hK hP hD hS hA [0, 1, 2, 3, 4, 5] [] rfl rfl (by decide) (by decide) (by decide) rfl rfl rfl hl.1 rfl (Nat.le_of_ble_eq_true rfl) dX0_greatestDistance_15 (fun u1 H locs hw hP hD hS => ?_)
        have hP : va_P D vwCl (xw ad tt R w c k u1.1 u1.2 wp wr) H := hP
        have hD : va_D A (xw ad tt R w c k u1.1 u1.2 wp wr) := hD
        have hrow := hw
        refine lv_iconst (v := 0) hx hb dX0_greatestDistance_18 (by decide) ?_
        refine lv_istore_n (lv' := [(3, .int 0), (2, .int (nI t)), (1, .int (nI g)), (0, .ref (ad 0))]) hx hb dX0_greatestDistance_19 rfl hl (by decide) rfl (fun ls hl => ?_)
        have lp20 : ∀ (fuel : Nat) (a : Nat) (g1 : Nat), (a ≤ R) → (g1 = mx1 (ww_T R w c k 0 t) 1000000 a (mx2 (fun t => ww_T R w c k 0 t) 1000000 R t)) → R - a < fuel → ∀ (H : Heap) (locs : List Loc) (ls : Array Slot), va_P D vwCl (xw ad tt R w c k u1.1 u1.2 wp wr) H → va_D A (xw ad tt R w c k u1.1 u1.2 wp wr) → va_S A s.heap H locs → lv_has ls 4 [(3, .int (nI a)), (2, .int (nI t)), (1, .int (nI g1)), (0, .ref (ad 0))] → W p l e (headSpec wsX0_greatestDistance ({ frames := 4, cells := 0, slots := 0, locals := 90 } : Room)).room s m ([.ref (ad 0)] : List Value).toArray below meth cd H locs 0 0 (MQ below (va_Qi (fun v _ => v = nI (ww_mx R w c k)) (xB D (tyX tt) A (fun u : (Nat → Int32) × (Nat → Int32) => xw ad tt R w c k u.1 u.2 wp wr)) A) ([.ref (ad 0)] : List Value).toArray s 0 0 A) (F0 m 20 ls []) := by
          intro fuel
          induction fuel with
          | zero => intro a g1 ha0 hg1 hm; exact absurd hm (Nat.not_lt_zero _)
          | succ fuel ih20 =>
            intro a g1 ha0 hg1 hm H locs ls hP hD hS hl
            refine lv_iload_n hx hb dX0_greatestDistance_20 rfl (lv_at hl 0 rfl) ?_
            refine lv_aload_n hx hb dX0_greatestDistance_21 rfl (lv_at hl 3 rfl) ?_
            refine x0_get (v := .int (nI R)) S0 hin hK hP 0 (by decide) f_routers rfl rfl dX0_greatestDistance_22 ?_
            refine lv_icmp_ge (tgt := 62) hx hb dX0_greatestDistance_25 (by decide) (fun c_3 => ?_) (fun c_3 => ?_)
            · have haR : R ≤ a := (nI_leI (by omega) (by omega)).mp c_3
              refine lv_iinc (v := nI (t + 1)) (lv' := [(2, .int (nI (t + 1))), (3, .int (nI a)), (1, .int (nI g1)), (0, .ref (ad 0))]) hx hb dX0_greatestDistance_62 hl (k := 1) rfl (nI_1 t) (by decide) rfl (fun ls hl => ?_)
              refine lv_goto (tgt := 4) hx hb dX0_greatestDistance_65 (by decide) ?_
              exact ih4 (t + 1) g1 u1.1 u1.2 (by omega) (by rw [hg1, show a = R by omega]; rfl) (by omega) H locs ls hP hD hS (lv_sub hl [0, 2, 3] rfl)
            · have haR : a < R := Nat.lt_of_not_le (fun h => c_3 (nI_le h (by omega)))
              have hTle := (ww_T_ok hok k 0 t).1 a haR
              have hg9 : g1 ≤ 1000000 := by rw [hg1]; exact mx1_le (mx2_le _ _ _ t) a
              refine lv_aload_n hx hb dX0_greatestDistance_28 rfl (lv_at hl 3 rfl) ?_
              refine x0_get (v := .ref (ad 4)) S0 hin hK hP 4 (by decide) f_distance rfl rfl dX0_greatestDistance_29 ?_
              refine lv_iload_n hx hb dX0_greatestDistance_32 rfl (lv_at hl 0 rfl) ?_
              refine va_iald hx hb hK hP 4 3 rfl rfl (vp_in_nI (by omega) (by omega)) dX0_greatestDistance_33 ?_
              refine xt_eq (z := u1.1 a) (congrArg u1.1 (nI_clamp (by omega))) ?_
              refine xt_eq (z := nI (ww_T R w c k 0 t a)) (hrow a haR) ?_
              refine lv_ldc (v := 1000000) hx hb hown (hts (.constant RX0 83 1000000) (by decide +kernel)) dX0_greatestDistance_34 ?_
              refine lv_icmp_ge (tgt := 56) hx hb dX0_greatestDistance_36 (by decide) (fun c_4 => ?_) (fun c_4 => ?_)
              · have hge : 1000000 ≤ ww_T R w c k 0 t a := (nI_leI (a := 1000000) (by omega) (by omega)).mp c_4
                refine lv_iinc (v := nI (a + 1)) (lv' := [(3, .int (nI (a + 1))), (2, .int (nI t)), (1, .int (nI g1)), (0, .ref (ad 0))]) hx hb dX0_greatestDistance_56 hl (k := 0) rfl (nI_1 a) (by decide) rfl (fun ls hl => ?_)
                refine lv_goto (tgt := 20) hx hb dX0_greatestDistance_59 (by decide) ?_
                exact ih20 (a + 1) g1 (by omega) (mx1_f hg1 (by omega)) (by omega) H locs ls hP hD hS (lv_sub hl [0, 1, 2, 3] rfl)
              · have hge : ww_T R w c k 0 t a < 1000000 := Nat.lt_of_not_le (fun h => c_4 (nI_le (a := 1000000) h (by omega)))
                refine lv_aload_n hx hb dX0_greatestDistance_39 rfl (lv_at hl 3 rfl) ?_
                refine x0_get (v := .ref (ad 4)) S0 hin hK hP 4 (by decide) f_distance rfl rfl dX0_greatestDistance_40 ?_
                refine lv_iload_n hx hb dX0_greatestDistance_43 rfl (lv_at hl 0 rfl) ?_
                refine va_iald hx hb hK hP 4 3 rfl rfl (vp_in_nI (by omega) (by omega)) dX0_greatestDistance_44 ?_
                refine xt_eq (z := u1.1 a) (congrArg u1.1 (nI_clamp (by omega))) ?_
                refine xt_eq (z := nI (ww_T R w c k 0 t a)) (hrow a haR) ?_
                refine lv_iload_n hx hb dX0_greatestDistance_45 rfl (lv_at hl 2 rfl) ?_
                refine lv_icmp_le (tgt := 56) hx hb dX0_greatestDistance_46 (by decide) (fun c_5 => ?_) (fun c_5 => ?_)
                · have hle : ww_T R w c k 0 t a ≤ g1 := (nI_leI (by omega) (by omega)).mp c_5
                  refine lv_iinc (v := nI (a + 1)) (lv' := [(3, .int (nI (a + 1))), (2, .int (nI t)), (1, .int (nI g1)), (0, .ref (ad 0))]) hx hb dX0_greatestDistance_56 hl (k := 0) rfl (nI_1 a) (by decide) rfl (fun ls hl => ?_)
                  refine lv_goto (tgt := 20) hx hb dX0_greatestDistance_59 (by decide) ?_
                  exact ih20 (a + 1) g1 (by omega) (mx1_f hg1 (by omega)) (by omega) H locs ls hP hD hS (lv_sub hl [0, 1, 2, 3] rfl)
                · have hle : g1 < ww_T R w c k 0 t a := Nat.lt_of_not_le (fun h => c_5 (nI_le h (by omega)))
                  refine lv_aload_n hx hb dX0_greatestDistance_49 rfl (lv_at hl 3 rfl) ?_
                  refine x0_get (v := .ref (ad 4)) S0 hin hK hP 4 (by decide) f_distance rfl rfl dX0_greatestDistance_50 ?_
                  refine lv_iload_n hx hb dX0_greatestDistance_53 rfl (lv_at hl 0 rfl) ?_
                  refine va_iald hx hb hK hP 4 3 rfl rfl (vp_in_nI (by omega) (by omega)) dX0_greatestDistance_54 ?_
                  refine xt_eq (z := u1.1 a) (congrArg u1.1 (nI_clamp (by omega))) ?_
                  refine xt_eq (z := nI (ww_T R w c k 0 t a)) (hrow a haR) ?_
                  refine lv_istore_n (lv' := [(1, .int (nI (ww_T R w c k 0 t a))), (3, .int (nI a)), (2, .int (nI t)), (0, .ref (ad 0))]) hx hb dX0_greatestDistance_55 rfl hl (by decide) rfl (fun ls hl => ?_)
                  refine lv_iinc (v := nI (a + 1)) (lv' := [(3, .int (nI (a + 1))), (1, .int (nI (ww_T R w c k 0 t a))), (2, .int (nI t)), (0, .ref (ad 0))]) hx hb dX0_greatestDistance_56 hl (k := 1) rfl (nI_1 a) (by decide) rfl (fun ls hl => ?_)
                  refine lv_goto (tgt := 20) hx hb dX0_greatestDistance_59 (by decide) ?_
                  exact ih20 (a + 1) (ww_T R w c k 0 t a) (by omega) (mx1_t hg1 hge hle) (by omega) H locs ls hP hD hS (lv_sub hl [0, 2, 1, 3] rfl)
        exact lp20 _ 0 g (by omega) hg (Nat.lt_succ_self _) H locs ls hP hD hS (lv_sub hl [0, 1, 2, 3] rfl)
  exact lp4 _ 0 0 d n (by omega) rfl (Nat.lt_succ_self _) H locs ls hP hD hS (lv_sub hl [0, 1, 2] rfl)
set_option maxHeartbeats 4000000 in
set_option maxRecDepth 100000 in
theorem k_X0_count (l : Launch) (D : va_G) (ad : Nat → Nat) (tt : Nat → ClassId) (R : Nat) (w c k d n : Nat → Int32) (wp wr : Int32) (hok : ww_ok R w c) (x : Int32) : xMi l yX0_count wsX0_count { frames := 5, cells := 0, slots := 0, locals := 113 } D (tyX tt) [.ref (ad 0), .int x] (xw ad tt R w c k d n wp wr) (fun u : (Nat → Int32) × (Nat → Int32) => xw ad tt R w c k u.1 u.2 wp wr) (fun v _ => ct_ok R w c k x v) := by
  refine xe_i (cc := cX0_count) (maxL := 2) (ret := (some .int)) (lvl := [(0, .ref (ad 0)), (1, .int x)]) (by decide) rfl (Nat.le_of_ble_eq_true rfl) rfl ?_
  intro p e s m below meth cd A ls hx hb hr hlocks hml hown hts hA hP hK hD hS hl
  have hin : ∀ w ∈ wsX00, w ∈ wsX0_count := fun _ h => List.mem_cons_of_mem _ (List.mem_append_right _ h)
  have S0 : CallFix p m cd cX0_count 2 s (([.ref (ad 0), .int x] : List Value).toArray) wsX0_count RX0 := ⟨hx, hb, hml, hown, hts⟩
  obtain ⟨H, hH⟩ : ∃ H, H = s.heap := ⟨_, rfl⟩
  obtain ⟨locs, hlocs⟩ : ∃ q : List Loc, q = [] := ⟨_, rfl⟩
  have hP : va_P D vwCl (xw ad tt R w c k d n wp wr) H := by rw [hH]; exact hP
  have hS : va_S A s.heap H locs := by rw [hH, hlocs]; exact hS
  suffices hgo : W p l e (headSpec wsX0_count ({ frames := 5, cells := 0, slots := 0, locals := 113 } : Room)).room s m (([.ref (ad 0), .int x] : List Value).toArray) below meth cd H locs 0 0 (MQ below (va_Qi (fun v _ => ct_ok R w c k x v) (xB D (tyX tt) A (fun u : (Nat → Int32) × (Nat → Int32) => xw ad tt R w c k u.1 u.2 wp wr)) A) ([.ref (ad 0), .int x] : List Value).toArray s 0 0 A) (F0 m 0 ls []) by rw [hH, hlocs] at hgo; exact hgo
  clear hH hlocs
  have f_routers := hts (.fieldLink RX0 18 "WireWays" "routers" "I") (by decide +kernel)
  have hR : R ≤ 10 := hok.2.1
  refine lv_iload_n hx hb dX0_count_0 rfl (lv_at hl 1 rfl) ?_
  by_cases h0 : x = 0
  · subst h0
    refine lv_tableIn (off := 31) (tgt := 32) hx hb dX0_count_1 (by decide) (by decide) rfl (by decide) ?_
    refine lv_aload_n hx hb dX0_count_32 rfl (lv_at hl 0 rfl) ?_
    refine x0_get (v := .int (nI R)) S0 hin hK hP 0 (by decide) f_routers rfl rfl dX0_count_33 ?_
    exact xr_i hx hb hr hlocks (d, n) (Or.inl ⟨rfl, rfl⟩) hP hK hD hS dX0_count_36
  by_cases h1 : x = 1
  · subst h1
    refine lv_tableIn (off := 36) (tgt := 37) hx hb dX0_count_1 (by decide) (by decide) rfl (by decide) ?_
    refine lv_aload_n hx hb dX0_count_37 rfl (lv_at hl 0 rfl) ?_
    refine xs_Vi (wr := []) (q0 := 0) (ci := 0) (nA := 0) (As := []) (rest := []) S0 (k_X0_pluggedPorts l D ad tt R w c k d n wp wr hok.2.2.1) gX0_count_X0_pluggedPorts rfl ⟨rfl, rfl⟩ (by decide +kernel) rfl ⟨Nat.le_of_ble_eq_true rfl, Nat.le_of_ble_eq_true rfl⟩ ⟨Nat.le_of_ble_eq_true rfl, Nat.le_of_ble_eq_true rfl⟩ hK hP hD hS hA [0, 1, 2, 3, 4, 5] [] rfl rfl (by decide) (by decide) (by decide) rfl rfl rfl hl.1 rfl (Nat.le_of_ble_eq_true rfl) dX0_count_38 (fun r_1 u1 H locs hw hP hD hS => ?_)
    have hP : va_P D vwCl (xw ad tt R w c k d n wp wr) H := hP
    have hD : va_D A (xw ad tt R w c k d n wp wr) := hD
    subst hw
    exact xr_i hx hb hr hlocks (d, n) (Or.inr (Or.inl ⟨rfl, rfl⟩)) hP hK hD hS dX0_count_41
  by_cases h2 : x = 2
  · subst h2
    refine lv_tableIn (off := 41) (tgt := 42) hx hb dX0_count_1 (by decide) (by decide) rfl (by decide) ?_
    refine lv_aload_n hx hb dX0_count_42 rfl (lv_at hl 0 rfl) ?_
    refine xs_Vi (wr := []) (q0 := 0) (ci := 0) (nA := 0) (As := []) (rest := []) S0 (k_X0_cutWires l D ad tt R w c k d n wp wr) gX0_count_X0_cutWires rfl ⟨rfl, rfl⟩ (by decide +kernel) rfl ⟨Nat.le_of_ble_eq_true rfl, Nat.le_of_ble_eq_true rfl⟩ ⟨Nat.le_of_ble_eq_true rfl, Nat.le_of_ble_eq_true rfl⟩ hK hP hD hS hA [0, 1, 2, 3, 4, 5] [] rfl rfl (by decide) (by decide) (by decide) rfl rfl rfl hl.1 rfl (Nat.le_of_ble_eq_true rfl) dX0_count_43 (fun r_2 u1 H locs hw hP hD hS => ?_)
    have hP : va_P D vwCl (xw ad tt R w c k d n wp wr) H := hP
    have hD : va_D A (xw ad tt R w c k d n wp wr) := hD
    subst hw
    exact xr_i hx hb hr hlocks (d, n) (Or.inr (Or.inr (Or.inl ⟨rfl, rfl⟩))) hP hK hD hS dX0_count_46
  by_cases h3 : x = 3
  · subst h3
    refine lv_tableIn (off := 46) (tgt := 47) hx hb dX0_count_1 (by decide) (by decide) rfl (by decide) ?_
    refine lv_aload_n hx hb dX0_count_47 rfl (lv_at hl 0 rfl) ?_
    refine xs_Vi (wr := []) (q0 := 0) (ci := 0) (nA := 0) (As := []) (rest := []) S0 (k_X0_greatestDistance l D ad tt R w c k d n wp wr hok) gX0_count_X0_greatestDistance rfl ⟨rfl, rfl⟩ (by decide +kernel) rfl ⟨Nat.le_of_ble_eq_true rfl, Nat.le_of_ble_eq_true rfl⟩ ⟨Nat.le_of_ble_eq_true rfl, Nat.le_of_ble_eq_true rfl⟩ hK hP hD hS hA [0, 1, 2, 3, 4, 5] [] rfl rfl (by decide) (by decide) (by decide) rfl rfl rfl hl.1 rfl (Nat.le_of_ble_eq_true rfl) dX0_count_48 (fun r_3 u1 H locs hw hP hD hS => ?_)
    have hP : va_P D vwCl (xw ad tt R w c k u1.1 u1.2 wp wr) H := hP
    have hD : va_D A (xw ad tt R w c k u1.1 u1.2 wp wr) := hD
    subst hw
    exact xr_i hx hb hr hlocks (u1.1, u1.2) (Or.inr (Or.inr (Or.inr (Or.inl ⟨rfl, rfl⟩)))) hP hK hD hS dX0_count_51
  refine lv_tableOut (tgt := 52) hx hb dX0_count_1 (tb4 h0 h1 h2 h3) (by decide) ?_
  refine lv_iconst (v := (-1)) hx hb dX0_count_52 (by decide) ?_
  exact xr_i hx hb hr hlocks (d, n) (Or.inr (Or.inr (Or.inr (Or.inr ⟨h0, h1, h2, h3, rfl⟩)))) hP hK hD hS dX0_count_53
