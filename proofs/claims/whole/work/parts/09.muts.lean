set_option maxHeartbeats 4000000 in
set_option maxRecDepth 100000 in
theorem k_X0_plug (l : Launch) (D : va_G) (ad : Nat → Nat) (tt : Nat → ClassId) (R : Nat) (w c k d n : Nat → Int32) (wp wr : Int32) (x y z q : Int32) (hR : R ≤ 10) (hW : ∀ a, a < 40 → w a = -1 ∨ ix (w a) 16) : xMi l yX0_plug wsX0_plug { frames := 2, cells := 0, slots := 0, locals := 44 } D (tyX tt) [.ref (ad 0), .int x, .int y, .int z, .int q] (xw ad tt R w c k d n wp wr) (fun u : (Nat → Int32) × (Nat → Int32) => xw ad tt R u.1 u.2 k d n wp wr) (fun v u => r_plug R w c x y z q v u) := by
  refine xe_i (cc := cX0_plug) (maxL := 6) (ret := (some .boolean)) (lvl := [(0, .ref (ad 0)), (1, .int x), (2, .int y), (3, .int z), (4, .int q)]) (by decide) rfl (Nat.le_of_ble_eq_true rfl) rfl ?_
  intro p e s m below meth cd A ls hx hb hr hlocks hml hown hts hA hP hK hD hS hl
  have hin : ∀ w ∈ wsX00, w ∈ wsX0_plug := fun _ h => List.mem_cons_of_mem _ (List.mem_append_right _ h)
  have S0 : CallFix p m cd cX0_plug 6 s (([.ref (ad 0), .int x, .int y, .int z, .int q] : List Value).toArray) wsX0_plug RX0 := ⟨hx, hb, hml, hown, hts⟩
  obtain ⟨H, hH⟩ : ∃ H, H = s.heap := ⟨_, rfl⟩
  obtain ⟨locs, hlocs⟩ : ∃ q : List Loc, q = [] := ⟨_, rfl⟩
  have hP : va_P D vwCl (xw ad tt R w c k d n wp wr) H := by rw [hH]; exact hP
  have hS : va_S A s.heap H locs := by rw [hH, hlocs]; exact hS
  suffices hgo : W p l e (headSpec wsX0_plug ({ frames := 2, cells := 0, slots := 0, locals := 44 } : Room)).room s m (([.ref (ad 0), .int x, .int y, .int z, .int q] : List Value).toArray) below meth cd H locs 0 0 (MQ below (va_Qi (fun v u => r_plug R w c x y z q v u) (xB D (tyX tt) A (fun u : (Nat → Int32) × (Nat → Int32) => xw ad tt R u.1 u.2 k d n wp wr)) A) ([.ref (ad 0), .int x, .int y, .int z, .int q] : List Value).toArray s 0 0 A) (F0 m 0 ls []) by rw [hH, hlocs] at hgo; exact hgo
  clear hH hlocs
  have f_wireAt := hts (.fieldLink RX0 22 "WireWays" "wireAt" "[I") (by decide +kernel)
  have f_costAt := hts (.fieldLink RX0 26 "WireWays" "costAt" "[I") (by decide +kernel)
  refine lv_aload_n hx hb dX0_plug_0 rfl (lv_at hl 0 rfl) ?_
  refine lv_iload_n hx hb dX0_plug_1 rfl (lv_at hl 1 rfl) ?_
  refine lv_iload_n hx hb dX0_plug_2 rfl (lv_at hl 2 rfl) ?_
  refine xs_Vi (wr := []) (q0 := 0) (ci := 0) (nA := 2) (As := [.int x, .int y]) (rest := []) S0 (k_X0_isPort l D ad tt R w c k d n wp wr x y hR) gX0_plug_X0_isPort rfl ⟨rfl, rfl⟩ (by decide +kernel) rfl ⟨Nat.le_of_ble_eq_true rfl, Nat.le_of_ble_eq_true rfl⟩ ⟨Nat.le_of_ble_eq_true rfl, Nat.le_of_ble_eq_true rfl⟩ hK hP hD hS hA [0, 1, 2, 3, 4, 5] [] rfl rfl (by decide) (by decide) (by decide) rfl rfl rfl hl.1 rfl (Nat.le_of_ble_eq_true rfl) dX0_plug_3 (fun r_1 u H locs hw hP hD hS => ?_)
  have hP : va_P D vwCl (xw ad tt R w c k d n wp wr) H := hP
  have hD : va_D A (xw ad tt R w c k d n wp wr) := hD
  rcases hw with ⟨rfl, h_p⟩ | ⟨rfl, h_p⟩
  · refine lv_if_eq (tgt := 24) hx hb dX0_plug_6 (by decide) (fun c_2 => absurd c_2 (by decide)) (fun c_2 => ?_)
    refine lv_iload_n hx hb dX0_plug_9 rfl (lv_at hl 3 rfl) ?_
    refine xs_Si (nA := 1) (As := [.int z]) (rest := []) S0 (k_X0_isWire l D z) gX0_plug_X0_isWire rfl ⟨rfl, rfl⟩ (by decide +kernel) rfl ⟨Nat.le_of_ble_eq_true rfl, Nat.le_of_ble_eq_true rfl⟩ ⟨Nat.le_of_ble_eq_true rfl, Nat.le_of_ble_eq_true rfl⟩ hK hP hD hS hA hl.1 rfl (Nat.le_of_ble_eq_true rfl) dX0_plug_10 (fun r_3 H locs hw hP hD hS => ?_)
    rcases hw with ⟨rfl, h_w⟩ | ⟨rfl, h_w⟩
    · refine lv_if_eq (tgt := 24) hx hb dX0_plug_13 (by decide) (fun c_4 => absurd c_4 (by decide)) (fun c_4 => ?_)
      refine lv_iload hx hb dX0_plug_16 (lv_at hl 4 rfl) ?_
      refine xs_Si (nA := 1) (As := [.int q]) (rest := []) S0 (k_X0_isCost l D q) gX0_plug_X0_isCost rfl ⟨rfl, rfl⟩ (by decide +kernel) rfl ⟨Nat.le_of_ble_eq_true rfl, Nat.le_of_ble_eq_true rfl⟩ ⟨Nat.le_of_ble_eq_true rfl, Nat.le_of_ble_eq_true rfl⟩ hK hP hD hS hA hl.1 rfl (Nat.le_of_ble_eq_true rfl) dX0_plug_18 (fun r_5 H locs hw hP hD hS => ?_)
      rcases hw with ⟨rfl, h_c⟩ | ⟨rfl, h_c⟩
      · refine lv_if_ne (tgt := 26) hx hb dX0_plug_21 (by decide) (fun c_6 => ?_) (fun c_6 => absurd c_6 (by decide))
        obtain ⟨⟨i, hi, rfl⟩, ⟨j, hj, rfl⟩⟩ := h_p
        refine lv_iload_n hx hb dX0_plug_26 rfl (lv_at hl 1 rfl) ?_
        refine lv_iload_n hx hb dX0_plug_27 rfl (lv_at hl 2 rfl) ?_
        refine xs_Si (nA := 2) (As := [.int (nI i), .int (nI j)]) (rest := []) S0 (k_X0_placeOf l D (nI i) (nI j)) gX0_plug_X0_placeOf rfl ⟨rfl, rfl⟩ (by decide +kernel) rfl ⟨Nat.le_of_ble_eq_true rfl, Nat.le_of_ble_eq_true rfl⟩ ⟨Nat.le_of_ble_eq_true rfl, Nat.le_of_ble_eq_true rfl⟩ hK hP hD hS hA hl.1 rfl (Nat.le_of_ble_eq_true rfl) dX0_plug_28 (fun r_7 H locs hw hP hD hS => ?_)
        have hw : r_7 = nI (4 * i + j) := by rw [hw]; exact nI_pl _ _
        subst hw
        refine lv_istore (lv' := [(5, .int (nI (4 * i + j))), (0, .ref (ad 0)), (1, .int (nI i)), (2, .int (nI j)), (3, .int z), (4, .int q)]) hx hb dX0_plug_31 hl (by decide) rfl (fun ls hl => ?_)
        refine lv_aload_n hx hb dX0_plug_33 rfl (lv_at hl 1 rfl) ?_
        refine x0_get (v := .ref (ad 1)) S0 hin hK hP 1 (by decide) f_wireAt rfl rfl dX0_plug_34 ?_
        refine lv_iload hx hb dX0_plug_37 (lv_at hl 0 rfl) ?_
        refine va_iald hx hb hK hP 1 0 rfl rfl (vp_in_nI (by omega) (by omega)) dX0_plug_39 ?_
        refine xt_eq (z := w (4 * i + j)) (congrArg w (nI_clamp (by omega))) ?_
        refine xs_Si (nA := 1) (As := [.int (w (4 * i + j))]) (rest := []) S0 (k_X0_isWire l D (w (4 * i + j))) gX0_plug_X0_isWire rfl ⟨rfl, rfl⟩ (by decide +kernel) rfl ⟨Nat.le_of_ble_eq_true rfl, Nat.le_of_ble_eq_true rfl⟩ ⟨Nat.le_of_ble_eq_true rfl, Nat.le_of_ble_eq_true rfl⟩ hK hP hD hS hA hl.1 rfl (Nat.le_of_ble_eq_true rfl) dX0_plug_40 (fun r_8 H locs hw hP hD hS => ?_)
        rcases hw with ⟨rfl, h_w2⟩ | ⟨rfl, h_w2⟩
        · refine lv_if_ne (tgt := 56) hx hb dX0_plug_43 (by decide) (fun c_9 => ?_) (fun c_9 => absurd c_9 (by decide))
          refine lv_iconst (v := 0) hx hb dX0_plug_56 (by decide) ?_
          exact xr_z hx hb hr hlocks rfl (w, c) (Or.inr ⟨rfl, fun h => by first | exact h_p (plc_p h) | exact h_w (plc_w h) | exact h_c (plc_c h) | exact absurd (plc_e hR hi hj h).1 (ix_m1 h_w2) | exact (plc_e hR hi hj h).2 (ww_on_of (v := 0) h_po hR), rfl, rfl⟩) hP hK hD hS dX0_plug_57
        · refine lv_if_ne (tgt := 56) hx hb dX0_plug_43 (by decide) (fun c_10 => absurd c_10 (by decide)) (fun c_10 => ?_)
          refine lv_aload_n hx hb dX0_plug_46 rfl (lv_at hl 1 rfl) ?_
          refine lv_iload_n hx hb dX0_plug_47 rfl (lv_at hl 2 rfl) ?_
          refine lv_iload_n hx hb dX0_plug_48 rfl (lv_at hl 4 rfl) ?_
          refine xs_Vi (wr := []) (q0 := 0) (ci := 0) (nA := 2) (As := [.int (nI i), .int z]) (rest := []) S0 (k_X0_portOn l D ad tt R w c k d n wp wr i z (by omega)) gX0_plug_X0_portOn rfl ⟨rfl, rfl⟩ (by decide +kernel) rfl ⟨Nat.le_of_ble_eq_true rfl, Nat.le_of_ble_eq_true rfl⟩ ⟨Nat.le_of_ble_eq_true rfl, Nat.le_of_ble_eq_true rfl⟩ hK hP hD hS hA [0, 1, 2, 3, 4, 5] [] rfl rfl (by decide) (by decide) (by decide) rfl rfl rfl hl.1 rfl (Nat.le_of_ble_eq_true rfl) dX0_plug_49 (fun r_11 u H locs hw hP hD hS => ?_)
          have hP : va_P D vwCl (xw ad tt R w c k d n wp wr) H := hP
          have hD : va_D A (xw ad tt R w c k d n wp wr) := hD
          have h_po := hw
          refine lv_iconst (v := (-1)) hx hb dX0_plug_52 (by decide) ?_
          refine lv_icmp_eq (tgt := 58) hx hb dX0_plug_53 (by decide) (fun c_12 => ?_) (fun c_12 => ?_)
          · refine lv_aload_n hx hb dX0_plug_58 rfl (lv_at hl 1 rfl) ?_
            refine x0_get (v := .ref (ad 1)) S0 hin hK hP 1 (by decide) f_wireAt rfl rfl dX0_plug_59 ?_
            refine lv_iload hx hb dX0_plug_62 (lv_at hl 0 rfl) ?_
            refine lv_iload_n hx hb dX0_plug_64 rfl (lv_at hl 4 rfl) ?_
            refine va_iast hx hb hK hP hD hS 1 0 rfl rfl (vp_in_nI (by omega) (by omega)) dX0_plug_65 (fun H locs hP hD hS => ?_)
            rw [(nI_clamp (by omega))] at hP hD
            have hP : va_P D vwCl (xw ad tt R (upd w (4 * i + j) z) c k d n wp wr) H := hP
            have hD : va_D A (xw ad tt R (upd w (4 * i + j) z) c k d n wp wr) := hD
            refine lv_aload_n hx hb dX0_plug_66 rfl (lv_at hl 1 rfl) ?_
            refine x0_get (v := .ref (ad 2)) S0 hin hK hP 2 (by decide) f_costAt rfl rfl dX0_plug_67 ?_
            refine lv_iload hx hb dX0_plug_70 (lv_at hl 0 rfl) ?_
            refine lv_iload hx hb dX0_plug_72 (lv_at hl 5 rfl) ?_
            refine va_iast hx hb hK hP hD hS 2 1 rfl rfl (vp_in_nI (by omega) (by omega)) dX0_plug_74 (fun H locs hP hD hS => ?_)
            rw [(nI_clamp (by omega))] at hP hD
            have hP : va_P D vwCl (xw ad tt R (upd w (4 * i + j) z) (upd c (4 * i + j) q) k d n wp wr) H := hP
            have hD : va_D A (xw ad tt R (upd w (4 * i + j) z) (upd c (4 * i + j) q) k d n wp wr) := hD
            refine lv_iconst (v := 1) hx hb dX0_plug_75 (by decide) ?_
            exact xr_z hx hb hr hlocks rfl (upd w (4 * i + j) z, upd c (4 * i + j) q) (Or.inl ⟨rfl, i, j, ⟨hi, hj, rfl, rfl, h_w, h_c, (hW _ (by omega)).resolve_right h_w2, (ww_po_on h_po).mp c_12⟩, rfl, rfl⟩) hP hK hD hS dX0_plug_76
          · refine lv_iconst (v := 0) hx hb dX0_plug_56 (by decide) ?_
            exact xr_z hx hb hr hlocks rfl (w, c) (Or.inr ⟨rfl, fun h => by first | exact h_p (plc_p h) | exact h_w (plc_w h) | exact h_c (plc_c h) | exact absurd (plc_e hR hi hj h).1 (ix_m1 h_w2) | exact (plc_e hR hi hj h).2 (ww_on_of (v := 0) h_po c_12), rfl, rfl⟩) hP hK hD hS dX0_plug_57
      · refine lv_if_ne (tgt := 26) hx hb dX0_plug_21 (by decide) (fun c_13 => absurd c_13 (by decide)) (fun c_13 => ?_)
        refine lv_iconst (v := 0) hx hb dX0_plug_24 (by decide) ?_
        exact xr_z hx hb hr hlocks rfl (w, c) (Or.inr ⟨rfl, fun h => by first | exact h_p (plc_p h) | exact h_w (plc_w h) | exact h_c (plc_c h) | exact absurd (plc_e hR hi hj h).1 (ix_m1 h_w2) | exact (plc_e hR hi hj h).2 (ww_on_of (v := 0) h_po hR), rfl, rfl⟩) hP hK hD hS dX0_plug_25
    · refine lv_if_eq (tgt := 24) hx hb dX0_plug_13 (by decide) (fun c_14 => ?_) (fun c_14 => absurd c_14 (by decide))
      refine lv_iconst (v := 0) hx hb dX0_plug_24 (by decide) ?_
      exact xr_z hx hb hr hlocks rfl (w, c) (Or.inr ⟨rfl, fun h => by first | exact h_p (plc_p h) | exact h_w (plc_w h) | exact h_c (plc_c h) | exact absurd (plc_e hR hi hj h).1 (ix_m1 h_w2) | exact (plc_e hR hi hj h).2 (ww_on_of (v := 0) h_po hR), rfl, rfl⟩) hP hK hD hS dX0_plug_25
  · refine lv_if_eq (tgt := 24) hx hb dX0_plug_6 (by decide) (fun c_15 => ?_) (fun c_15 => absurd c_15 (by decide))
    refine lv_iconst (v := 0) hx hb dX0_plug_24 (by decide) ?_
    exact xr_z hx hb hr hlocks rfl (w, c) (Or.inr ⟨rfl, fun h => by first | exact h_p (plc_p h) | exact h_w (plc_w h) | exact h_c (plc_c h) | exact absurd (plc_e hR hi hj h).1 (ix_m1 h_w2) | exact (plc_e hR hi hj h).2 (ww_on_of (v := 0) h_po hR), rfl, rfl⟩) hP hK hD hS dX0_plug_25
set_option maxHeartbeats 4000000 in
set_option maxRecDepth 100000 in
theorem k_X1_plug (l : Launch) (D : va_G) (ad : Nat → Nat) (tt : Nat → ClassId) (R : Nat) (w c k d : Nat → Int32) (wp wr : Int32) (x y z q : Int32) (hR : R ≤ 10) : xMi l yX1_plug wsX1_plug { frames := 2, cells := 0, slots := 0, locals := 43 } D (tyM tt) [.ref (ad 0), .int x, .int y, .int z, .int q] (mw ad tt R w c k d wp wr) (fun u : (Nat → Int32) × (Nat → Int32) => mw ad tt R u.1 u.2 k d wp wr) (fun v u => r_plug R w c x y z q v u) := by
  refine xe_i (cc := cX1_plug) (maxL := 5) (ret := (some .boolean)) (lvl := [(0, .ref (ad 0)), (1, .int x), (2, .int y), (3, .int z), (4, .int q)]) (by decide) rfl (Nat.le_of_ble_eq_true rfl) rfl ?_
  intro p e s m below meth cd A ls hx hb hr hlocks hml hown hts hA hP hK hD hS hl
  have hin : ∀ w ∈ wsX10, w ∈ wsX1_plug := fun _ h => List.mem_cons_of_mem _ (List.mem_append_right _ h)
  have S0 : CallFix p m cd cX1_plug 5 s (([.ref (ad 0), .int x, .int y, .int z, .int q] : List Value).toArray) wsX1_plug RX1 := ⟨hx, hb, hml, hown, hts⟩
  obtain ⟨H, hH⟩ : ∃ H, H = s.heap := ⟨_, rfl⟩
  obtain ⟨locs, hlocs⟩ : ∃ q : List Loc, q = [] := ⟨_, rfl⟩
  have hP : va_P D vwCl (mw ad tt R w c k d wp wr) H := by rw [hH]; exact hP
  have hS : va_S A s.heap H locs := by rw [hH, hlocs]; exact hS
  suffices hgo : W p l e (headSpec wsX1_plug ({ frames := 2, cells := 0, slots := 0, locals := 43 } : Room)).room s m (([.ref (ad 0), .int x, .int y, .int z, .int q] : List Value).toArray) below meth cd H locs 0 0 (MQ below (va_Qi (fun v u => r_plug R w c x y z q v u) (xB D (tyM tt) A (fun u : (Nat → Int32) × (Nat → Int32) => mw ad tt R u.1 u.2 k d wp wr)) A) ([.ref (ad 0), .int x, .int y, .int z, .int q] : List Value).toArray s 0 0 A) (F0 m 0 ls []) by rw [hH, hlocs] at hgo; exact hgo
  clear hH hlocs
  have f_wireOf := hts (.fieldLink RX1 7 "WireWaysModel" "wireOf" "[I") (by decide +kernel)
  have f_costOf := hts (.fieldLink RX1 13 "WireWaysModel" "costOf" "[I") (by decide +kernel)
  refine lv_aload_n hx hb dX1_plug_0 rfl (lv_at hl 0 rfl) ?_
  refine lv_iload_n hx hb dX1_plug_1 rfl (lv_at hl 1 rfl) ?_
  refine lv_iload_n hx hb dX1_plug_2 rfl (lv_at hl 2 rfl) ?_
  refine xs_Vi (wr := []) (q0 := 0) (ci := 1) (nA := 2) (As := [.int x, .int y]) (rest := []) S0 (k_X1_isPlace l D ad tt R w c k d wp wr x y hR) gX1_plug_X1_isPlace rfl ⟨rfl, rfl⟩ (by decide +kernel) rfl ⟨Nat.le_of_ble_eq_true rfl, Nat.le_of_ble_eq_true rfl⟩ ⟨Nat.le_of_ble_eq_true rfl, Nat.le_of_ble_eq_true rfl⟩ hK hP hD hS hA [0, 1, 2, 3, 4] [] rfl rfl (by decide) (by decide) (by decide) rfl rfl rfl hl.1 rfl (Nat.le_of_ble_eq_true rfl) dX1_plug_3 (fun r_1 u H locs hw hP hD hS => ?_)
  have hP : va_P D vwCl (mw ad tt R w c k d wp wr) H := hP
  have hD : va_D A (mw ad tt R w c k d wp wr) := hD
  rcases hw with ⟨rfl, h_p⟩ | ⟨rfl, h_p⟩
  · refine lv_if_eq (tgt := 29) hx hb dX1_plug_6 (by decide) (fun c_2 => absurd c_2 (by decide)) (fun c_2 => ?_)
    refine lv_iload_n hx hb dX1_plug_9 rfl (lv_at hl 3 rfl) ?_
    refine xs_Si (nA := 1) (As := [.int z]) (rest := []) S0 (k_X1_isWire l D z) gX1_plug_X1_isWire rfl ⟨rfl, rfl⟩ (by decide +kernel) rfl ⟨Nat.le_of_ble_eq_true rfl, Nat.le_of_ble_eq_true rfl⟩ ⟨Nat.le_of_ble_eq_true rfl, Nat.le_of_ble_eq_true rfl⟩ hK hP hD hS hA hl.1 rfl (Nat.le_of_ble_eq_true rfl) dX1_plug_10 (fun r_3 H locs hw hP hD hS => ?_)
    rcases hw with ⟨rfl, h_w⟩ | ⟨rfl, h_w⟩
    · refine lv_if_eq (tgt := 29) hx hb dX1_plug_13 (by decide) (fun c_4 => absurd c_4 (by decide)) (fun c_4 => ?_)
      refine lv_iload hx hb dX1_plug_16 (lv_at hl 4 rfl) ?_
      refine lv_iconst (v := 1) hx hb dX1_plug_18 (by decide) ?_
      refine lv_icmp_lt (tgt := 29) hx hb dX1_plug_19 (by decide) (fun c_5 => ?_) (fun c_5 => ?_)
      · have h_c := okc_n0 c_5
        refine lv_iconst (v := 0) hx hb dX1_plug_29 (by decide) ?_
        exact xr_z hx hb hr hlocks rfl (w, c) (Or.inr ⟨rfl, fun h => by first | exact h_p (plc_p h) | exact h_w (plc_w h) | exact h_c (plc_c h) | exact h_e (plc_e hR hi hj h).1 | exact (plc_e hR hi hj h).2 (ww_on_of (v := 0) h_po c_5), rfl, rfl⟩) hP hK hD hS dX1_plug_30
      · refine lv_iload hx hb dX1_plug_22 (lv_at hl 4 rfl) ?_
        refine lv_bipush (v := 9) hx hb dX1_plug_24 (by decide) ?_
        refine lv_icmp_le (tgt := 31) hx hb dX1_plug_26 (by decide) (fun c_6 => ?_) (fun c_6 => ?_)
        · have h_c := okc_ofle (by assumption) c_6
          obtain ⟨⟨i, hi, rfl⟩, ⟨j, hj, rfl⟩⟩ := h_p
          refine lv_aload_n hx hb dX1_plug_31 rfl (lv_at hl 0 rfl) ?_
          refine x1_get (v := .ref (ad 1)) S0 hin hK hP 1 (by decide) f_wireOf rfl rfl dX1_plug_32 ?_
          refine lv_iconst (v := 4) hx hb dX1_plug_35 (by decide) ?_
          refine lv_iload_n hx hb dX1_plug_36 rfl (lv_at hl 1 rfl) ?_
          refine lv_imul hx hb dX1_plug_37 ?_
          refine lv_iload_n hx hb dX1_plug_38 rfl (lv_at hl 2 rfl) ?_
          refine lv_iadd hx hb dX1_plug_39 ?_
          refine xt_eq (z := nI (4 * i + j)) (nI_lp i j) ?_
          refine va_iald hx hb hK hP 1 0 rfl rfl (vp_in_nI (by omega) (by omega)) dX1_plug_40 ?_
          refine xt_eq (z := w (4 * i + j)) (congrArg w (nI_clamp (by omega))) ?_
          refine lv_iconst (v := (-1)) hx hb dX1_plug_41 (by decide) ?_
          refine lv_icmp_ne (tgt := 55) hx hb dX1_plug_42 (by decide) (fun c_7 => ?_) (fun c_7 => ?_)
          · have h_e := c_7
            refine lv_iconst (v := 0) hx hb dX1_plug_55 (by decide) ?_
            exact xr_z hx hb hr hlocks rfl (w, c) (Or.inr ⟨rfl, fun h => by first | exact h_p (plc_p h) | exact h_w (plc_w h) | exact h_c (plc_c h) | exact h_e (plc_e hR hi hj h).1 | exact (plc_e hR hi hj h).2 (ww_on_of (v := 0) h_po c_7), rfl, rfl⟩) hP hK hD hS dX1_plug_56
          · have h_e := c_7
            refine lv_aload_n hx hb dX1_plug_45 rfl (lv_at hl 0 rfl) ?_
            refine lv_iload_n hx hb dX1_plug_46 rfl (lv_at hl 1 rfl) ?_
            refine lv_iload_n hx hb dX1_plug_47 rfl (lv_at hl 3 rfl) ?_
            refine xs_Vi (wr := []) (q0 := 0) (ci := 1) (nA := 2) (As := [.int (nI i), .int z]) (rest := []) S0 (k_X1_portOn l D ad tt R w c k d wp wr i z (by omega)) gX1_plug_X1_portOn rfl ⟨rfl, rfl⟩ (by decide +kernel) rfl ⟨Nat.le_of_ble_eq_true rfl, Nat.le_of_ble_eq_true rfl⟩ ⟨Nat.le_of_ble_eq_true rfl, Nat.le_of_ble_eq_true rfl⟩ hK hP hD hS hA [0, 1, 2, 3, 4] [] rfl rfl (by decide) (by decide) (by decide) rfl rfl rfl hl.1 rfl (Nat.le_of_ble_eq_true rfl) dX1_plug_48 (fun r_8 u H locs hw hP hD hS => ?_)
            have hP : va_P D vwCl (mw ad tt R w c k d wp wr) H := hP
            have hD : va_D A (mw ad tt R w c k d wp wr) := hD
            have h_po := hw
            refine lv_iconst (v := (-1)) hx hb dX1_plug_51 (by decide) ?_
            refine lv_icmp_eq (tgt := 57) hx hb dX1_plug_52 (by decide) (fun c_9 => ?_) (fun c_9 => ?_)
            · refine lv_aload_n hx hb dX1_plug_57 rfl (lv_at hl 0 rfl) ?_
              refine x1_get (v := .ref (ad 1)) S0 hin hK hP 1 (by decide) f_wireOf rfl rfl dX1_plug_58 ?_
              refine lv_iconst (v := 4) hx hb dX1_plug_61 (by decide) ?_
              refine lv_iload_n hx hb dX1_plug_62 rfl (lv_at hl 1 rfl) ?_
              refine lv_imul hx hb dX1_plug_63 ?_
              refine lv_iload_n hx hb dX1_plug_64 rfl (lv_at hl 2 rfl) ?_
              refine lv_iadd hx hb dX1_plug_65 ?_
              refine xt_eq (z := nI (4 * i + j)) (nI_lp i j) ?_
              refine lv_iload_n hx hb dX1_plug_66 rfl (lv_at hl 3 rfl) ?_
              refine va_iast hx hb hK hP hD hS 1 0 rfl rfl (vp_in_nI (by omega) (by omega)) dX1_plug_67 (fun H locs hP hD hS => ?_)
              rw [(nI_clamp (by omega))] at hP hD
              have hP : va_P D vwCl (mw ad tt R (upd w (4 * i + j) z) c k d wp wr) H := hP
              have hD : va_D A (mw ad tt R (upd w (4 * i + j) z) c k d wp wr) := hD
              refine lv_aload_n hx hb dX1_plug_68 rfl (lv_at hl 0 rfl) ?_
              refine x1_get (v := .ref (ad 2)) S0 hin hK hP 2 (by decide) f_costOf rfl rfl dX1_plug_69 ?_
              refine lv_iconst (v := 4) hx hb dX1_plug_72 (by decide) ?_
              refine lv_iload_n hx hb dX1_plug_73 rfl (lv_at hl 1 rfl) ?_
              refine lv_imul hx hb dX1_plug_74 ?_
              refine lv_iload_n hx hb dX1_plug_75 rfl (lv_at hl 2 rfl) ?_
              refine lv_iadd hx hb dX1_plug_76 ?_
              refine xt_eq (z := nI (4 * i + j)) (nI_lp i j) ?_
              refine lv_iload hx hb dX1_plug_77 (lv_at hl 4 rfl) ?_
              refine va_iast hx hb hK hP hD hS 2 1 rfl rfl (vp_in_nI (by omega) (by omega)) dX1_plug_79 (fun H locs hP hD hS => ?_)
              rw [(nI_clamp (by omega))] at hP hD
              have hP : va_P D vwCl (mw ad tt R (upd w (4 * i + j) z) (upd c (4 * i + j) q) k d wp wr) H := hP
              have hD : va_D A (mw ad tt R (upd w (4 * i + j) z) (upd c (4 * i + j) q) k d wp wr) := hD
              refine lv_iconst (v := 1) hx hb dX1_plug_80 (by decide) ?_
              exact xr_z hx hb hr hlocks rfl (upd w (4 * i + j) z, upd c (4 * i + j) q) (Or.inl ⟨rfl, i, j, ⟨hi, hj, rfl, rfl, h_w, h_c, h_e, (ww_po_on h_po).mp c_9⟩, rfl, rfl⟩) hP hK hD hS dX1_plug_81
            · refine lv_iconst (v := 0) hx hb dX1_plug_55 (by decide) ?_
              exact xr_z hx hb hr hlocks rfl (w, c) (Or.inr ⟨rfl, fun h => by first | exact h_p (plc_p h) | exact h_w (plc_w h) | exact h_c (plc_c h) | exact h_e (plc_e hR hi hj h).1 | exact (plc_e hR hi hj h).2 (ww_on_of (v := 0) h_po c_9), rfl, rfl⟩) hP hK hD hS dX1_plug_56
        · have h_c := okc_nle c_6
          refine lv_iconst (v := 0) hx hb dX1_plug_29 (by decide) ?_
          exact xr_z hx hb hr hlocks rfl (w, c) (Or.inr ⟨rfl, fun h => by first | exact h_p (plc_p h) | exact h_w (plc_w h) | exact h_c (plc_c h) | exact h_e (plc_e hR hi hj h).1 | exact (plc_e hR hi hj h).2 (ww_on_of (v := 0) h_po c_6), rfl, rfl⟩) hP hK hD hS dX1_plug_30
    · refine lv_if_eq (tgt := 29) hx hb dX1_plug_13 (by decide) (fun c_10 => ?_) (fun c_10 => absurd c_10 (by decide))
      refine lv_iconst (v := 0) hx hb dX1_plug_29 (by decide) ?_
      exact xr_z hx hb hr hlocks rfl (w, c) (Or.inr ⟨rfl, fun h => by first | exact h_p (plc_p h) | exact h_w (plc_w h) | exact h_c (plc_c h) | exact h_e (plc_e hR hi hj h).1 | exact (plc_e hR hi hj h).2 (ww_on_of (v := 0) h_po hR), rfl, rfl⟩) hP hK hD hS dX1_plug_30
  · refine lv_if_eq (tgt := 29) hx hb dX1_plug_6 (by decide) (fun c_11 => ?_) (fun c_11 => absurd c_11 (by decide))
    refine lv_iconst (v := 0) hx hb dX1_plug_29 (by decide) ?_
    exact xr_z hx hb hr hlocks rfl (w, c) (Or.inr ⟨rfl, fun h => by first | exact h_p (plc_p h) | exact h_w (plc_w h) | exact h_c (plc_c h) | exact h_e (plc_e hR hi hj h).1 | exact (plc_e hR hi hj h).2 (ww_on_of (v := 0) h_po hR), rfl, rfl⟩) hP hK hD hS dX1_plug_30
set_option maxHeartbeats 4000000 in
set_option maxRecDepth 100000 in
theorem k_X0_draw (l : Launch) (D : va_G) (ad : Nat → Nat) (tt : Nat → ClassId) (R : Nat) (w c k d n : Nat → Int32) (wp wr : Int32) (x y : Int32) (hR : R ≤ 10) (hW : ∀ a, a < 40 → w a = -1 ∨ ix (w a) 16) : xMi l yX0_draw wsX0_draw { frames := 3, cells := 0, slots := 0, locals := 65 } D (tyX tt) [.ref (ad 0), .int x, .int y] (xw ad tt R w c k d n wp wr) (fun u : Nat → Int32 => xw ad tt R u c k d n wp wr) (fun v u => r_draw R w x y v u) := by
  refine xe_i (cc := cX0_draw) (maxL := 3) (ret := (some .boolean)) (lvl := [(0, .ref (ad 0)), (1, .int x), (2, .int y)]) (by decide) rfl (Nat.le_of_ble_eq_true rfl) rfl ?_
  intro p e s m below meth cd A ls hx hb hr hlocks hml hown hts hA hP hK hD hS hl
  have hin : ∀ w ∈ wsX00, w ∈ wsX0_draw := fun _ h => List.mem_cons_of_mem _ (List.mem_append_right _ h)
  have S0 : CallFix p m cd cX0_draw 3 s (([.ref (ad 0), .int x, .int y] : List Value).toArray) wsX0_draw RX0 := ⟨hx, hb, hml, hown, hts⟩
  obtain ⟨H, hH⟩ : ∃ H, H = s.heap := ⟨_, rfl⟩
  obtain ⟨locs, hlocs⟩ : ∃ q : List Loc, q = [] := ⟨_, rfl⟩
  have hP : va_P D vwCl (xw ad tt R w c k d n wp wr) H := by rw [hH]; exact hP
  have hS : va_S A s.heap H locs := by rw [hH, hlocs]; exact hS
  suffices hgo : W p l e (headSpec wsX0_draw ({ frames := 3, cells := 0, slots := 0, locals := 65 } : Room)).room s m (([.ref (ad 0), .int x, .int y] : List Value).toArray) below meth cd H locs 0 0 (MQ below (va_Qi (fun v u => r_draw R w x y v u) (xB D (tyX tt) A (fun u : Nat → Int32 => xw ad tt R u c k d n wp wr)) A) ([.ref (ad 0), .int x, .int y] : List Value).toArray s 0 0 A) (F0 m 0 ls []) by rw [hH, hlocs] at hgo; exact hgo
  clear hH hlocs
  have f_wireAt := hts (.fieldLink RX0 22 "WireWays" "wireAt" "[I") (by decide +kernel)
  refine lv_aload_n hx hb dX0_draw_0 rfl (lv_at hl 0 rfl) ?_
  refine lv_iload_n hx hb dX0_draw_1 rfl (lv_at hl 1 rfl) ?_
  refine lv_iload_n hx hb dX0_draw_2 rfl (lv_at hl 2 rfl) ?_
  refine xs_Vi (wr := []) (q0 := 0) (ci := 0) (nA := 2) (As := [.int x, .int y]) (rest := []) S0 (k_X0_isPluggedPort l D ad tt R w c k d n wp wr x y hR) gX0_draw_X0_isPluggedPort rfl ⟨rfl, rfl⟩ (by decide +kernel) rfl ⟨Nat.le_of_ble_eq_true rfl, Nat.le_of_ble_eq_true rfl⟩ ⟨Nat.le_of_ble_eq_true rfl, Nat.le_of_ble_eq_true rfl⟩ hK hP hD hS hA [0, 1, 2, 3, 4, 5] [] rfl rfl (by decide) (by decide) (by decide) rfl rfl rfl hl.1 rfl (Nat.le_of_ble_eq_true rfl) dX0_draw_3 (fun r_1 u H locs hw hP hD hS => ?_)
  have hP : va_P D vwCl (xw ad tt R w c k d n wp wr) H := hP
  have hD : va_D A (xw ad tt R w c k d n wp wr) := hD
  rcases hw with ⟨rfl, h_p⟩ | ⟨rfl, h_p⟩
  · refine lv_if_ne (tgt := 11) hx hb dX0_draw_6 (by decide) (fun c_2 => ?_) (fun c_2 => absurd c_2 (by decide))
    obtain ⟨i, j, hi, hj, rfl, rfl, h_i⟩ := h_p
    refine lv_aload_n hx hb dX0_draw_11 rfl (lv_at hl 0 rfl) ?_
    refine x0_get (v := .ref (ad 1)) S0 hin hK hP 1 (by decide) f_wireAt rfl rfl dX0_draw_12 ?_
    refine lv_iload_n hx hb dX0_draw_15 rfl (lv_at hl 1 rfl) ?_
    refine lv_iload_n hx hb dX0_draw_16 rfl (lv_at hl 2 rfl) ?_
    refine xs_Si (nA := 2) (As := [.int (nI i), .int (nI j)]) (rest := [.ref (ad 1)]) S0 (k_X0_placeOf l D (nI i) (nI j)) gX0_draw_X0_placeOf rfl ⟨rfl, rfl⟩ (by decide +kernel) rfl ⟨Nat.le_of_ble_eq_true rfl, Nat.le_of_ble_eq_true rfl⟩ ⟨Nat.le_of_ble_eq_true rfl, Nat.le_of_ble_eq_true rfl⟩ hK hP hD hS hA hl.1 rfl (Nat.le_of_ble_eq_true rfl) dX0_draw_17 (fun r_3 H locs hw hP hD hS => ?_)
    have hw : r_3 = nI (4 * i + j) := by rw [hw]; exact nI_pl _ _
    subst hw
    refine lv_iconst (v := (-1)) hx hb dX0_draw_20 (by decide) ?_
    refine va_iast hx hb hK hP hD hS 1 0 rfl rfl (vp_in_nI (by omega) (by omega)) dX0_draw_21 (fun H locs hP hD hS => ?_)
    rw [(nI_clamp (by omega))] at hP hD
    have hP : va_P D vwCl (xw ad tt R (upd w (4 * i + j) (-1)) c k d n wp wr) H := hP
    have hD : va_D A (xw ad tt R (upd w (4 * i + j) (-1)) c k d n wp wr) := hD
    refine lv_iconst (v := 1) hx hb dX0_draw_22 (by decide) ?_
    exact xr_z hx hb hr hlocks rfl (upd w (4 * i + j) (-1)) (Or.inl ⟨rfl, i, j, ⟨hi, hj, rfl, rfl, ix_m1 h_i⟩, rfl⟩) hP hK hD hS dX0_draw_23
  · refine lv_if_ne (tgt := 11) hx hb dX0_draw_6 (by decide) (fun c_4 => absurd c_4 (by decide)) (fun c_4 => ?_)
    refine lv_iconst (v := 0) hx hb dX0_draw_9 (by decide) ?_
    exact xr_z hx hb hr hlocks rfl w (Or.inr ⟨rfl, fun h => h_p (drc_plg hR hW h), rfl⟩) hP hK hD hS dX0_draw_10
set_option maxHeartbeats 4000000 in
set_option maxRecDepth 100000 in
theorem k_X1_draw (l : Launch) (D : va_G) (ad : Nat → Nat) (tt : Nat → ClassId) (R : Nat) (w c k d : Nat → Int32) (wp wr : Int32) (x y : Int32) (hR : R ≤ 10) : xMi l yX1_draw wsX1_draw { frames := 2, cells := 0, slots := 0, locals := 43 } D (tyM tt) [.ref (ad 0), .int x, .int y] (mw ad tt R w c k d wp wr) (fun u : Nat → Int32 => mw ad tt R u c k d wp wr) (fun v u => r_draw R w x y v u) := by
  refine xe_i (cc := cX1_draw) (maxL := 3) (ret := (some .boolean)) (lvl := [(0, .ref (ad 0)), (1, .int x), (2, .int y)]) (by decide) rfl (Nat.le_of_ble_eq_true rfl) rfl ?_
  intro p e s m below meth cd A ls hx hb hr hlocks hml hown hts hA hP hK hD hS hl
  have hin : ∀ w ∈ wsX10, w ∈ wsX1_draw := fun _ h => List.mem_cons_of_mem _ (List.mem_append_right _ h)
  have S0 : CallFix p m cd cX1_draw 3 s (([.ref (ad 0), .int x, .int y] : List Value).toArray) wsX1_draw RX1 := ⟨hx, hb, hml, hown, hts⟩
  obtain ⟨H, hH⟩ : ∃ H, H = s.heap := ⟨_, rfl⟩
  obtain ⟨locs, hlocs⟩ : ∃ q : List Loc, q = [] := ⟨_, rfl⟩
  have hP : va_P D vwCl (mw ad tt R w c k d wp wr) H := by rw [hH]; exact hP
  have hS : va_S A s.heap H locs := by rw [hH, hlocs]; exact hS
  suffices hgo : W p l e (headSpec wsX1_draw ({ frames := 2, cells := 0, slots := 0, locals := 43 } : Room)).room s m (([.ref (ad 0), .int x, .int y] : List Value).toArray) below meth cd H locs 0 0 (MQ below (va_Qi (fun v u => r_draw R w x y v u) (xB D (tyM tt) A (fun u : Nat → Int32 => mw ad tt R u c k d wp wr)) A) ([.ref (ad 0), .int x, .int y] : List Value).toArray s 0 0 A) (F0 m 0 ls []) by rw [hH, hlocs] at hgo; exact hgo
  clear hH hlocs
  have f_wireOf := hts (.fieldLink RX1 7 "WireWaysModel" "wireOf" "[I") (by decide +kernel)
  refine lv_aload_n hx hb dX1_draw_0 rfl (lv_at hl 0 rfl) ?_
  refine lv_iload_n hx hb dX1_draw_1 rfl (lv_at hl 1 rfl) ?_
  refine lv_iload_n hx hb dX1_draw_2 rfl (lv_at hl 2 rfl) ?_
  refine xs_Vi (wr := []) (q0 := 0) (ci := 1) (nA := 2) (As := [.int x, .int y]) (rest := []) S0 (k_X1_isPlace l D ad tt R w c k d wp wr x y hR) gX1_draw_X1_isPlace rfl ⟨rfl, rfl⟩ (by decide +kernel) rfl ⟨Nat.le_of_ble_eq_true rfl, Nat.le_of_ble_eq_true rfl⟩ ⟨Nat.le_of_ble_eq_true rfl, Nat.le_of_ble_eq_true rfl⟩ hK hP hD hS hA [0, 1, 2, 3, 4] [] rfl rfl (by decide) (by decide) (by decide) rfl rfl rfl hl.1 rfl (Nat.le_of_ble_eq_true rfl) dX1_draw_3 (fun r_1 u H locs hw hP hD hS => ?_)
  have hP : va_P D vwCl (mw ad tt R w c k d wp wr) H := hP
  have hD : va_D A (mw ad tt R w c k d wp wr) := hD
  rcases hw with ⟨rfl, h_p⟩ | ⟨rfl, h_p⟩
  · refine lv_if_eq (tgt := 23) hx hb dX1_draw_6 (by decide) (fun c_2 => absurd c_2 (by decide)) (fun c_2 => ?_)
    obtain ⟨⟨i, hi, rfl⟩, ⟨j, hj, rfl⟩⟩ := h_p
    refine lv_aload_n hx hb dX1_draw_9 rfl (lv_at hl 0 rfl) ?_
    refine x1_get (v := .ref (ad 1)) S0 hin hK hP 1 (by decide) f_wireOf rfl rfl dX1_draw_10 ?_
    refine lv_iconst (v := 4) hx hb dX1_draw_13 (by decide) ?_
    refine lv_iload_n hx hb dX1_draw_14 rfl (lv_at hl 1 rfl) ?_
    refine lv_imul hx hb dX1_draw_15 ?_
    refine lv_iload_n hx hb dX1_draw_16 rfl (lv_at hl 2 rfl) ?_
    refine lv_iadd hx hb dX1_draw_17 ?_
    refine xt_eq (z := nI (4 * i + j)) (nI_lp i j) ?_
    refine va_iald hx hb hK hP 1 0 rfl rfl (vp_in_nI (by omega) (by omega)) dX1_draw_18 ?_
    refine xt_eq (z := w (4 * i + j)) (congrArg w (nI_clamp (by omega))) ?_
    refine lv_iconst (v := (-1)) hx hb dX1_draw_19 (by decide) ?_
    refine lv_icmp_ne (tgt := 25) hx hb dX1_draw_20 (by decide) (fun c_3 => ?_) (fun c_3 => ?_)
    · have h_e := c_3
      refine lv_aload_n hx hb dX1_draw_25 rfl (lv_at hl 0 rfl) ?_
      refine x1_get (v := .ref (ad 1)) S0 hin hK hP 1 (by decide) f_wireOf rfl rfl dX1_draw_26 ?_
      refine lv_iconst (v := 4) hx hb dX1_draw_29 (by decide) ?_
      refine lv_iload_n hx hb dX1_draw_30 rfl (lv_at hl 1 rfl) ?_
      refine lv_imul hx hb dX1_draw_31 ?_
      refine lv_iload_n hx hb dX1_draw_32 rfl (lv_at hl 2 rfl) ?_
      refine lv_iadd hx hb dX1_draw_33 ?_
      refine xt_eq (z := nI (4 * i + j)) (nI_lp i j) ?_
      refine lv_iconst (v := (-1)) hx hb dX1_draw_34 (by decide) ?_
      refine va_iast hx hb hK hP hD hS 1 0 rfl rfl (vp_in_nI (by omega) (by omega)) dX1_draw_35 (fun H locs hP hD hS => ?_)
      rw [(nI_clamp (by omega))] at hP hD
      have hP : va_P D vwCl (mw ad tt R (upd w (4 * i + j) (-1)) c k d wp wr) H := hP
      have hD : va_D A (mw ad tt R (upd w (4 * i + j) (-1)) c k d wp wr) := hD
      refine lv_iconst (v := 1) hx hb dX1_draw_36 (by decide) ?_
      exact xr_z hx hb hr hlocks rfl (upd w (4 * i + j) (-1)) (Or.inl ⟨rfl, i, j, ⟨hi, hj, rfl, rfl, h_e⟩, rfl⟩) hP hK hD hS dX1_draw_37
    · have h_e := c_3
      refine lv_iconst (v := 0) hx hb dX1_draw_23 (by decide) ?_
      exact xr_z hx hb hr hlocks rfl w (Or.inr ⟨rfl, fun h => by first | exact h_p (drc_p h) | exact drc_e hR hi hj h h_e, rfl⟩) hP hK hD hS dX1_draw_24
  · refine lv_if_eq (tgt := 23) hx hb dX1_draw_6 (by decide) (fun c_4 => ?_) (fun c_4 => absurd c_4 (by decide))
    refine lv_iconst (v := 0) hx hb dX1_draw_23 (by decide) ?_
    exact xr_z hx hb hr hlocks rfl w (Or.inr ⟨rfl, fun h => by first | exact h_p (drc_p h) | exact drc_e hR hi hj h h_e, rfl⟩) hP hK hD hS dX1_draw_24
set_option maxHeartbeats 4000000 in
set_option maxRecDepth 100000 in
theorem k_X0_cost (l : Launch) (D : va_G) (ad : Nat → Nat) (tt : Nat → ClassId) (R : Nat) (w c k d n : Nat → Int32) (wp wr : Int32) (x y q : Int32) (hR : R ≤ 10) (hW : ∀ a, a < 40 → w a = -1 ∨ ix (w a) 16) : xMi l yX0_cost wsX0_cost { frames := 3, cells := 0, slots := 0, locals := 65 } D (tyX tt) [.ref (ad 0), .int x, .int y, .int q] (xw ad tt R w c k d n wp wr) (fun u : Nat → Int32 => xw ad tt R w u k d n wp wr) (fun v u => r_cost R w c x y q v u) := by
  refine xe_i (cc := cX0_cost) (maxL := 6) (ret := (some .int)) (lvl := [(0, .ref (ad 0)), (1, .int x), (2, .int y), (3, .int q)]) (by decide) rfl (Nat.le_of_ble_eq_true rfl) rfl ?_
  intro p e s m below meth cd A ls hx hb hr hlocks hml hown hts hA hP hK hD hS hl
  have hin : ∀ w ∈ wsX00, w ∈ wsX0_cost := fun _ h => List.mem_cons_of_mem _ (List.mem_append_right _ h)
  have S0 : CallFix p m cd cX0_cost 6 s (([.ref (ad 0), .int x, .int y, .int q] : List Value).toArray) wsX0_cost RX0 := ⟨hx, hb, hml, hown, hts⟩
  obtain ⟨H, hH⟩ : ∃ H, H = s.heap := ⟨_, rfl⟩
  obtain ⟨locs, hlocs⟩ : ∃ q : List Loc, q = [] := ⟨_, rfl⟩
  have hP : va_P D vwCl (xw ad tt R w c k d n wp wr) H := by rw [hH]; exact hP
  have hS : va_S A s.heap H locs := by rw [hH, hlocs]; exact hS
  suffices hgo : W p l e (headSpec wsX0_cost ({ frames := 3, cells := 0, slots := 0, locals := 65 } : Room)).room s m (([.ref (ad 0), .int x, .int y, .int q] : List Value).toArray) below meth cd H locs 0 0 (MQ below (va_Qi (fun v u => r_cost R w c x y q v u) (xB D (tyX tt) A (fun u : Nat → Int32 => xw ad tt R w u k d n wp wr)) A) ([.ref (ad 0), .int x, .int y, .int q] : List Value).toArray s 0 0 A) (F0 m 0 ls []) by rw [hH, hlocs] at hgo; exact hgo
  clear hH hlocs
  have f_costAt := hts (.fieldLink RX0 26 "WireWays" "costAt" "[I") (by decide +kernel)
  refine lv_aload_n hx hb dX0_cost_0 rfl (lv_at hl 0 rfl) ?_
  refine lv_iload_n hx hb dX0_cost_1 rfl (lv_at hl 1 rfl) ?_
  refine lv_iload_n hx hb dX0_cost_2 rfl (lv_at hl 2 rfl) ?_
  refine xs_Vi (wr := []) (q0 := 0) (ci := 0) (nA := 2) (As := [.int x, .int y]) (rest := []) S0 (k_X0_isPluggedPort l D ad tt R w c k d n wp wr x y hR) gX0_cost_X0_isPluggedPort rfl ⟨rfl, rfl⟩ (by decide +kernel) rfl ⟨Nat.le_of_ble_eq_true rfl, Nat.le_of_ble_eq_true rfl⟩ ⟨Nat.le_of_ble_eq_true rfl, Nat.le_of_ble_eq_true rfl⟩ hK hP hD hS hA [0, 1, 2, 3, 4, 5] [] rfl rfl (by decide) (by decide) (by decide) rfl rfl rfl hl.1 rfl (Nat.le_of_ble_eq_true rfl) dX0_cost_3 (fun r_1 u H locs hw hP hD hS => ?_)
  have hP : va_P D vwCl (xw ad tt R w c k d n wp wr) H := hP
  have hD : va_D A (xw ad tt R w c k d n wp wr) := hD
  rcases hw with ⟨rfl, h_p⟩ | ⟨rfl, h_p⟩
  · refine lv_if_eq (tgt := 16) hx hb dX0_cost_6 (by decide) (fun c_2 => absurd c_2 (by decide)) (fun c_2 => ?_)
    refine lv_iload_n hx hb dX0_cost_9 rfl (lv_at hl 3 rfl) ?_
    refine xs_Si (nA := 1) (As := [.int q]) (rest := []) S0 (k_X0_isCost l D q) gX0_cost_X0_isCost rfl ⟨rfl, rfl⟩ (by decide +kernel) rfl ⟨Nat.le_of_ble_eq_true rfl, Nat.le_of_ble_eq_true rfl⟩ ⟨Nat.le_of_ble_eq_true rfl, Nat.le_of_ble_eq_true rfl⟩ hK hP hD hS hA hl.1 rfl (Nat.le_of_ble_eq_true rfl) dX0_cost_10 (fun r_3 H locs hw hP hD hS => ?_)
    rcases hw with ⟨rfl, h_c⟩ | ⟨rfl, h_c⟩
    · refine lv_if_ne (tgt := 18) hx hb dX0_cost_13 (by decide) (fun c_4 => ?_) (fun c_4 => absurd c_4 (by decide))
      obtain ⟨i, j, hi, hj, rfl, rfl, h_i⟩ := h_p
      refine lv_iload_n hx hb dX0_cost_18 rfl (lv_at hl 1 rfl) ?_
      refine lv_iload_n hx hb dX0_cost_19 rfl (lv_at hl 2 rfl) ?_
      refine xs_Si (nA := 2) (As := [.int (nI i), .int (nI j)]) (rest := []) S0 (k_X0_placeOf l D (nI i) (nI j)) gX0_cost_X0_placeOf rfl ⟨rfl, rfl⟩ (by decide +kernel) rfl ⟨Nat.le_of_ble_eq_true rfl, Nat.le_of_ble_eq_true rfl⟩ ⟨Nat.le_of_ble_eq_true rfl, Nat.le_of_ble_eq_true rfl⟩ hK hP hD hS hA hl.1 rfl (Nat.le_of_ble_eq_true rfl) dX0_cost_20 (fun r_5 H locs hw hP hD hS => ?_)
      have hw : r_5 = nI (4 * i + j) := by rw [hw]; exact nI_pl _ _
      subst hw
      refine lv_istore (lv' := [(4, .int (nI (4 * i + j))), (0, .ref (ad 0)), (1, .int (nI i)), (2, .int (nI j)), (3, .int q)]) hx hb dX0_cost_23 hl (by decide) rfl (fun ls hl => ?_)
      refine lv_aload_n hx hb dX0_cost_25 rfl (lv_at hl 1 rfl) ?_
      refine x0_get (v := .ref (ad 2)) S0 hin hK hP 2 (by decide) f_costAt rfl rfl dX0_cost_26 ?_
      refine lv_iload hx hb dX0_cost_29 (lv_at hl 0 rfl) ?_
      refine va_iald hx hb hK hP 2 1 rfl rfl (vp_in_nI (by omega) (by omega)) dX0_cost_31 ?_
      refine xt_eq (z := c (4 * i + j)) (congrArg c (nI_clamp (by omega))) ?_
      refine lv_istore (lv' := [(5, .int (c (4 * i + j))), (4, .int (nI (4 * i + j))), (0, .ref (ad 0)), (1, .int (nI i)), (2, .int (nI j)), (3, .int q)]) hx hb dX0_cost_32 hl (by decide) rfl (fun ls hl => ?_)
      refine lv_aload_n hx hb dX0_cost_34 rfl (lv_at hl 2 rfl) ?_
      refine x0_get (v := .ref (ad 2)) S0 hin hK hP 2 (by decide) f_costAt rfl rfl dX0_cost_35 ?_
      refine lv_iload hx hb dX0_cost_38 (lv_at hl 1 rfl) ?_
      refine lv_iload_n hx hb dX0_cost_40 rfl (lv_at hl 5 rfl) ?_
      refine va_iast hx hb hK hP hD hS 2 1 rfl rfl (vp_in_nI (by omega) (by omega)) dX0_cost_41 (fun H locs hP hD hS => ?_)
      rw [(nI_clamp (by omega))] at hP hD
      have hP : va_P D vwCl (xw ad tt R w (upd c (4 * i + j) q) k d n wp wr) H := hP
      have hD : va_D A (xw ad tt R w (upd c (4 * i + j) q) k d n wp wr) := hD
      refine lv_iload hx hb dX0_cost_42 (lv_at hl 0 rfl) ?_
      exact xr_i hx hb hr hlocks (upd c (4 * i + j) q) (Or.inl ⟨i, j, ⟨hi, hj, rfl, rfl, ix_m1 h_i⟩, h_c, rfl, rfl⟩) hP hK hD hS dX0_cost_44
    · refine lv_if_ne (tgt := 18) hx hb dX0_cost_13 (by decide) (fun c_6 => absurd c_6 (by decide)) (fun c_6 => ?_)
      refine lv_iconst (v := (-1)) hx hb dX0_cost_16 (by decide) ?_
      exact xr_i hx hb hr hlocks c (Or.inr ⟨rfl, fun h => by first | exact h_p (drc_plg hR hW h.1) | exact h_c h.2, rfl⟩) hP hK hD hS dX0_cost_17
  · refine lv_if_eq (tgt := 16) hx hb dX0_cost_6 (by decide) (fun c_7 => ?_) (fun c_7 => absurd c_7 (by decide))
    refine lv_iconst (v := (-1)) hx hb dX0_cost_16 (by decide) ?_
    exact xr_i hx hb hr hlocks c (Or.inr ⟨rfl, fun h => by first | exact h_p (drc_plg hR hW h.1) | exact h_c h.2, rfl⟩) hP hK hD hS dX0_cost_17
set_option maxHeartbeats 4000000 in
set_option maxRecDepth 100000 in
theorem k_X1_cost (l : Launch) (D : va_G) (ad : Nat → Nat) (tt : Nat → ClassId) (R : Nat) (w c k d : Nat → Int32) (wp wr : Int32) (x y q : Int32) (hR : R ≤ 10) : xMi l yX1_cost wsX1_cost { frames := 2, cells := 0, slots := 0, locals := 43 } D (tyM tt) [.ref (ad 0), .int x, .int y, .int q] (mw ad tt R w c k d wp wr) (fun u : Nat → Int32 => mw ad tt R w u k d wp wr) (fun v u => r_cost R w c x y q v u) := by
  refine xe_i (cc := cX1_cost) (maxL := 5) (ret := (some .int)) (lvl := [(0, .ref (ad 0)), (1, .int x), (2, .int y), (3, .int q)]) (by decide) rfl (Nat.le_of_ble_eq_true rfl) rfl ?_
  intro p e s m below meth cd A ls hx hb hr hlocks hml hown hts hA hP hK hD hS hl
  have hin : ∀ w ∈ wsX10, w ∈ wsX1_cost := fun _ h => List.mem_cons_of_mem _ (List.mem_append_right _ h)
  have S0 : CallFix p m cd cX1_cost 5 s (([.ref (ad 0), .int x, .int y, .int q] : List Value).toArray) wsX1_cost RX1 := ⟨hx, hb, hml, hown, hts⟩
  obtain ⟨H, hH⟩ : ∃ H, H = s.heap := ⟨_, rfl⟩
  obtain ⟨locs, hlocs⟩ : ∃ q : List Loc, q = [] := ⟨_, rfl⟩
  have hP : va_P D vwCl (mw ad tt R w c k d wp wr) H := by rw [hH]; exact hP
  have hS : va_S A s.heap H locs := by rw [hH, hlocs]; exact hS
  suffices hgo : W p l e (headSpec wsX1_cost ({ frames := 2, cells := 0, slots := 0, locals := 43 } : Room)).room s m (([.ref (ad 0), .int x, .int y, .int q] : List Value).toArray) below meth cd H locs 0 0 (MQ below (va_Qi (fun v u => r_cost R w c x y q v u) (xB D (tyM tt) A (fun u : Nat → Int32 => mw ad tt R w u k d wp wr)) A) ([.ref (ad 0), .int x, .int y, .int q] : List Value).toArray s 0 0 A) (F0 m 0 ls []) by rw [hH, hlocs] at hgo; exact hgo
  clear hH hlocs
  have f_wireOf := hts (.fieldLink RX1 7 "WireWaysModel" "wireOf" "[I") (by decide +kernel)
  have f_costOf := hts (.fieldLink RX1 13 "WireWaysModel" "costOf" "[I") (by decide +kernel)
  refine lv_aload_n hx hb dX1_cost_0 rfl (lv_at hl 0 rfl) ?_
  refine lv_iload_n hx hb dX1_cost_1 rfl (lv_at hl 1 rfl) ?_
  refine lv_iload_n hx hb dX1_cost_2 rfl (lv_at hl 2 rfl) ?_
  refine xs_Vi (wr := []) (q0 := 0) (ci := 1) (nA := 2) (As := [.int x, .int y]) (rest := []) S0 (k_X1_isPlace l D ad tt R w c k d wp wr x y hR) gX1_cost_X1_isPlace rfl ⟨rfl, rfl⟩ (by decide +kernel) rfl ⟨Nat.le_of_ble_eq_true rfl, Nat.le_of_ble_eq_true rfl⟩ ⟨Nat.le_of_ble_eq_true rfl, Nat.le_of_ble_eq_true rfl⟩ hK hP hD hS hA [0, 1, 2, 3, 4] [] rfl rfl (by decide) (by decide) (by decide) rfl rfl rfl hl.1 rfl (Nat.le_of_ble_eq_true rfl) dX1_cost_3 (fun r_1 u H locs hw hP hD hS => ?_)
  have hP : va_P D vwCl (mw ad tt R w c k d wp wr) H := hP
  have hD : va_D A (mw ad tt R w c k d wp wr) := hD
  rcases hw with ⟨rfl, h_p⟩ | ⟨rfl, h_p⟩
  · refine lv_if_eq (tgt := 34) hx hb dX1_cost_6 (by decide) (fun c_2 => absurd c_2 (by decide)) (fun c_2 => ?_)
    obtain ⟨⟨i, hi, rfl⟩, ⟨j, hj, rfl⟩⟩ := h_p
    refine lv_aload_n hx hb dX1_cost_9 rfl (lv_at hl 0 rfl) ?_
    refine x1_get (v := .ref (ad 1)) S0 hin hK hP 1 (by decide) f_wireOf rfl rfl dX1_cost_10 ?_
    refine lv_iconst (v := 4) hx hb dX1_cost_13 (by decide) ?_
    refine lv_iload_n hx hb dX1_cost_14 rfl (lv_at hl 1 rfl) ?_
    refine lv_imul hx hb dX1_cost_15 ?_
    refine lv_iload_n hx hb dX1_cost_16 rfl (lv_at hl 2 rfl) ?_
    refine lv_iadd hx hb dX1_cost_17 ?_
    refine xt_eq (z := nI (4 * i + j)) (nI_lp i j) ?_
    refine va_iald hx hb hK hP 1 0 rfl rfl (vp_in_nI (by omega) (by omega)) dX1_cost_18 ?_
    refine xt_eq (z := w (4 * i + j)) (congrArg w (nI_clamp (by omega))) ?_
    refine lv_iconst (v := (-1)) hx hb dX1_cost_19 (by decide) ?_
    refine lv_icmp_eq (tgt := 34) hx hb dX1_cost_20 (by decide) (fun c_3 => ?_) (fun c_3 => ?_)
    · have h_e := c_3
      refine lv_iconst (v := (-1)) hx hb dX1_cost_34 (by decide) ?_
      exact xr_i hx hb hr hlocks c (Or.inr ⟨rfl, fun h => by first | exact h_p (drc_p h.1) | exact drc_e hR hi hj h.1 h_e | exact h_c h.2, rfl⟩) hP hK hD hS dX1_cost_35
    · have h_e := c_3
      refine lv_iload_n hx hb dX1_cost_23 rfl (lv_at hl 3 rfl) ?_
      refine lv_iconst (v := 1) hx hb dX1_cost_24 (by decide) ?_
      refine lv_icmp_lt (tgt := 34) hx hb dX1_cost_25 (by decide) (fun c_4 => ?_) (fun c_4 => ?_)
      · have h_c := okc_n0 c_4
        refine lv_iconst (v := (-1)) hx hb dX1_cost_34 (by decide) ?_
        exact xr_i hx hb hr hlocks c (Or.inr ⟨rfl, fun h => by first | exact h_p (drc_p h.1) | exact drc_e hR hi hj h.1 h_e | exact h_c h.2, rfl⟩) hP hK hD hS dX1_cost_35
      · refine lv_iload_n hx hb dX1_cost_28 rfl (lv_at hl 3 rfl) ?_
        refine lv_bipush (v := 9) hx hb dX1_cost_29 (by decide) ?_
        refine lv_icmp_le (tgt := 36) hx hb dX1_cost_31 (by decide) (fun c_5 => ?_) (fun c_5 => ?_)
        · have h_c := okc_ofle (by assumption) c_5
          refine lv_aload_n hx hb dX1_cost_36 rfl (lv_at hl 0 rfl) ?_
          refine x1_get (v := .ref (ad 2)) S0 hin hK hP 2 (by decide) f_costOf rfl rfl dX1_cost_37 ?_
          refine lv_iconst (v := 4) hx hb dX1_cost_40 (by decide) ?_
          refine lv_iload_n hx hb dX1_cost_41 rfl (lv_at hl 1 rfl) ?_
          refine lv_imul hx hb dX1_cost_42 ?_
          refine lv_iload_n hx hb dX1_cost_43 rfl (lv_at hl 2 rfl) ?_
          refine lv_iadd hx hb dX1_cost_44 ?_
          refine xt_eq (z := nI (4 * i + j)) (nI_lp i j) ?_
          refine va_iald hx hb hK hP 2 1 rfl rfl (vp_in_nI (by omega) (by omega)) dX1_cost_45 ?_
          refine xt_eq (z := c (4 * i + j)) (congrArg c (nI_clamp (by omega))) ?_
          refine lv_istore (lv' := [(4, .int (c (4 * i + j))), (0, .ref (ad 0)), (1, .int (nI i)), (2, .int (nI j)), (3, .int q)]) hx hb dX1_cost_46 hl (by decide) rfl (fun ls hl => ?_)
          refine lv_aload_n hx hb dX1_cost_48 rfl (lv_at hl 1 rfl) ?_
          refine x1_get (v := .ref (ad 2)) S0 hin hK hP 2 (by decide) f_costOf rfl rfl dX1_cost_49 ?_
          refine lv_iconst (v := 4) hx hb dX1_cost_52 (by decide) ?_
          refine lv_iload_n hx hb dX1_cost_53 rfl (lv_at hl 2 rfl) ?_
          refine lv_imul hx hb dX1_cost_54 ?_
          refine lv_iload_n hx hb dX1_cost_55 rfl (lv_at hl 3 rfl) ?_
          refine lv_iadd hx hb dX1_cost_56 ?_
          refine xt_eq (z := nI (4 * i + j)) (nI_lp i j) ?_
          refine lv_iload_n hx hb dX1_cost_57 rfl (lv_at hl 4 rfl) ?_
          refine va_iast hx hb hK hP hD hS 2 1 rfl rfl (vp_in_nI (by omega) (by omega)) dX1_cost_58 (fun H locs hP hD hS => ?_)
          rw [(nI_clamp (by omega))] at hP hD
          have hP : va_P D vwCl (mw ad tt R w (upd c (4 * i + j) q) k d wp wr) H := hP
          have hD : va_D A (mw ad tt R w (upd c (4 * i + j) q) k d wp wr) := hD
          refine lv_iload hx hb dX1_cost_59 (lv_at hl 0 rfl) ?_
          exact xr_i hx hb hr hlocks (upd c (4 * i + j) q) (Or.inl ⟨i, j, ⟨hi, hj, rfl, rfl, h_e⟩, h_c, rfl, rfl⟩) hP hK hD hS dX1_cost_61
        · have h_c := okc_nle c_5
          refine lv_iconst (v := (-1)) hx hb dX1_cost_34 (by decide) ?_
          exact xr_i hx hb hr hlocks c (Or.inr ⟨rfl, fun h => by first | exact h_p (drc_p h.1) | exact drc_e hR hi hj h.1 h_e | exact h_c h.2, rfl⟩) hP hK hD hS dX1_cost_35
  · refine lv_if_eq (tgt := 34) hx hb dX1_cost_6 (by decide) (fun c_6 => ?_) (fun c_6 => absurd c_6 (by decide))
    refine lv_iconst (v := (-1)) hx hb dX1_cost_34 (by decide) ?_
    exact xr_i hx hb hr hlocks c (Or.inr ⟨rfl, fun h => by first | exact h_p (drc_p h.1) | exact drc_e hR hi hj h.1 h_e | exact h_c h.2, rfl⟩) hP hK hD hS dX1_cost_35
set_option maxHeartbeats 4000000 in
set_option maxRecDepth 100000 in
theorem k_X0_cut (l : Launch) (D : va_G) (ad : Nat → Nat) (tt : Nat → ClassId) (R : Nat) (w c k d n : Nat → Int32) (wp wr : Int32) (z : Int32) : xMi l yX0_cut wsX0_cut { frames := 2, cells := 0, slots := 0, locals := 41 } D (tyX tt) [.ref (ad 0), .int z] (xw ad tt R w c k d n wp wr) (fun u : Nat → Int32 => xw ad tt R w c u d n wp wr) (fun v u => r_cut k z v u) := by
  refine xe_i (cc := cX0_cut) (maxL := 2) (ret := (some .boolean)) (lvl := [(0, .ref (ad 0)), (1, .int z)]) (by decide) rfl (Nat.le_of_ble_eq_true rfl) rfl ?_
  intro p e s m below meth cd A ls hx hb hr hlocks hml hown hts hA hP hK hD hS hl
  have hin : ∀ w ∈ wsX00, w ∈ wsX0_cut := fun _ h => List.mem_cons_of_mem _ (List.mem_append_right _ h)
  have S0 : CallFix p m cd cX0_cut 2 s (([.ref (ad 0), .int z] : List Value).toArray) wsX0_cut RX0 := ⟨hx, hb, hml, hown, hts⟩
  obtain ⟨H, hH⟩ : ∃ H, H = s.heap := ⟨_, rfl⟩
  obtain ⟨locs, hlocs⟩ : ∃ q : List Loc, q = [] := ⟨_, rfl⟩
  have hP : va_P D vwCl (xw ad tt R w c k d n wp wr) H := by rw [hH]; exact hP
  have hS : va_S A s.heap H locs := by rw [hH, hlocs]; exact hS
  suffices hgo : W p l e (headSpec wsX0_cut ({ frames := 2, cells := 0, slots := 0, locals := 41 } : Room)).room s m (([.ref (ad 0), .int z] : List Value).toArray) below meth cd H locs 0 0 (MQ below (va_Qi (fun v u => r_cut k z v u) (xB D (tyX tt) A (fun u : Nat → Int32 => xw ad tt R w c u d n wp wr)) A) ([.ref (ad 0), .int z] : List Value).toArray s 0 0 A) (F0 m 0 ls []) by rw [hH, hlocs] at hgo; exact hgo
  clear hH hlocs
  have f_isCut := hts (.fieldLink RX0 29 "WireWays" "isCut" "[Z") (by decide +kernel)
  refine lv_aload_n hx hb dX0_cut_0 rfl (lv_at hl 0 rfl) ?_
  refine lv_iload_n hx hb dX0_cut_1 rfl (lv_at hl 1 rfl) ?_
  refine xs_Vi (wr := []) (q0 := 0) (ci := 0) (nA := 1) (As := [.int z]) (rest := []) S0 (k_X0_isUp l D ad tt R w c k d n wp wr z) gX0_cut_X0_isUp rfl ⟨rfl, rfl⟩ (by decide +kernel) rfl ⟨Nat.le_of_ble_eq_true rfl, Nat.le_of_ble_eq_true rfl⟩ ⟨Nat.le_of_ble_eq_true rfl, Nat.le_of_ble_eq_true rfl⟩ hK hP hD hS hA [0, 1, 2, 3, 4, 5] [] rfl rfl (by decide) (by decide) (by decide) rfl rfl rfl hl.1 rfl (Nat.le_of_ble_eq_true rfl) dX0_cut_2 (fun r_1 u H locs hw hP hD hS => ?_)
  have hP : va_P D vwCl (xw ad tt R w c k d n wp wr) H := hP
  have hD : va_D A (xw ad tt R w c k d n wp wr) := hD
  rcases hw with ⟨rfl, h_u⟩ | ⟨rfl, h_u⟩
  · refine lv_if_ne (tgt := 10) hx hb dX0_cut_5 (by decide) (fun c_2 => ?_) (fun c_2 => absurd c_2 (by decide))
    obtain ⟨a, ha, rfl, h_k⟩ := h_u
    refine lv_aload_n hx hb dX0_cut_10 rfl (lv_at hl 0 rfl) ?_
    refine x0_get (v := .ref (ad 3)) S0 hin hK hP 3 (by decide) f_isCut rfl rfl dX0_cut_11 ?_
    refine lv_iload_n hx hb dX0_cut_14 rfl (lv_at hl 1 rfl) ?_
    refine lv_iconst (v := 1) hx hb dX0_cut_15 (by decide) ?_
    refine va_zast hx hb hK hP hD hS 3 2 rfl rfl (vp_in_nI (by omega) (by omega)) dX0_cut_16 (fun H locs hP hD hS => ?_)
    rw [(nI_clamp (by omega)), vn_1] at hP hD
    have hP : va_P D vwCl (xw ad tt R w c (upd k a 1) d n wp wr) H := hP
    have hD : va_D A (xw ad tt R w c (upd k a 1) d n wp wr) := hD
    refine lv_iconst (v := 1) hx hb dX0_cut_17 (by decide) ?_
    exact xr_z hx hb hr hlocks rfl (upd k a 1) (Or.inl ⟨rfl, a, ha, rfl, h_k, rfl⟩) hP hK hD hS dX0_cut_18
  · refine lv_if_ne (tgt := 10) hx hb dX0_cut_5 (by decide) (fun c_3 => absurd c_3 (by decide)) (fun c_3 => ?_)
    refine lv_iconst (v := 0) hx hb dX0_cut_8 (by decide) ?_
    exact xr_z hx hb hr hlocks rfl k (Or.inr ⟨rfl, h_u, rfl⟩) hP hK hD hS dX0_cut_9
set_option maxHeartbeats 4000000 in
set_option maxRecDepth 100000 in
theorem k_X1_cut (l : Launch) (D : va_G) (ad : Nat → Nat) (tt : Nat → ClassId) (R : Nat) (w c k d : Nat → Int32) (wp wr : Int32) (z : Int32) : xMi l yX1_cut wsX1_cut { frames := 1, cells := 0, slots := 0, locals := 20 } D (tyM tt) [.ref (ad 0), .int z] (mw ad tt R w c k d wp wr) (fun u : Nat → Int32 => mw ad tt R w c u d wp wr) (fun v u => r_cut k z v u) := by
  refine xe_i (cc := cX1_cut) (maxL := 2) (ret := (some .boolean)) (lvl := [(0, .ref (ad 0)), (1, .int z)]) (by decide) rfl (Nat.le_of_ble_eq_true rfl) rfl ?_
  intro p e s m below meth cd A ls hx hb hr hlocks hml hown hts hA hP hK hD hS hl
  have hin : ∀ w ∈ wsX10, w ∈ wsX1_cut := fun _ h => List.mem_cons_of_mem _ (List.mem_append_right _ h)
  have S0 : CallFix p m cd cX1_cut 2 s (([.ref (ad 0), .int z] : List Value).toArray) wsX1_cut RX1 := ⟨hx, hb, hml, hown, hts⟩
  obtain ⟨H, hH⟩ : ∃ H, H = s.heap := ⟨_, rfl⟩
  obtain ⟨locs, hlocs⟩ : ∃ q : List Loc, q = [] := ⟨_, rfl⟩
  have hP : va_P D vwCl (mw ad tt R w c k d wp wr) H := by rw [hH]; exact hP
  have hS : va_S A s.heap H locs := by rw [hH, hlocs]; exact hS
  suffices hgo : W p l e (headSpec wsX1_cut ({ frames := 1, cells := 0, slots := 0, locals := 20 } : Room)).room s m (([.ref (ad 0), .int z] : List Value).toArray) below meth cd H locs 0 0 (MQ below (va_Qi (fun v u => r_cut k z v u) (xB D (tyM tt) A (fun u : Nat → Int32 => mw ad tt R w c u d wp wr)) A) ([.ref (ad 0), .int z] : List Value).toArray s 0 0 A) (F0 m 0 ls []) by rw [hH, hlocs] at hgo; exact hgo
  clear hH hlocs
  have f_isCut := hts (.fieldLink RX1 16 "WireWaysModel" "isCut" "[Z") (by decide +kernel)
  refine lv_iload_n hx hb dX1_cut_0 rfl (lv_at hl 1 rfl) ?_
  refine xs_Si (nA := 1) (As := [.int z]) (rest := []) S0 (k_X1_isWire l D z) gX1_cut_X1_isWire rfl ⟨rfl, rfl⟩ (by decide +kernel) rfl ⟨Nat.le_of_ble_eq_true rfl, Nat.le_of_ble_eq_true rfl⟩ ⟨Nat.le_of_ble_eq_true rfl, Nat.le_of_ble_eq_true rfl⟩ hK hP hD hS hA hl.1 rfl (Nat.le_of_ble_eq_true rfl) dX1_cut_1 (fun r_1 H locs hw hP hD hS => ?_)
  rcases hw with ⟨rfl, h_w⟩ | ⟨rfl, h_w⟩
  · refine lv_if_eq (tgt := 16) hx hb dX1_cut_4 (by decide) (fun c_2 => absurd c_2 (by decide)) (fun c_2 => ?_)
    obtain ⟨a, ha, rfl⟩ := h_w
    refine lv_aload_n hx hb dX1_cut_7 rfl (lv_at hl 0 rfl) ?_
    refine x1_get (v := .ref (ad 3)) S0 hin hK hP 3 (by decide) f_isCut rfl rfl dX1_cut_8 ?_
    refine lv_iload_n hx hb dX1_cut_11 rfl (lv_at hl 1 rfl) ?_
    refine va_zald hx hb hK hP 3 2 rfl rfl (vp_in_nI (by omega) (by omega)) dX1_cut_12 ?_
    refine xt_eq (z := k a) (congrArg k (nI_clamp (by omega))) ?_
    refine lv_if_eq (tgt := 18) hx hb dX1_cut_13 (by decide) (fun c_3 => ?_) (fun c_3 => ?_)
    · have h_k := c_3
      refine lv_aload_n hx hb dX1_cut_18 rfl (lv_at hl 0 rfl) ?_
      refine x1_get (v := .ref (ad 3)) S0 hin hK hP 3 (by decide) f_isCut rfl rfl dX1_cut_19 ?_
      refine lv_iload_n hx hb dX1_cut_22 rfl (lv_at hl 1 rfl) ?_
      refine lv_iconst (v := 1) hx hb dX1_cut_23 (by decide) ?_
      refine va_zast hx hb hK hP hD hS 3 2 rfl rfl (vp_in_nI (by omega) (by omega)) dX1_cut_24 (fun H locs hP hD hS => ?_)
      rw [(nI_clamp (by omega)), vn_1] at hP hD
      have hP : va_P D vwCl (mw ad tt R w c (upd k a 1) d wp wr) H := hP
      have hD : va_D A (mw ad tt R w c (upd k a 1) d wp wr) := hD
      refine lv_iconst (v := 1) hx hb dX1_cut_25 (by decide) ?_
      exact xr_z hx hb hr hlocks rfl (upd k a 1) (Or.inl ⟨rfl, a, ha, rfl, h_k, rfl⟩) hP hK hD hS dX1_cut_26
    · have h_k := c_3
      refine lv_iconst (v := 0) hx hb dX1_cut_16 (by decide) ?_
      exact xr_z hx hb hr hlocks rfl k (Or.inr ⟨rfl, fun h => by first | exact h_w (cut_w h) | exact h_k (cut_e ha h), rfl⟩) hP hK hD hS dX1_cut_17
  · refine lv_if_eq (tgt := 16) hx hb dX1_cut_4 (by decide) (fun c_4 => ?_) (fun c_4 => absurd c_4 (by decide))
    refine lv_iconst (v := 0) hx hb dX1_cut_16 (by decide) ?_
    exact xr_z hx hb hr hlocks rfl k (Or.inr ⟨rfl, fun h => by first | exact h_w (cut_w h) | exact h_k (cut_e ha h), rfl⟩) hP hK hD hS dX1_cut_17
set_option maxHeartbeats 4000000 in
set_option maxRecDepth 100000 in
theorem k_X0_mend (l : Launch) (D : va_G) (ad : Nat → Nat) (tt : Nat → ClassId) (R : Nat) (w c k d n : Nat → Int32) (wp wr : Int32) (z : Int32) : xMi l yX0_mend wsX0_mend { frames := 1, cells := 0, slots := 0, locals := 20 } D (tyX tt) [.ref (ad 0), .int z] (xw ad tt R w c k d n wp wr) (fun u : Nat → Int32 => xw ad tt R w c u d n wp wr) (fun v u => r_mend k z v u) := by
  refine xe_i (cc := cX0_mend) (maxL := 2) (ret := (some .boolean)) (lvl := [(0, .ref (ad 0)), (1, .int z)]) (by decide) rfl (Nat.le_of_ble_eq_true rfl) rfl ?_
  intro p e s m below meth cd A ls hx hb hr hlocks hml hown hts hA hP hK hD hS hl
  have hin : ∀ w ∈ wsX00, w ∈ wsX0_mend := fun _ h => List.mem_cons_of_mem _ (List.mem_append_right _ h)
  have S0 : CallFix p m cd cX0_mend 2 s (([.ref (ad 0), .int z] : List Value).toArray) wsX0_mend RX0 := ⟨hx, hb, hml, hown, hts⟩
  obtain ⟨H, hH⟩ : ∃ H, H = s.heap := ⟨_, rfl⟩
  obtain ⟨locs, hlocs⟩ : ∃ q : List Loc, q = [] := ⟨_, rfl⟩
  have hP : va_P D vwCl (xw ad tt R w c k d n wp wr) H := by rw [hH]; exact hP
  have hS : va_S A s.heap H locs := by rw [hH, hlocs]; exact hS
  suffices hgo : W p l e (headSpec wsX0_mend ({ frames := 1, cells := 0, slots := 0, locals := 20 } : Room)).room s m (([.ref (ad 0), .int z] : List Value).toArray) below meth cd H locs 0 0 (MQ below (va_Qi (fun v u => r_mend k z v u) (xB D (tyX tt) A (fun u : Nat → Int32 => xw ad tt R w c u d n wp wr)) A) ([.ref (ad 0), .int z] : List Value).toArray s 0 0 A) (F0 m 0 ls []) by rw [hH, hlocs] at hgo; exact hgo
  clear hH hlocs
  have f_isCut := hts (.fieldLink RX0 29 "WireWays" "isCut" "[Z") (by decide +kernel)
  refine lv_iload_n hx hb dX0_mend_0 rfl (lv_at hl 1 rfl) ?_
  refine xs_Si (nA := 1) (As := [.int z]) (rest := []) S0 (k_X0_isWire l D z) gX0_mend_X0_isWire rfl ⟨rfl, rfl⟩ (by decide +kernel) rfl ⟨Nat.le_of_ble_eq_true rfl, Nat.le_of_ble_eq_true rfl⟩ ⟨Nat.le_of_ble_eq_true rfl, Nat.le_of_ble_eq_true rfl⟩ hK hP hD hS hA hl.1 rfl (Nat.le_of_ble_eq_true rfl) dX0_mend_1 (fun r_1 H locs hw hP hD hS => ?_)
  rcases hw with ⟨rfl, h_w⟩ | ⟨rfl, h_w⟩
  · refine lv_if_eq (tgt := 16) hx hb dX0_mend_4 (by decide) (fun c_2 => absurd c_2 (by decide)) (fun c_2 => ?_)
    obtain ⟨a, ha, rfl⟩ := h_w
    refine lv_aload_n hx hb dX0_mend_7 rfl (lv_at hl 0 rfl) ?_
    refine x0_get (v := .ref (ad 3)) S0 hin hK hP 3 (by decide) f_isCut rfl rfl dX0_mend_8 ?_
    refine lv_iload_n hx hb dX0_mend_11 rfl (lv_at hl 1 rfl) ?_
    refine va_zald hx hb hK hP 3 2 rfl rfl (vp_in_nI (by omega) (by omega)) dX0_mend_12 ?_
    refine xt_eq (z := k a) (congrArg k (nI_clamp (by omega))) ?_
    refine lv_if_ne (tgt := 18) hx hb dX0_mend_13 (by decide) (fun c_3 => ?_) (fun c_3 => ?_)
    · have h_k := c_3
      refine lv_aload_n hx hb dX0_mend_18 rfl (lv_at hl 0 rfl) ?_
      refine x0_get (v := .ref (ad 3)) S0 hin hK hP 3 (by decide) f_isCut rfl rfl dX0_mend_19 ?_
      refine lv_iload_n hx hb dX0_mend_22 rfl (lv_at hl 1 rfl) ?_
      refine lv_iconst (v := 0) hx hb dX0_mend_23 (by decide) ?_
      refine va_zast hx hb hK hP hD hS 3 2 rfl rfl (vp_in_nI (by omega) (by omega)) dX0_mend_24 (fun H locs hP hD hS => ?_)
      rw [(nI_clamp (by omega)), vn_0] at hP hD
      have hP : va_P D vwCl (xw ad tt R w c (upd k a 0) d n wp wr) H := hP
      have hD : va_D A (xw ad tt R w c (upd k a 0) d n wp wr) := hD
      refine lv_iconst (v := 1) hx hb dX0_mend_25 (by decide) ?_
      exact xr_z hx hb hr hlocks rfl (upd k a 0) (Or.inl ⟨rfl, a, ha, rfl, h_k, rfl⟩) hP hK hD hS dX0_mend_26
    · have h_k := c_3
      refine lv_iconst (v := 0) hx hb dX0_mend_16 (by decide) ?_
      exact xr_z hx hb hr hlocks rfl k (Or.inr ⟨rfl, fun h => by first | exact h_w (mend_w h) | exact mend_e ha h h_k, rfl⟩) hP hK hD hS dX0_mend_17
  · refine lv_if_eq (tgt := 16) hx hb dX0_mend_4 (by decide) (fun c_4 => ?_) (fun c_4 => absurd c_4 (by decide))
    refine lv_iconst (v := 0) hx hb dX0_mend_16 (by decide) ?_
    exact xr_z hx hb hr hlocks rfl k (Or.inr ⟨rfl, fun h => by first | exact h_w (mend_w h) | exact mend_e ha h h_k, rfl⟩) hP hK hD hS dX0_mend_17
set_option maxHeartbeats 4000000 in
set_option maxRecDepth 100000 in
theorem k_X1_mend (l : Launch) (D : va_G) (ad : Nat → Nat) (tt : Nat → ClassId) (R : Nat) (w c k d : Nat → Int32) (wp wr : Int32) (z : Int32) : xMi l yX1_mend wsX1_mend { frames := 1, cells := 0, slots := 0, locals := 20 } D (tyM tt) [.ref (ad 0), .int z] (mw ad tt R w c k d wp wr) (fun u : Nat → Int32 => mw ad tt R w c u d wp wr) (fun v u => r_mend k z v u) := by
  refine xe_i (cc := cX1_mend) (maxL := 2) (ret := (some .boolean)) (lvl := [(0, .ref (ad 0)), (1, .int z)]) (by decide) rfl (Nat.le_of_ble_eq_true rfl) rfl ?_
  intro p e s m below meth cd A ls hx hb hr hlocks hml hown hts hA hP hK hD hS hl
  have hin : ∀ w ∈ wsX10, w ∈ wsX1_mend := fun _ h => List.mem_cons_of_mem _ (List.mem_append_right _ h)
  have S0 : CallFix p m cd cX1_mend 2 s (([.ref (ad 0), .int z] : List Value).toArray) wsX1_mend RX1 := ⟨hx, hb, hml, hown, hts⟩
  obtain ⟨H, hH⟩ : ∃ H, H = s.heap := ⟨_, rfl⟩
  obtain ⟨locs, hlocs⟩ : ∃ q : List Loc, q = [] := ⟨_, rfl⟩
  have hP : va_P D vwCl (mw ad tt R w c k d wp wr) H := by rw [hH]; exact hP
  have hS : va_S A s.heap H locs := by rw [hH, hlocs]; exact hS
  suffices hgo : W p l e (headSpec wsX1_mend ({ frames := 1, cells := 0, slots := 0, locals := 20 } : Room)).room s m (([.ref (ad 0), .int z] : List Value).toArray) below meth cd H locs 0 0 (MQ below (va_Qi (fun v u => r_mend k z v u) (xB D (tyM tt) A (fun u : Nat → Int32 => mw ad tt R w c u d wp wr)) A) ([.ref (ad 0), .int z] : List Value).toArray s 0 0 A) (F0 m 0 ls []) by rw [hH, hlocs] at hgo; exact hgo
  clear hH hlocs
  have f_isCut := hts (.fieldLink RX1 16 "WireWaysModel" "isCut" "[Z") (by decide +kernel)
  refine lv_iload_n hx hb dX1_mend_0 rfl (lv_at hl 1 rfl) ?_
  refine xs_Si (nA := 1) (As := [.int z]) (rest := []) S0 (k_X1_isWire l D z) gX1_mend_X1_isWire rfl ⟨rfl, rfl⟩ (by decide +kernel) rfl ⟨Nat.le_of_ble_eq_true rfl, Nat.le_of_ble_eq_true rfl⟩ ⟨Nat.le_of_ble_eq_true rfl, Nat.le_of_ble_eq_true rfl⟩ hK hP hD hS hA hl.1 rfl (Nat.le_of_ble_eq_true rfl) dX1_mend_1 (fun r_1 H locs hw hP hD hS => ?_)
  rcases hw with ⟨rfl, h_w⟩ | ⟨rfl, h_w⟩
  · refine lv_if_eq (tgt := 16) hx hb dX1_mend_4 (by decide) (fun c_2 => absurd c_2 (by decide)) (fun c_2 => ?_)
    obtain ⟨a, ha, rfl⟩ := h_w
    refine lv_aload_n hx hb dX1_mend_7 rfl (lv_at hl 0 rfl) ?_
    refine x1_get (v := .ref (ad 3)) S0 hin hK hP 3 (by decide) f_isCut rfl rfl dX1_mend_8 ?_
    refine lv_iload_n hx hb dX1_mend_11 rfl (lv_at hl 1 rfl) ?_
    refine va_zald hx hb hK hP 3 2 rfl rfl (vp_in_nI (by omega) (by omega)) dX1_mend_12 ?_
    refine xt_eq (z := k a) (congrArg k (nI_clamp (by omega))) ?_
    refine lv_if_ne (tgt := 18) hx hb dX1_mend_13 (by decide) (fun c_3 => ?_) (fun c_3 => ?_)
    · have h_k := c_3
      refine lv_aload_n hx hb dX1_mend_18 rfl (lv_at hl 0 rfl) ?_
      refine x1_get (v := .ref (ad 3)) S0 hin hK hP 3 (by decide) f_isCut rfl rfl dX1_mend_19 ?_
      refine lv_iload_n hx hb dX1_mend_22 rfl (lv_at hl 1 rfl) ?_
      refine lv_iconst (v := 0) hx hb dX1_mend_23 (by decide) ?_
      refine va_zast hx hb hK hP hD hS 3 2 rfl rfl (vp_in_nI (by omega) (by omega)) dX1_mend_24 (fun H locs hP hD hS => ?_)
      rw [(nI_clamp (by omega)), vn_0] at hP hD
      have hP : va_P D vwCl (mw ad tt R w c (upd k a 0) d wp wr) H := hP
      have hD : va_D A (mw ad tt R w c (upd k a 0) d wp wr) := hD
      refine lv_iconst (v := 1) hx hb dX1_mend_25 (by decide) ?_
      exact xr_z hx hb hr hlocks rfl (upd k a 0) (Or.inl ⟨rfl, a, ha, rfl, h_k, rfl⟩) hP hK hD hS dX1_mend_26
    · have h_k := c_3
      refine lv_iconst (v := 0) hx hb dX1_mend_16 (by decide) ?_
      exact xr_z hx hb hr hlocks rfl k (Or.inr ⟨rfl, fun h => by first | exact h_w (mend_w h) | exact mend_e ha h h_k, rfl⟩) hP hK hD hS dX1_mend_17
  · refine lv_if_eq (tgt := 16) hx hb dX1_mend_4 (by decide) (fun c_4 => ?_) (fun c_4 => absurd c_4 (by decide))
    refine lv_iconst (v := 0) hx hb dX1_mend_16 (by decide) ?_
    exact xr_z hx hb hr hlocks rfl k (Or.inr ⟨rfl, fun h => by first | exact h_w (mend_w h) | exact mend_e ha h h_k, rfl⟩) hP hK hD hS dX1_mend_17
