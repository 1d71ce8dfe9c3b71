set_option maxHeartbeats 4000000 in
set_option maxRecDepth 100000 in
theorem k_X1_isAt (l : Launch) (D : va_G) (ad : Nat → Nat) (tt : Nat → ClassId) (R : Nat) (w c k d : Nat → Int32) (wp wr : Int32) (r : Nat) (ov : Int32) (t : Nat) (hr10 : r < 10) (ht : ov ≠ 0 → t < 16) (ht2 : t < 16) : xMi l yX1_isAt wsX1_isAt { frames := 1, cells := 0, slots := 0, locals := 23 } D (tyM tt) [.ref (ad 0), .int (nI r), .int ov, .int (nI t)] (mw ad tt R w c k d wp wr) (fun _ : Unit => mw ad tt R w c k d wp wr) (fun v _ => (v = 1 ∧ ww_tg w k ov t r) ∨ (v = 0 ∧ ¬ ww_tg w k ov t r)) := by
  refine xe_i (cc := cX1_isAt) (maxL := 4) (ret := (some .boolean)) (lvl := [(0, .ref (ad 0)), (1, .int (nI r)), (2, .int ov), (3, .int (nI t))]) (by decide) rfl (Nat.le_of_ble_eq_true rfl) rfl ?_
  intro p e s m below meth cd A ls hx hb hr hlocks hml hown hts hA hP hK hD hS hl
  have hin : ∀ w ∈ wsX10, w ∈ wsX1_isAt := fun _ h => List.mem_cons_of_mem _ (List.mem_append_right _ h)
  have S0 : CallFix p m cd cX1_isAt 4 s (([.ref (ad 0), .int (nI r), .int ov, .int (nI t)] : List Value).toArray) wsX1_isAt RX1 := ⟨hx, hb, hml, hown, hts⟩
  obtain ⟨H, hH⟩ : ∃ H, H = s.heap := ⟨_, rfl⟩
  obtain ⟨locs, hlocs⟩ : ∃ q : List Loc, q = [] := ⟨_, rfl⟩
  have hP : va_P D vwCl (mw ad tt R w c k d wp wr) H := by rw [hH]; exact hP
  have hS : va_S A s.heap H locs := by rw [hH, hlocs]; exact hS
  suffices hgo : W p l e (headSpec wsX1_isAt ({ frames := 1, cells := 0, slots := 0, locals := 23 } : Room)).room s m (([.ref (ad 0), .int (nI r), .int ov, .int (nI t)] : List Value).toArray) below meth cd H locs 0 0 (MQ below (va_Qi (fun v _ => (v = 1 ∧ ww_tg w k ov t r) ∨ (v = 0 ∧ ¬ ww_tg w k ov t r)) (xB D (tyM tt) A (fun _ : Unit => mw ad tt R w c k d wp wr)) A) ([.ref (ad 0), .int (nI r), .int ov, .int (nI t)] : List Value).toArray s 0 0 A) (F0 m 0 ls []) by rw [hH, hlocs] at hgo; exact hgo
  clear hH hlocs
  have f_isCut := hts (.fieldLink RX1 16 "WireWaysModel" "isCut" "[Z") (by decide +kernel)
  refine lv_iload_n hx hb dX1_isAt_0 rfl (lv_at hl 2 rfl) ?_
  refine lv_if_eq (tgt := 31) hx hb dX1_isAt_1 (by decide) (fun c_1 => ?_) (fun c_1 => ?_)
  · have hov := c_1
    refine lv_iload_n hx hb dX1_isAt_31 rfl (lv_at hl 1 rfl) ?_
    refine lv_iload_n hx hb dX1_isAt_32 rfl (lv_at hl 3 rfl) ?_
    refine lv_icmp_ne (tgt := 40) hx hb dX1_isAt_33 (by decide) (fun c_2 => ?_) (fun c_2 => ?_)
    · have htg : ¬ ww_tg w k ov t r := fun h => c_2 (congrArg nI (h.2 hov))
      refine lv_iconst (v := 0) hx hb dX1_isAt_40 (by decide) ?_
      exact xr_z hx hb hr hlocks rfl () (Or.inr ⟨rfl, htg⟩) hP hK hD hS dX1_isAt_41
    · have htg : ww_tg w k ov t r := ⟨fun h => absurd hov h, fun _ => (nI_eq (by omega) (by omega)).mp c_2⟩
      refine lv_iconst (v := 1) hx hb dX1_isAt_36 (by decide) ?_
      refine lv_goto (tgt := 41) hx hb dX1_isAt_37 (by decide) ?_
      exact xr_z hx hb hr hlocks rfl () (Or.inl ⟨rfl, htg⟩) hP hK hD hS dX1_isAt_41
  · have hov := c_1
    have ht16 := ht hov
    refine lv_aload_n hx hb dX1_isAt_4 rfl (lv_at hl 0 rfl) ?_
    refine x1_get (v := .ref (ad 3)) S0 hin hK hP 3 (by decide) f_isCut rfl rfl dX1_isAt_5 ?_
    refine lv_iload_n hx hb dX1_isAt_8 rfl (lv_at hl 3 rfl) ?_
    refine va_zald hx hb hK hP 3 2 rfl rfl (vp_in_nI (by omega) (by omega)) dX1_isAt_9 ?_
    refine xt_eq (z := k t) (congrArg k (nI_clamp (by omega))) ?_
    refine lv_if_ne (tgt := 27) hx hb dX1_isAt_10 (by decide) (fun c_3 => ?_) (fun c_3 => ?_)
    · have htg : ¬ ww_tg w k ov t r := fun h => c_3 (h.1 hov).1
      refine lv_iconst (v := 0) hx hb dX1_isAt_27 (by decide) ?_
      refine lv_goto (tgt := 41) hx hb dX1_isAt_28 (by decide) ?_
      exact xr_z hx hb hr hlocks rfl () (Or.inr ⟨rfl, htg⟩) hP hK hD hS dX1_isAt_41
    · have hk0 := c_3
      refine lv_aload_n hx hb dX1_isAt_13 rfl (lv_at hl 0 rfl) ?_
      refine lv_iload_n hx hb dX1_isAt_14 rfl (lv_at hl 1 rfl) ?_
      refine lv_iload_n hx hb dX1_isAt_15 rfl (lv_at hl 3 rfl) ?_
      refine xs_Vi (wr := []) (q0 := 0) (ci := 1) (nA := 2) (As := [.int (nI r), .int (nI t)]) (rest := []) S0 (k_X1_portOn l D ad tt R w c k d wp wr r (nI t) (by omega)) gX1_isAt_X1_portOn rfl ⟨rfl, rfl⟩ (by decide +kernel) rfl ⟨Nat.le_of_ble_eq_true rfl, Nat.le_of_ble_eq_true rfl⟩ ⟨Nat.le_of_ble_eq_true rfl, Nat.le_of_ble_eq_true rfl⟩ hK hP hD hS hA [0, 1, 2, 3, 4] [] rfl rfl (by decide) (by decide) (by decide) rfl rfl rfl hl.1 rfl (Nat.le_of_ble_eq_true rfl) dX1_isAt_16 (fun r_4 u H locs hw hP hD hS => ?_)
      have hP : va_P D vwCl (mw ad tt R w c k d wp wr) H := hP
      have hD : va_D A (mw ad tt R w c k d wp wr) := hD
      have h_po := hw
      refine lv_iconst (v := (-1)) hx hb dX1_isAt_19 (by decide) ?_
      refine lv_icmp_eq (tgt := 27) hx hb dX1_isAt_20 (by decide) (fun c_5 => ?_) (fun c_5 => ?_)
      · have htg : ¬ ww_tg w k ov t r := fun h => (ww_po_on h_po).mp c_5 (h.1 hov).2
        refine lv_iconst (v := 0) hx hb dX1_isAt_27 (by decide) ?_
        refine lv_goto (tgt := 41) hx hb dX1_isAt_28 (by decide) ?_
        exact xr_z hx hb hr hlocks rfl () (Or.inr ⟨rfl, htg⟩) hP hK hD hS dX1_isAt_41
      · have htg : ww_tg w k ov t r := ⟨fun _ => ⟨hk0, ww_on_of (v := 0) h_po c_5⟩, fun h => absurd h hov⟩
        refine lv_iconst (v := 1) hx hb dX1_isAt_23 (by decide) ?_
        refine lv_goto (tgt := 41) hx hb dX1_isAt_24 (by decide) ?_
        exact xr_z hx hb hr hlocks rfl () (Or.inl ⟨rfl, htg⟩) hP hK hD hS dX1_isAt_41
set_option maxHeartbeats 4000000 in
set_option maxRecDepth 100000 in
theorem k_X1_by (l : Launch) (D : va_G) (ad : Nat → Nat) (tt : Nat → ClassId) (R : Nat) (w c k d : Nat → Int32) (wp wr : Int32) (hok : ww_ok R w c) (dn : Nat → Nat) (hd : ∀ a, a < R → d a = nI (dn a) ∧ dn a ≤ 100000) (r p9 q : Nat) (hrR : r < R) (hp4 : p9 < 4) (hqR : q < R) : xMi l yX1_by wsX1_by { frames := 1, cells := 0, slots := 0, locals := 23 } D (tyM tt) [.ref (ad 0), .int (nI r), .int (nI p9), .int (nI q)] (mw ad tt R w c k d wp wr) (fun _ : Unit => mw ad tt R w c k d wp wr) (fun v _ => ∃ dv, v = nI dv ∧ by_ok R w c k dn r p9 q dv) := by
  refine xe_i (cc := cX1_by) (maxL := 5) (ret := (some .int)) (lvl := [(0, .ref (ad 0)), (1, .int (nI r)), (2, .int (nI p9)), (3, .int (nI q))]) (by decide) rfl (Nat.le_of_ble_eq_true rfl) rfl ?_
  intro p e s m below meth cd A ls hx hb hr hlocks hml hown hts hA hP hK hD hS hl
  have hin : ∀ w ∈ wsX10, w ∈ wsX1_by := fun _ h => List.mem_cons_of_mem _ (List.mem_append_right _ h)
  have S0 : CallFix p m cd cX1_by 5 s (([.ref (ad 0), .int (nI r), .int (nI p9), .int (nI q)] : List Value).toArray) wsX1_by RX1 := ⟨hx, hb, hml, hown, hts⟩
  obtain ⟨H, hH⟩ : ∃ H, H = s.heap := ⟨_, rfl⟩
  obtain ⟨locs, hlocs⟩ : ∃ q : List Loc, q = [] := ⟨_, rfl⟩
  have hP : va_P D vwCl (mw ad tt R w c k d wp wr) H := by rw [hH]; exact hP
  have hS : va_S A s.heap H locs := by rw [hH, hlocs]; exact hS
  suffices hgo : W p l e (headSpec wsX1_by ({ frames := 1, cells := 0, slots := 0, locals := 23 } : Room)).room s m (([.ref (ad 0), .int (nI r), .int (nI p9), .int (nI q)] : List Value).toArray) below meth cd H locs 0 0 (MQ below (va_Qi (fun v _ => ∃ dv, v = nI dv ∧ by_ok R w c k dn r p9 q dv) (xB D (tyM tt) A (fun _ : Unit => mw ad tt R w c k d wp wr)) A) ([.ref (ad 0), .int (nI r), .int (nI p9), .int (nI q)] : List Value).toArray s 0 0 A) (F0 m 0 ls []) by rw [hH, hlocs] at hgo; exact hgo
  clear hH hlocs
  have f_wireOf := hts (.fieldLink RX1 7 "WireWaysModel" "wireOf" "[I") (by decide +kernel)
  have f_costOf := hts (.fieldLink RX1 13 "WireWaysModel" "costOf" "[I") (by decide +kernel)
  have f_isCut := hts (.fieldLink RX1 16 "WireWaysModel" "isCut" "[Z") (by decide +kernel)
  have f_distance := hts (.fieldLink RX1 20 "WireWaysModel" "distance" "[I") (by decide +kernel)
  have hR : R ≤ 10 := hok.2.1
  refine lv_aload_n hx hb dX1_by_0 rfl (lv_at hl 0 rfl) ?_
  refine x1_get (v := .ref (ad 1)) S0 hin hK hP 1 (by decide) f_wireOf rfl rfl dX1_by_1 ?_
  refine lv_iconst (v := 4) hx hb dX1_by_4 (by decide) ?_
  refine lv_iload_n hx hb dX1_by_5 rfl (lv_at hl 1 rfl) ?_
  refine lv_imul hx hb dX1_by_6 ?_
  refine lv_iload_n hx hb dX1_by_7 rfl (lv_at hl 2 rfl) ?_
  refine lv_iadd hx hb dX1_by_8 ?_
  refine xt_eq (z := nI (4 * r + p9)) (nI_lp _ _) ?_
  refine va_iald hx hb hK hP 1 0 rfl rfl (vp_in_nI (by omega) (by omega)) dX1_by_9 ?_
  refine xt_eq (z := w (4 * r + p9)) (congrArg w (nI_clamp (by omega))) ?_
  refine lv_istore (lv' := [(4, .int (w (4 * r + p9))), (0, .ref (ad 0)), (1, .int (nI r)), (2, .int (nI p9)), (3, .int (nI q))]) hx hb dX1_by_10 hl (by decide) rfl (fun ls hl => ?_)
  refine lv_iload hx hb dX1_by_12 (lv_at hl 0 rfl) ?_
  refine lv_iconst (v := (-1)) hx hb dX1_by_14 (by decide) ?_
  refine lv_icmp_eq (tgt := 44) hx hb dX1_by_15 (by decide) (fun c_1 => ?_) (fun c_1 => ?_)
  · have hne : ¬ (ww_E R w k r p9 q ∧ dn q < 100000) := fun h => by_m1 c_1 h.1
    refine lv_ldc (v := 100000) hx hb hown (hts (.constant RX1 42 100000) (by decide +kernel)) dX1_by_44 ?_
    exact xr_i hx hb hr hlocks () ⟨100000, rfl, Or.inr ⟨hne, rfl⟩⟩ hP hK hD hS dX1_by_46
  · obtain ⟨x, hx6, ex⟩ := (hok.2.2.1 (4 * r + p9) (by omega)).resolve_left c_1
    refine lv_aload_n hx hb dX1_by_18 rfl (lv_at hl 1 rfl) ?_
    refine x1_get (v := .ref (ad 3)) S0 hin hK hP 3 (by decide) f_isCut rfl rfl dX1_by_19 ?_
    refine lv_iload hx hb dX1_by_22 (lv_at hl 0 rfl) ?_
    refine va_zald hx hb hK hP 3 2 rfl rfl (ex_in ex (by omega) (by omega)) dX1_by_24 ?_
    refine xt_eq (z := k x) (congrArg k (ex_cl ex (by omega))) ?_
    refine lv_if_ne (tgt := 44) hx hb dX1_by_25 (by decide) (fun c_2 => ?_) (fun c_2 => ?_)
    · have hne : ¬ (ww_E R w k r p9 q ∧ dn q < 100000) := fun h => c_2 (by_x hx6 ex h.1).1
      refine lv_ldc (v := 100000) hx hb hown (hts (.constant RX1 42 100000) (by decide +kernel)) dX1_by_44 ?_
      exact xr_i hx hb hr hlocks () ⟨100000, rfl, Or.inr ⟨hne, rfl⟩⟩ hP hK hD hS dX1_by_46
    · have hk0 := c_2
      refine lv_iload_n hx hb dX1_by_28 rfl (lv_at hl 4 rfl) ?_
      refine lv_iload_n hx hb dX1_by_29 rfl (lv_at hl 2 rfl) ?_
      refine lv_icmp_eq (tgt := 44) hx hb dX1_by_30 (by decide) (fun c_3 => ?_) (fun c_3 => ?_)
      · have hne : ¬ (ww_E R w k r p9 q ∧ dn q < 100000) := fun h => (by_x hx6 ex h.1).2.1 ((nI_eq (by omega) (by omega)).mp c_3)
        refine lv_ldc (v := 100000) hx hb hown (hts (.constant RX1 42 100000) (by decide +kernel)) dX1_by_44 ?_
        exact xr_i hx hb hr hlocks () ⟨100000, rfl, Or.inr ⟨hne, rfl⟩⟩ hP hK hD hS dX1_by_46
      · have hqr : q ≠ r := fun h => c_3 (congrArg nI h)
        refine lv_aload_n hx hb dX1_by_33 rfl (lv_at hl 1 rfl) ?_
        refine lv_iload_n hx hb dX1_by_34 rfl (lv_at hl 4 rfl) ?_
        refine lv_iload hx hb dX1_by_35 (lv_at hl 0 rfl) ?_
        refine xs_Vi (wr := []) (q0 := 0) (ci := 1) (nA := 2) (As := [.int (nI q), .int (w (4 * r + p9))]) (rest := []) S0 (k_X1_portOn l D ad tt R w c k d wp wr q (w (4 * r + p9)) (by omega)) gX1_by_X1_portOn rfl ⟨rfl, rfl⟩ (by decide +kernel) rfl ⟨Nat.le_of_ble_eq_true rfl, Nat.le_of_ble_eq_true rfl⟩ ⟨Nat.le_of_ble_eq_true rfl, Nat.le_of_ble_eq_true rfl⟩ hK hP hD hS hA [0, 1, 2, 3, 4] [] rfl rfl (by decide) (by decide) (by decide) rfl rfl rfl hl.1 rfl (Nat.le_of_ble_eq_true rfl) dX1_by_37 (fun r_4 u H locs hw hP hD hS => ?_)
        have hP : va_P D vwCl (mw ad tt R w c k d wp wr) H := hP
        have hD : va_D A (mw ad tt R w c k d wp wr) := hD
        have h_po := hw
        refine lv_iconst (v := (-1)) hx hb dX1_by_40 (by decide) ?_
        refine lv_icmp_ne (tgt := 47) hx hb dX1_by_41 (by decide) (fun c_5 => ?_) (fun c_5 => ?_)
        · have hE : ww_E R w k r p9 q := ⟨hrR, hp4, hqR, hqr, x, hx6, ex, hk0, by rw [← ex]; exact ww_on_of (v := 0) h_po c_5⟩
          have hcc := ww_c_ok hok hrR hp4 hx6 ex
          have hdq := hd q hqR
          refine lv_aload_n hx hb dX1_by_47 rfl (lv_at hl 1 rfl) ?_
          refine x1_get (v := .ref (ad 4)) S0 hin hK hP 4 (by decide) f_distance rfl rfl dX1_by_48 ?_
          refine lv_iload_n hx hb dX1_by_51 rfl (lv_at hl 4 rfl) ?_
          refine va_iald hx hb hK hP 4 3 rfl rfl (vp_in_nI (by omega) (by omega)) dX1_by_52 ?_
          refine xt_eq (z := d q) (congrArg d (nI_clamp (by omega))) ?_
          refine xt_eq (z := nI (dn q)) hdq.1 ?_
          refine lv_ldc (v := 100000) hx hb hown (hts (.constant RX1 42 100000) (by decide +kernel)) dX1_by_53 ?_
          refine lv_icmp_lt (tgt := 63) hx hb dX1_by_55 (by decide) (fun c_6 => ?_) (fun c_6 => ?_)
          · have hlt : dn q < 100000 := (nI_ltI (b := 100000) (by omega) (by omega)).mp c_6
            refine lv_aload_n hx hb dX1_by_63 rfl (lv_at hl 1 rfl) ?_
            refine x1_get (v := .ref (ad 2)) S0 hin hK hP 2 (by decide) f_costOf rfl rfl dX1_by_64 ?_
            refine lv_iconst (v := 4) hx hb dX1_by_67 (by decide) ?_
            refine lv_iload_n hx hb dX1_by_68 rfl (lv_at hl 2 rfl) ?_
            refine lv_imul hx hb dX1_by_69 ?_
            refine lv_iload_n hx hb dX1_by_70 rfl (lv_at hl 3 rfl) ?_
            refine lv_iadd hx hb dX1_by_71 ?_
            refine xt_eq (z := nI (4 * r + p9)) (nI_lp _ _) ?_
            refine va_iald hx hb hK hP 2 1 rfl rfl (vp_in_nI (by omega) (by omega)) dX1_by_72 ?_
            refine xt_eq (z := c (4 * r + p9)) (congrArg c (nI_clamp (by omega))) ?_
            refine xt_eq (z := nI (ww_c c r p9)) hcc.1 ?_
            refine lv_aload_n hx hb dX1_by_73 rfl (lv_at hl 1 rfl) ?_
            refine x1_get (v := .ref (ad 4)) S0 hin hK hP 4 (by decide) f_distance rfl rfl dX1_by_74 ?_
            refine lv_iload_n hx hb dX1_by_77 rfl (lv_at hl 4 rfl) ?_
            refine va_iald hx hb hK hP 4 3 rfl rfl (vp_in_nI (by omega) (by omega)) dX1_by_78 ?_
            refine xt_eq (z := d q) (congrArg d (nI_clamp (by omega))) ?_
            refine xt_eq (z := nI (dn q)) hdq.1 ?_
            refine lv_iadd hx hb dX1_by_79 ?_
            refine xt_eq (z := nI (ww_c c r p9 + dn q)) (nI_add _ _) ?_
            exact xr_i hx hb hr hlocks () ⟨_, rfl, Or.inl ⟨hE, hlt, rfl⟩⟩ hP hK hD hS dX1_by_80
          · have hne : ¬ (ww_E R w k r p9 q ∧ dn q < 100000) := fun h => c_6 (nI_lt (b := 100000) h.2 (by omega))
            refine lv_ldc (v := 100000) hx hb hown (hts (.constant RX1 42 100000) (by decide +kernel)) dX1_by_58 ?_
            refine lv_goto (tgt := 80) hx hb dX1_by_60 (by decide) ?_
            exact xr_i hx hb hr hlocks () ⟨100000, rfl, Or.inr ⟨hne, rfl⟩⟩ hP hK hD hS dX1_by_80
        · have hne : ¬ (ww_E R w k r p9 q ∧ dn q < 100000) := fun h => (ww_po_on h_po).mp c_5 (by_x hx6 ex h.1).2.2
          refine lv_ldc (v := 100000) hx hb hown (hts (.constant RX1 42 100000) (by decide +kernel)) dX1_by_44 ?_
          exact xr_i hx hb hr hlocks () ⟨100000, rfl, Or.inr ⟨hne, rfl⟩⟩ hP hK hD hS dX1_by_46
set_option maxHeartbeats 4000000 in
set_option maxRecDepth 100000 in
theorem k_X1_reckon (l : Launch) (D : va_G) (ad : Nat → Nat) (tt : Nat → ClassId) (R : Nat) (w c k d : Nat → Int32) (wp wr : Int32) (hok : ww_ok R w c) (ov : Int32) (t : Nat) (ht : t < 16) (T0 : Nat → Nat) (hT0 : dm_ok R (ww_tg w k ov t) (ww_E R w k) (ww_c c) 100000 T0) : xMv l yX1_reckon wsX1_reckon { frames := 2, cells := 0, slots := 0, locals := 47 } D (tyM tt) [.ref (ad 0), .int ov, .int (nI t)] (mw ad tt R w c k d wp wr) (fun u : Nat → Int32 => mw ad tt R w c k u wp wr) (fun u => ∀ a, a < R → u a = nI (T0 a)) := by
  refine xe_v (cc := cX1_reckon) (maxL := 7) (ret := none) (lvl := [(0, .ref (ad 0)), (1, .int ov), (2, .int (nI t))]) (by decide) rfl (Nat.le_of_ble_eq_true rfl) rfl ?_
  intro p e s m below meth cd A ls hx hb hr hlocks hml hown hts hA hP hK hD hS hl
  have hin : ∀ w ∈ wsX10, w ∈ wsX1_reckon := fun _ h => List.mem_cons_of_mem _ (List.mem_append_right _ h)
  have S0 : CallFix p m cd cX1_reckon 7 s (([.ref (ad 0), .int ov, .int (nI t)] : List Value).toArray) wsX1_reckon RX1 := ⟨hx, hb, hml, hown, hts⟩
  obtain ⟨H, hH⟩ : ∃ H, H = s.heap := ⟨_, rfl⟩
  obtain ⟨locs, hlocs⟩ : ∃ q : List Loc, q = [] := ⟨_, rfl⟩
  have hP : va_P D vwCl (mw ad tt R w c k d wp wr) H := by rw [hH]; exact hP
  have hS : va_S A s.heap H locs := by rw [hH, hlocs]; exact hS
  suffices hgo : W p l e (headSpec wsX1_reckon ({ frames := 2, cells := 0, slots := 0, locals := 47 } : Room)).room s m (([.ref (ad 0), .int ov, .int (nI t)] : List Value).toArray) below meth cd H locs 0 0 (MQ below (va_Qv (fun u => ∀ a, a < R → u a = nI (T0 a)) (xB D (tyM tt) A (fun u : Nat → Int32 => mw ad tt R w c k u wp wr)) A) ([.ref (ad 0), .int ov, .int (nI t)] : List Value).toArray s 0 0 A) (F0 m 0 ls []) by rw [hH, hlocs] at hgo; exact hgo
  clear hH hlocs
  have f_distance := hts (.fieldLink RX1 20 "WireWaysModel" "distance" "[I") (by decide +kernel)
  have f_routers := hts (.fieldLink RX1 23 "WireWaysModel" "routers" "I") (by decide +kernel)
  have hR : R ≤ 10 := hok.2.1
  have hR1 : 1 ≤ R := hok.1
  refine lv_iconst (v := 0) hx hb dX1_reckon_0 (by decide) ?_
  refine lv_istore_n (lv' := [(3, .int 0), (0, .ref (ad 0)), (1, .int ov), (2, .int (nI t))]) hx hb dX1_reckon_1 rfl hl (by decide) rfl (fun ls hl => ?_)
  have lp2 : ∀ (fuel : Nat) (r : Nat) (d1 : Nat → Int32), (r ≤ R) → (∀ a, a < r → (ww_tg w k ov t a → d1 a = nI 0) ∧ (¬ ww_tg w k ov t a → d1 a = nI 100000)) → R - r < fuel → ∀ (H : Heap) (locs : List Loc) (ls : Array Slot), va_P D vwCl (mw ad tt R w c k d1 wp wr) H → va_D A (mw ad tt R w c k d1 wp wr) → va_S A s.heap H locs → lv_has ls 7 [(3, .int (nI r)), (0, .ref (ad 0)), (1, .int ov), (2, .int (nI t))] → W p l e (headSpec wsX1_reckon ({ frames := 2, cells := 0, slots := 0, locals := 47 } : Room)).room s m ([.ref (ad 0), .int ov, .int (nI t)] : List Value).toArray below meth cd H locs 0 0 (MQ below (va_Qv (fun u => ∀ a, a < R → u a = nI (T0 a)) (xB D (tyM tt) A (fun u : Nat → Int32 => mw ad tt R w c k u wp wr)) A) ([.ref (ad 0), .int ov, .int (nI t)] : List Value).toArray s 0 0 A) (F0 m 2 ls []) := by
    intro fuel
    induction fuel with
    | zero => intro r d1 hr0 hd1 hm; exact absurd hm (Nat.not_lt_zero _)
    | succ fuel ih2 =>
      intro r d1 hr0 hd1 hm H locs ls hP hD hS hl
      refine lv_iload_n hx hb dX1_reckon_2 rfl (lv_at hl 0 rfl) ?_
      refine lv_aload_n hx hb dX1_reckon_3 rfl (lv_at hl 1 rfl) ?_
      refine x1_get (v := .int (nI R)) S0 hin hK hP 0 (by decide) f_routers rfl rfl dX1_reckon_4 ?_
      refine lv_icmp_ge (tgt := 38) hx hb dX1_reckon_7 (by decide) (fun c_1 => ?_) (fun c_1 => ?_)
      · have hrR : R ≤ r := (nI_leI (by omega) (by omega)).mp c_1
        obtain ⟨dn, hrw⟩ := rk_init hT0 (fun a ha => hd1 a (by omega))
        refine lv_iconst (v := 1) hx hb dX1_reckon_38 (by decide) ?_
        refine lv_istore_n (lv' := [(3, .int 1), (0, .ref (ad 0)), (1, .int ov), (2, .int (nI t))]) hx hb dX1_reckon_39 rfl hl (by decide) rfl (fun ls hl => ?_)
        have lp40 : ∀ (fuel : Nat) (b : Nat) (d2 : Nat → Int32) (dn : Nat → Nat), (rk_row R (ww_tg w k ov t) T0 d2 dn) → ((b = 0 ∧ ∀ a, a < R → dn a = T0 a) ∨ b = 1) → 2 * dm_sum dn R + b < fuel → ∀ (H : Heap) (locs : List Loc) (ls : Array Slot), va_P D vwCl (mw ad tt R w c k d2 wp wr) H → va_D A (mw ad tt R w c k d2 wp wr) → va_S A s.heap H locs → lv_has ls 7 [(3, .int (nI b)), (0, .ref (ad 0)), (1, .int ov), (2, .int (nI t))] → W p l e (headSpec wsX1_reckon ({ frames := 2, cells := 0, slots := 0, locals := 47 } : Room)).room s m ([.ref (ad 0), .int ov, .int (nI t)] : List Value).toArray below meth cd H locs 0 0 (MQ below (va_Qv (fun u => ∀ a, a < R → u a = nI (T0 a)) (xB D (tyM tt) A (fun u : Nat → Int32 => mw ad tt R w c k u wp wr)) A) ([.ref (ad 0), .int ov, .int (nI t)] : List Value).toArray s 0 0 A) (F0 m 40 ls []) := by
          intro fuel
          induction fuel with
          | zero => intro b d2 dn hrw hbz hm; exact absurd hm (Nat.not_lt_zero _)
          | succ fuel ih40 =>
            intro b d2 dn hrw hbz hm H locs ls hP hD hS hl
            refine lv_iload_n hx hb dX1_reckon_40 rfl (lv_at hl 0 rfl) ?_
            refine lv_if_eq (tgt := 162) hx hb dX1_reckon_41 (by decide) (fun c_2 => ?_) (fun c_2 => ?_)
            · have hb0 : b = 0 := (nI_eq (b := 0) (by omega) (by omega)).mp c_2
              have hend : ∀ a, a < R → dn a = T0 a := by
                rcases hbz with h | h
                · exact h.2
                · omega
              exact xr_v hx hb hr hlocks d2 (fun a h => by rw [← hend a h]; exact (hrw.1 a h).1) hP hK hD hS dX1_reckon_162
            · have hb1 : b = 1 := by
                rcases hbz with h | h
                · exact absurd (by rw [h.1]; rfl) c_2
                · exact h
              refine lv_iconst (v := 0) hx hb dX1_reckon_44 (by decide) ?_
              refine lv_istore_n (lv' := [(3, .int 0), (0, .ref (ad 0)), (1, .int ov), (2, .int (nI t))]) hx hb dX1_reckon_45 rfl hl (by decide) rfl (fun ls hl => ?_)
              refine lv_iconst (v := 0) hx hb dX1_reckon_46 (by decide) ?_
              refine lv_istore (lv' := [(4, .int 0), (3, .int 0), (0, .ref (ad 0)), (1, .int ov), (2, .int (nI t))]) hx hb dX1_reckon_47 hl (by decide) rfl (fun ls hl => ?_)
              have lp49 : ∀ (fuel : Nat) (r : Nat) (b2 : Nat) (d3 : Nat → Int32) (dm : Nat → Nat), (r ≤ R) → (rk_row R (ww_tg w k ov t) T0 d3 dm) → (rk_in R w c k dn dm b2 (fun a _ _ => a < r)) → R - r < fuel → ∀ (H : Heap) (locs : List Loc) (ls : Array Slot), va_P D vwCl (mw ad tt R w c k d3 wp wr) H → va_D A (mw ad tt R w c k d3 wp wr) → va_S A s.heap H locs → lv_has ls 7 [(4, .int (nI r)), (3, .int (nI b2)), (0, .ref (ad 0)), (1, .int ov), (2, .int (nI t))] → W p l e (headSpec wsX1_reckon ({ frames := 2, cells := 0, slots := 0, locals := 47 } : Room)).room s m ([.ref (ad 0), .int ov, .int (nI t)] : List Value).toArray below meth cd H locs 0 0 (MQ below (va_Qv (fun u => ∀ a, a < R → u a = nI (T0 a)) (xB D (tyM tt) A (fun u : Nat → Int32 => mw ad tt R w c k u wp wr)) A) ([.ref (ad 0), .int ov, .int (nI t)] : List Value).toArray s 0 0 A) (F0 m 49 ls []) := by
                intro fuel
                induction fuel with
                | zero => intro r b2 d3 dm hr0 hrw3 hri hm; exact absurd hm (Nat.not_lt_zero _)
                | succ fuel ih49 =>
                  intro r b2 d3 dm hr0 hrw3 hri hm H locs ls hP hD hS hl
                  refine lv_iload hx hb dX1_reckon_49 (lv_at hl 0 rfl) ?_
                  refine lv_aload_n hx hb dX1_reckon_51 rfl (lv_at hl 2 rfl) ?_
                  refine x1_get (v := .int (nI R)) S0 hin hK hP 0 (by decide) f_routers rfl rfl dX1_reckon_52 ?_
                  refine lv_icmp_ge (tgt := 159) hx hb dX1_reckon_55 (by decide) (fun c_3 => ?_) (fun c_3 => ?_)
                  · have hrR : R ≤ r := (nI_leI (by omega) (by omega)).mp c_3
                    refine lv_goto (tgt := 40) hx hb dX1_reckon_159 (by decide) ?_
                    exact ih40 b2 d3 dm hrw3 (rk_b0 hok hT0 hrw3 hri (by omega)) (rk_mu hri (by omega)) H locs ls hP hD hS (lv_sub hl [1, 2, 3, 4] rfl)
                  · have hrR : r < R := Nat.lt_of_not_le (fun h => c_3 (nI_le h (by omega)))
                    refine lv_iconst (v := 0) hx hb dX1_reckon_58 (by decide) ?_
                    refine lv_istore (lv' := [(5, .int 0), (4, .int (nI r)), (3, .int (nI b2)), (0, .ref (ad 0)), (1, .int ov), (2, .int (nI t))]) hx hb dX1_reckon_59 hl (by decide) rfl (fun ls hl => ?_)
                    have lp61 : ∀ (fuel : Nat) (κ : Nat) (b3 : Nat) (d4 : Nat → Int32) (dp : Nat → Nat), (κ ≤ 4 * R) → (rk_row R (ww_tg w k ov t) T0 d4 dp) → (rk_in R w c k dn dp b3 (fun a p q => a < r ∨ (a = r ∧ p * R + q < κ))) → 4 * R - κ < fuel → ∀ (H : Heap) (locs : List Loc) (ls : Array Slot), va_P D vwCl (mw ad tt R w c k d4 wp wr) H → va_D A (mw ad tt R w c k d4 wp wr) → va_S A s.heap H locs → lv_has ls 7 [(5, .int (nI κ)), (4, .int (nI r)), (3, .int (nI b3)), (0, .ref (ad 0)), (1, .int ov), (2, .int (nI t))] → W p l e (headSpec wsX1_reckon ({ frames := 2, cells := 0, slots := 0, locals := 47 } : Room)).room s m ([.ref (ad 0), .int ov, .int (nI t)] : List Value).toArray below meth cd H locs 0 0 (MQ below (va_Qv (fun u => ∀ a, a < R → u a = nI (T0 a)) (xB D (tyM tt) A (fun u : Nat → Int32 => mw ad tt R w c k u wp wr)) A) ([.ref (ad 0), .int ov, .int (nI t)] : List Value).toArray s 0 0 A) (F0 m 61 ls []) := by
                      intro fuel
                      induction fuel with
                      | zero => intro κ b3 d4 dp hκ0 hrw4 hrj hm; exact absurd hm (Nat.not_lt_zero _)
                      | succ fuel ih61 =>
                        intro κ b3 d4 dp hκ0 hrw4 hrj hm H locs ls hP hD hS hl
                        refine lv_iload hx hb dX1_reckon_61 (lv_at hl 0 rfl) ?_
                        refine lv_iconst (v := 4) hx hb dX1_reckon_63 (by decide) ?_
                        refine lv_aload_n hx hb dX1_reckon_64 rfl (lv_at hl 3 rfl) ?_
                        refine x1_get (v := .int (nI R)) S0 hin hK hP 0 (by decide) f_routers rfl rfl dX1_reckon_65 ?_
                        refine lv_imul hx hb dX1_reckon_68 ?_
                        refine xt_eq (z := nI (4 * R)) (pk_mul 4 R) ?_
                        refine lv_icmp_ge (tgt := 153) hx hb dX1_reckon_69 (by decide) (fun c_4 => ?_) (fun c_4 => ?_)
                        · have hκ : 4 * R ≤ κ := (nI_leI (by omega) (by omega)).mp c_4
                          refine lv_iinc (v := nI (r + 1)) (lv' := [(4, .int (nI (r + 1))), (5, .int (nI κ)), (3, .int (nI b3)), (0, .ref (ad 0)), (1, .int ov), (2, .int (nI t))]) hx hb dX1_reckon_153 hl (k := 1) rfl (nI_1 r) (by decide) rfl (fun ls hl => ?_)
                          refine lv_goto (tgt := 49) hx hb dX1_reckon_156 (by decide) ?_
                          exact ih49 (r + 1) b3 d4 dp (by omega) hrw4 (rk_V hrj (fun a p q ha hp hq h => by have h9 := pr_lt hp hq; omega)) (by omega) H locs ls hP hD hS (lv_sub hl [0, 2, 3, 4, 5] rfl)
                        · have hκ : κ < 4 * R := Nat.lt_of_not_le (fun h => c_4 (nI_le h (by omega)))
                          have hdr := hrw4.1 r hrR
                          refine lv_aload_n hx hb dX1_reckon_72 rfl (lv_at hl 3 rfl) ?_
                          refine lv_iload hx hb dX1_reckon_73 (lv_at hl 1 rfl) ?_
                          refine lv_iload hx hb dX1_reckon_75 (lv_at hl 0 rfl) ?_
                          refine lv_aload_n hx hb dX1_reckon_77 rfl (lv_at hl 3 rfl) ?_
                          refine x1_get (v := .int (nI R)) S0 hin hK hP 0 (by decide) f_routers rfl rfl dX1_reckon_78 ?_
                          refine lv_idiv hx hb dX1_reckon_81 (nI_ne0 (by omega) (by omega)) ?_
                          refine xt_eq (z := nI (κ / R)) (pk_div (by omega) (by omega) (by omega)) ?_
                          refine lv_iload hx hb dX1_reckon_82 (lv_at hl 0 rfl) ?_
                          refine lv_aload_n hx hb dX1_reckon_84 rfl (lv_at hl 3 rfl) ?_
                          refine x1_get (v := .int (nI R)) S0 hin hK hP 0 (by decide) f_routers rfl rfl dX1_reckon_85 ?_
                          refine lv_irem hx hb dX1_reckon_88 (nI_ne0 (by omega) (by omega)) ?_
                          refine xt_eq (z := nI (κ % R)) (pk_rem (by omega) (by omega) (by omega)) ?_
                          refine xs_Vi (wr := []) (q0 := 0) (ci := 1) (nA := 3) (As := [.int (nI r), .int (nI (κ / R)), .int (nI (κ % R))]) (rest := []) S0 (k_X1_by l D ad tt R w c k d4 wp wr hok dp hrw4.1 r (κ / R) (κ % R) hrR (pr_4 hκ) (Nat.mod_lt _ (by omega))) gX1_reckon_X1_by rfl ⟨rfl, rfl⟩ (by decide +kernel) rfl ⟨Nat.le_of_ble_eq_true rfl, Nat.le_of_ble_eq_true rfl⟩ ⟨Nat.le_of_ble_eq_true rfl, Nat.le_of_ble_eq_true rfl⟩ hK hP hD hS hA [0, 1, 2, 3, 4] [] rfl rfl (by decide) (by decide) (by decide) rfl rfl rfl hl.1 rfl (Nat.le_of_ble_eq_true rfl) dX1_reckon_89 (fun r_5 u H locs hw hP hD hS => ?_)
                          have hP : va_P D vwCl (mw ad tt R w c k d4 wp wr) H := hP
                          have hD : va_D A (mw ad tt R w c k d4 wp wr) := hD
                          obtain ⟨dv, rfl, hdv⟩ := hw
                          have hdvb := by_le hok hdv
                          refine lv_istore (lv' := [(6, .int (nI dv)), (5, .int (nI κ)), (4, .int (nI r)), (3, .int (nI b3)), (0, .ref (ad 0)), (1, .int ov), (2, .int (nI t))]) hx hb dX1_reckon_92 hl (by decide) rfl (fun ls hl => ?_)
                          refine lv_iload_n hx hb dX1_reckon_94 rfl (lv_at hl 3 rfl) ?_
                          refine lv_if_ne (tgt := 110) hx hb dX1_reckon_95 (by decide) (fun c_6 => ?_) (fun c_6 => ?_)
                          · have hb3 : b3 = 1 := rk_b1 hrj (fun h => c_6 (by rw [h]; rfl))
                            refine lv_iconst (v := 1) hx hb dX1_reckon_110 (by decide) ?_
                            refine lv_goto (tgt := 115) hx hb dX1_reckon_111 (by decide) ?_
                            refine lv_istore_n (lv' := [(3, .int 1), (6, .int (nI dv)), (5, .int (nI κ)), (4, .int (nI r)), (0, .ref (ad 0)), (1, .int ov), (2, .int (nI t))]) hx hb dX1_reckon_115 rfl hl (by decide) rfl (fun ls hl => ?_)
                            refine lv_aload_n hx hb dX1_reckon_116 rfl (lv_at hl 4 rfl) ?_
                            refine x1_get (v := .ref (ad 4)) S0 hin hK hP 4 (by decide) f_distance rfl rfl dX1_reckon_117 ?_
                            refine lv_iload hx hb dX1_reckon_120 (lv_at hl 3 rfl) ?_
                            refine lv_iload hx hb dX1_reckon_122 (lv_at hl 1 rfl) ?_
                            refine lv_aload_n hx hb dX1_reckon_124 rfl (lv_at hl 4 rfl) ?_
                            refine x1_get (v := .ref (ad 4)) S0 hin hK hP 4 (by decide) f_distance rfl rfl dX1_reckon_125 ?_
                            refine lv_iload hx hb dX1_reckon_128 (lv_at hl 3 rfl) ?_
                            refine va_iald hx hb hK hP 4 3 rfl rfl (vp_in_nI (by omega) (by omega)) dX1_reckon_130 ?_
                            refine xt_eq (z := d4 r) (congrArg d4 (nI_clamp (by omega))) ?_
                            refine xt_eq (z := nI (dp r)) hdr.1 ?_
                            refine lv_icmp_ge (tgt := 139) hx hb dX1_reckon_131 (by decide) (fun c_7 => ?_) (fun c_7 => ?_)
                            · have hcmp : dp r ≤ dv := (nI_leI (by omega) (by omega)).mp c_7
                              refine lv_aload_n hx hb dX1_reckon_139 rfl (lv_at hl 4 rfl) ?_
                              refine x1_get (v := .ref (ad 4)) S0 hin hK hP 4 (by decide) f_distance rfl rfl dX1_reckon_140 ?_
                              refine lv_iload hx hb dX1_reckon_143 (lv_at hl 3 rfl) ?_
                              refine va_iald hx hb hK hP 4 3 rfl rfl (vp_in_nI (by omega) (by omega)) dX1_reckon_145 ?_
                              refine xt_eq (z := d4 r) (congrArg d4 (nI_clamp (by omega))) ?_
                              refine xt_eq (z := nI (dp r)) hdr.1 ?_
                              refine va_iast hx hb hK hP hD hS 4 3 rfl rfl (vp_in_nI (by omega) (by omega)) dX1_reckon_146 (fun H locs hP hD hS => ?_)
                              rw [(nI_clamp (by omega))] at hP hD
                              have hP : va_P D vwCl (mw ad tt R w c k (upd d4 r (nI (dp r))) wp wr) H := hP
                              have hD : va_D A (mw ad tt R w c k (upd d4 r (nI (dp r))) wp wr) := hD
                              refine lv_iinc (v := nI (κ + 1)) (lv' := [(5, .int (nI (κ + 1))), (3, .int 1), (6, .int (nI dv)), (4, .int (nI r)), (0, .ref (ad 0)), (1, .int ov), (2, .int (nI t))]) hx hb dX1_reckon_147 hl (k := 2) rfl (nI_1 κ) (by decide) rfl (fun ls hl => ?_)
                              refine lv_goto (tgt := 61) hx hb dX1_reckon_150 (by decide) ?_
                              exact ih61 (κ + 1) 1 _ dp (by omega) (rk_same hrw4 hrR) (by rw [hb3] at hrj; exact rk_keep (by omega) hrj hrR (fun a ha => (hrw4.1 a ha).2) hdv hcmp) (by omega) H locs ls hP hD hS (lv_sub hl [0, 3, 1, 4, 5, 6] rfl)
                            · have hcmp : dv < dp r := Nat.lt_of_not_le (fun h => c_7 (nI_le h (by omega)))
                              refine lv_iload hx hb dX1_reckon_134 (lv_at hl 1 rfl) ?_
                              refine lv_goto (tgt := 146) hx hb dX1_reckon_136 (by decide) ?_
                              refine va_iast hx hb hK hP hD hS 4 3 rfl rfl (vp_in_nI (by omega) (by omega)) dX1_reckon_146 (fun H locs hP hD hS => ?_)
                              rw [(nI_clamp (by omega))] at hP hD
                              have hP : va_P D vwCl (mw ad tt R w c k (upd d4 r (nI dv)) wp wr) H := hP
                              have hD : va_D A (mw ad tt R w c k (upd d4 r (nI dv)) wp wr) := hD
                              refine lv_iinc (v := nI (κ + 1)) (lv' := [(5, .int (nI (κ + 1))), (3, .int 1), (6, .int (nI dv)), (4, .int (nI r)), (0, .ref (ad 0)), (1, .int ov), (2, .int (nI t))]) hx hb dX1_reckon_147 hl (k := 2) rfl (nI_1 κ) (by decide) rfl (fun ls hl => ?_)
                              refine lv_goto (tgt := 61) hx hb dX1_reckon_150 (by decide) ?_
                              exact ih61 (κ + 1) 1 _ (nup dp r dv) (by omega) (rk_put hok hT0 hrw4 hrR hdv hcmp) (rk_less hrj hrR hcmp _) (by omega) H locs ls hP hD hS (lv_sub hl [0, 3, 1, 4, 5, 6] rfl)
                          · have hb3 : b3 = 0 := (nI_eq (b := 0) (by have := rk_b2 hrj; omega) (by omega)).mp c_6
                            refine lv_iload hx hb dX1_reckon_98 (lv_at hl 0 rfl) ?_
                            refine lv_aload_n hx hb dX1_reckon_100 rfl (lv_at hl 4 rfl) ?_
                            refine x1_get (v := .ref (ad 4)) S0 hin hK hP 4 (by decide) f_distance rfl rfl dX1_reckon_101 ?_
                            refine lv_iload hx hb dX1_reckon_104 (lv_at hl 2 rfl) ?_
                            refine va_iald hx hb hK hP 4 3 rfl rfl (vp_in_nI (by omega) (by omega)) dX1_reckon_106 ?_
                            refine xt_eq (z := d4 r) (congrArg d4 (nI_clamp (by omega))) ?_
                            refine xt_eq (z := nI (dp r)) hdr.1 ?_
                            refine lv_icmp_ge (tgt := 114) hx hb dX1_reckon_107 (by decide) (fun c_8 => ?_) (fun c_8 => ?_)
                            · have hcmp : dp r ≤ dv := (nI_leI (by omega) (by omega)).mp c_8
                              refine lv_iconst (v := 0) hx hb dX1_reckon_114 (by decide) ?_
                              refine lv_istore_n (lv' := [(3, .int 0), (6, .int (nI dv)), (5, .int (nI κ)), (4, .int (nI r)), (0, .ref (ad 0)), (1, .int ov), (2, .int (nI t))]) hx hb dX1_reckon_115 rfl hl (by decide) rfl (fun ls hl => ?_)
                              refine lv_aload_n hx hb dX1_reckon_116 rfl (lv_at hl 4 rfl) ?_
                              refine x1_get (v := .ref (ad 4)) S0 hin hK hP 4 (by decide) f_distance rfl rfl dX1_reckon_117 ?_
                              refine lv_iload hx hb dX1_reckon_120 (lv_at hl 3 rfl) ?_
                              refine lv_iload hx hb dX1_reckon_122 (lv_at hl 1 rfl) ?_
                              refine lv_aload_n hx hb dX1_reckon_124 rfl (lv_at hl 4 rfl) ?_
                              refine x1_get (v := .ref (ad 4)) S0 hin hK hP 4 (by decide) f_distance rfl rfl dX1_reckon_125 ?_
                              refine lv_iload hx hb dX1_reckon_128 (lv_at hl 3 rfl) ?_
                              refine va_iald hx hb hK hP 4 3 rfl rfl (vp_in_nI (by omega) (by omega)) dX1_reckon_130 ?_
                              refine xt_eq (z := d4 r) (congrArg d4 (nI_clamp (by omega))) ?_
                              refine xt_eq (z := nI (dp r)) hdr.1 ?_
                              refine lv_icmp_ge (tgt := 139) hx hb dX1_reckon_131 (by decide) (fun c_9 => ?_) (fun c_9 => by exact absurd (nI_le hcmp (by omega)) c_9)
                              refine lv_aload_n hx hb dX1_reckon_139 rfl (lv_at hl 4 rfl) ?_
                              refine x1_get (v := .ref (ad 4)) S0 hin hK hP 4 (by decide) f_distance rfl rfl dX1_reckon_140 ?_
                              refine lv_iload hx hb dX1_reckon_143 (lv_at hl 3 rfl) ?_
                              refine va_iald hx hb hK hP 4 3 rfl rfl (vp_in_nI (by omega) (by omega)) dX1_reckon_145 ?_
                              refine xt_eq (z := d4 r) (congrArg d4 (nI_clamp (by omega))) ?_
                              refine xt_eq (z := nI (dp r)) hdr.1 ?_
                              refine va_iast hx hb hK hP hD hS 4 3 rfl rfl (vp_in_nI (by omega) (by omega)) dX1_reckon_146 (fun H locs hP hD hS => ?_)
                              rw [(nI_clamp (by omega))] at hP hD
                              have hP : va_P D vwCl (mw ad tt R w c k (upd d4 r (nI (dp r))) wp wr) H := hP
                              have hD : va_D A (mw ad tt R w c k (upd d4 r (nI (dp r))) wp wr) := hD
                              refine lv_iinc (v := nI (κ + 1)) (lv' := [(5, .int (nI (κ + 1))), (3, .int 0), (6, .int (nI dv)), (4, .int (nI r)), (0, .ref (ad 0)), (1, .int ov), (2, .int (nI t))]) hx hb dX1_reckon_147 hl (k := 2) rfl (nI_1 κ) (by decide) rfl (fun ls hl => ?_)
                              refine lv_goto (tgt := 61) hx hb dX1_reckon_150 (by decide) ?_
                              exact ih61 (κ + 1) 0 _ dp (by omega) (rk_same hrw4 hrR) (by rw [hb3] at hrj; exact rk_keep (by omega) hrj hrR (fun a ha => (hrw4.1 a ha).2) hdv hcmp) (by omega) H locs ls hP hD hS (lv_sub hl [0, 3, 1, 4, 5, 6] rfl)
                            · have hcmp : dv < dp r := Nat.lt_of_not_le (fun h => c_8 (nI_le h (by omega)))
                              refine lv_iconst (v := 1) hx hb dX1_reckon_110 (by decide) ?_
                              refine lv_goto (tgt := 115) hx hb dX1_reckon_111 (by decide) ?_
                              refine lv_istore_n (lv' := [(3, .int 1), (6, .int (nI dv)), (5, .int (nI κ)), (4, .int (nI r)), (0, .ref (ad 0)), (1, .int ov), (2, .int (nI t))]) hx hb dX1_reckon_115 rfl hl (by decide) rfl (fun ls hl => ?_)
                              refine lv_aload_n hx hb dX1_reckon_116 rfl (lv_at hl 4 rfl) ?_
                              refine x1_get (v := .ref (ad 4)) S0 hin hK hP 4 (by decide) f_distance rfl rfl dX1_reckon_117 ?_
                              refine lv_iload hx hb dX1_reckon_120 (lv_at hl 3 rfl) ?_
                              refine lv_iload hx hb dX1_reckon_122 (lv_at hl 1 rfl) ?_
                              refine lv_aload_n hx hb dX1_reckon_124 rfl (lv_at hl 4 rfl) ?_
                              refine x1_get (v := .ref (ad 4)) S0 hin hK hP 4 (by decide) f_distance rfl rfl dX1_reckon_125 ?_
                              refine lv_iload hx hb dX1_reckon_128 (lv_at hl 3 rfl) ?_
                              refine va_iald hx hb hK hP 4 3 rfl rfl (vp_in_nI (by omega) (by omega)) dX1_reckon_130 ?_
                              refine xt_eq (z := d4 r) (congrArg d4 (nI_clamp (by omega))) ?_
                              refine xt_eq (z := nI (dp r)) hdr.1 ?_
                              refine lv_icmp_ge (tgt := 139) hx hb dX1_reckon_131 (by decide) (fun c_10 => by exact absurd c_10 (nI_ge hcmp (by omega))) (fun c_10 => ?_)
                              refine lv_iload hx hb dX1_reckon_134 (lv_at hl 1 rfl) ?_
                              refine lv_goto (tgt := 146) hx hb dX1_reckon_136 (by decide) ?_
                              refine va_iast hx hb hK hP hD hS 4 3 rfl rfl (vp_in_nI (by omega) (by omega)) dX1_reckon_146 (fun H locs hP hD hS => ?_)
                              rw [(nI_clamp (by omega))] at hP hD
                              have hP : va_P D vwCl (mw ad tt R w c k (upd d4 r (nI dv)) wp wr) H := hP
                              have hD : va_D A (mw ad tt R w c k (upd d4 r (nI dv)) wp wr) := hD
                              refine lv_iinc (v := nI (κ + 1)) (lv' := [(5, .int (nI (κ + 1))), (3, .int 1), (6, .int (nI dv)), (4, .int (nI r)), (0, .ref (ad 0)), (1, .int ov), (2, .int (nI t))]) hx hb dX1_reckon_147 hl (k := 2) rfl (nI_1 κ) (by decide) rfl (fun ls hl => ?_)
                              refine lv_goto (tgt := 61) hx hb dX1_reckon_150 (by decide) ?_
                              exact ih61 (κ + 1) 1 _ (nup dp r dv) (by omega) (rk_put hok hT0 hrw4 hrR hdv hcmp) (rk_less hrj hrR hcmp _) (by omega) H locs ls hP hD hS (lv_sub hl [0, 3, 1, 4, 5, 6] rfl)
                    exact lp61 _ 0 b2 d3 dm (by omega) hrw3 (rk_V hri (fun a p q ha hp hq h => by omega)) (Nat.lt_succ_self _) H locs ls hP hD hS (lv_sub hl [0, 1, 2, 3, 4, 5] rfl)
              exact lp49 _ 0 0 d2 dn (by omega) hrw (Or.inl ⟨rfl, fun _ _ => rfl, fun a p q _ h => absurd h (Nat.not_lt_zero a)⟩) (Nat.lt_succ_self _) H locs ls hP hD hS (lv_sub hl [0, 1, 2, 3, 4] rfl)
        exact lp40 _ 1 d1 dn hrw (Or.inr rfl) (Nat.lt_succ_self _) H locs ls hP hD hS (lv_sub hl [0, 1, 2, 3] rfl)
      · have hrR : r < R := Nat.lt_of_not_le (fun h => c_1 (nI_le h (by omega)))
        refine lv_aload_n hx hb dX1_reckon_10 rfl (lv_at hl 1 rfl) ?_
        refine x1_get (v := .ref (ad 4)) S0 hin hK hP 4 (by decide) f_distance rfl rfl dX1_reckon_11 ?_
        refine lv_iload_n hx hb dX1_reckon_14 rfl (lv_at hl 0 rfl) ?_
        refine lv_aload_n hx hb dX1_reckon_15 rfl (lv_at hl 1 rfl) ?_
        refine lv_iload_n hx hb dX1_reckon_16 rfl (lv_at hl 0 rfl) ?_
        refine lv_iload_n hx hb dX1_reckon_17 rfl (lv_at hl 2 rfl) ?_
        refine lv_iload_n hx hb dX1_reckon_18 rfl (lv_at hl 3 rfl) ?_
        refine xs_Vi (wr := []) (q0 := 0) (ci := 1) (nA := 3) (As := [.int (nI r), .int ov, .int (nI t)]) (rest := [.int (nI r), .ref (ad 4)]) S0 (k_X1_isAt l D ad tt R w c k d1 wp wr r ov t (by omega) (fun _ => by omega) (by omega)) gX1_reckon_X1_isAt rfl ⟨rfl, rfl⟩ (by decide +kernel) rfl ⟨Nat.le_of_ble_eq_true rfl, Nat.le_of_ble_eq_true rfl⟩ ⟨Nat.le_of_ble_eq_true rfl, Nat.le_of_ble_eq_true rfl⟩ hK hP hD hS hA [0, 1, 2, 3, 4] [] rfl rfl (by decide) (by decide) (by decide) rfl rfl rfl hl.1 rfl (Nat.le_of_ble_eq_true rfl) dX1_reckon_19 (fun r_11 u H locs hw hP hD hS => ?_)
        have hP : va_P D vwCl (mw ad tt R w c k d1 wp wr) H := hP
        have hD : va_D A (mw ad tt R w c k d1 wp wr) := hD
        rcases hw with ⟨rfl, h_tg⟩ | ⟨rfl, h_tg⟩
        · refine lv_if_eq (tgt := 29) hx hb dX1_reckon_22 (by decide) (fun c_12 => absurd c_12 (by decide)) (fun c_12 => ?_)
          refine lv_iconst (v := 0) hx hb dX1_reckon_25 (by decide) ?_
          refine lv_goto (tgt := 31) hx hb dX1_reckon_26 (by decide) ?_
          refine va_iast hx hb hK hP hD hS 4 3 rfl rfl (vp_in_nI (by omega) (by omega)) dX1_reckon_31 (fun H locs hP hD hS => ?_)
          rw [(nI_clamp (by omega))] at hP hD
          have hP : va_P D vwCl (mw ad tt R w c k (upd d1 r 0) wp wr) H := hP
          have hD : va_D A (mw ad tt R w c k (upd d1 r 0) wp wr) := hD
          refine lv_iinc (v := nI (r + 1)) (lv' := [(3, .int (nI (r + 1))), (0, .ref (ad 0)), (1, .int ov), (2, .int (nI t))]) hx hb dX1_reckon_32 hl (k := 0) rfl (nI_1 r) (by decide) rfl (fun ls hl => ?_)
          refine lv_goto (tgt := 2) hx hb dX1_reckon_35 (by decide) ?_
          exact ih2 (r + 1) _ (by omega) (up_P (P := (fun a v => (ww_tg w k ov t a → v = nI 0) ∧ (¬ ww_tg w k ov t a → v = nI 100000))) hd1 ⟨fun _ => rfl, fun h => absurd h_tg h⟩) (by omega) H locs ls hP hD hS (lv_sub hl [0, 1, 2, 3] rfl)
        · refine lv_if_eq (tgt := 29) hx hb dX1_reckon_22 (by decide) (fun c_13 => ?_) (fun c_13 => absurd c_13 (by decide))
          refine lv_ldc (v := 100000) hx hb hown (hts (.constant RX1 42 100000) (by decide +kernel)) dX1_reckon_29 ?_
          refine va_iast hx hb hK hP hD hS 4 3 rfl rfl (vp_in_nI (by omega) (by omega)) dX1_reckon_31 (fun H locs hP hD hS => ?_)
          rw [(nI_clamp (by omega))] at hP hD
          have hP : va_P D vwCl (mw ad tt R w c k (upd d1 r 100000) wp wr) H := hP
          have hD : va_D A (mw ad tt R w c k (upd d1 r 100000) wp wr) := hD
          refine lv_iinc (v := nI (r + 1)) (lv' := [(3, .int (nI (r + 1))), (0, .ref (ad 0)), (1, .int ov), (2, .int (nI t))]) hx hb dX1_reckon_32 hl (k := 0) rfl (nI_1 r) (by decide) rfl (fun ls hl => ?_)
          refine lv_goto (tgt := 2) hx hb dX1_reckon_35 (by decide) ?_
          exact ih2 (r + 1) _ (by omega) (up_P (P := (fun a v => (ww_tg w k ov t a → v = nI 0) ∧ (¬ ww_tg w k ov t a → v = nI 100000))) hd1 ⟨fun h => absurd h h_tg, fun _ => rfl⟩) (by omega) H locs ls hP hD hS (lv_sub hl [0, 1, 2, 3] rfl)
  exact lp2 _ 0 d (by omega) (fun a h => absurd h (Nat.not_lt_zero a)) (Nat.lt_succ_self _) H locs ls hP hD hS (lv_sub hl [0, 1, 2, 3] rfl)
