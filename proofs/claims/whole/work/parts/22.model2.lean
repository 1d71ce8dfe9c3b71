set_option maxHeartbeats 4000000 in
set_option maxRecDepth 100000 in
theorem k_X1_choose (l : Launch) (D : va_G) (ad : Nat → Nat) (tt : Nat → ClassId) (R : Nat) (w c k d : Nat → Int32) (wp wr : Int32) (hok : ww_ok R w c) (ov : Int32) (t : Nat) (ht : t < 16) (hd : ∀ a, a < R → d a = nI (ww_M R w c k ov t a)) (r : Nat) (hrR : r < R) : xMv l yX1_choose wsX1_choose { frames := 2, cells := 0, slots := 0, locals := 47 } D (tyM tt) [.ref (ad 0), .int (nI r), .int ov, .int (nI t)] (mw ad tt R w c k d wp wr) (fun u : Int32 × Int32 => mw ad tt R w c k d u.1 u.2) (fun u => ch_ok R w c k ov t r u.1 u.2) := by
  refine xe_v (cc := cX1_choose) (maxL := 7) (ret := none) (lvl := [(0, .ref (ad 0)), (1, .int (nI r)), (2, .int ov), (3, .int (nI t))]) (by decide) rfl (Nat.le_of_ble_eq_true rfl) rfl ?_
  intro p e s m below meth cd A ls hx hb hr hlocks hml hown hts hA hP hK hD hS hl
  have hin : ∀ w ∈ wsX10, w ∈ wsX1_choose := fun _ h => List.mem_cons_of_mem _ (List.mem_append_right _ h)
  have S0 : CallFix p m cd cX1_choose 7 s (([.ref (ad 0), .int (nI r), .int ov, .int (nI t)] : List Value).toArray) wsX1_choose RX1 := ⟨hx, hb, hml, hown, hts⟩
  obtain ⟨H, hH⟩ : ∃ H, H = s.heap := ⟨_, rfl⟩
  obtain ⟨locs, hlocs⟩ : ∃ q : List Loc, q = [] := ⟨_, rfl⟩
  have hP : va_P D vwCl (mw ad tt R w c k d wp wr) H := by rw [hH]; exact hP
  have hS : va_S A s.heap H locs := by rw [hH, hlocs]; exact hS
  suffices hgo : W p l e (headSpec wsX1_choose ({ frames := 2, cells := 0, slots := 0, locals := 47 } : Room)).room s m (([.ref (ad 0), .int (nI r), .int ov, .int (nI t)] : List Value).toArray) below meth cd H locs 0 0 (MQ below (va_Qv (fun u => ch_ok R w c k ov t r u.1 u.2) (xB D (tyM tt) A (fun u : Int32 × Int32 => mw ad tt R w c k d u.1 u.2)) A) ([.ref (ad 0), .int (nI r), .int ov, .int (nI t)] : List Value).toArray s 0 0 A) (F0 m 0 ls []) by rw [hH, hlocs] at hgo; exact hgo
  clear hH hlocs
  have f_distance := hts (.fieldLink RX1 20 "WireWaysModel" "distance" "[I") (by decide +kernel)
  have f_routers := hts (.fieldLink RX1 23 "WireWaysModel" "routers" "I") (by decide +kernel)
  have f_wayPort := hts (.fieldLink RX1 51 "WireWaysModel" "wayPort" "I") (by decide +kernel)
  have f_wayRouter := hts (.fieldLink RX1 54 "WireWaysModel" "wayRouter" "I") (by decide +kernel)
  have hR : R ≤ 10 := hok.2.1
  have hR1 : 1 ≤ R := hok.1
  have hdd : ∀ a, a < R → d a = nI (ww_M R w c k ov t a) ∧ ww_M R w c k ov t a ≤ 100000 := fun a h => ⟨hd a h, (ww_M_ok hok k ov t).1 a h⟩
  have hMr := (hdd r hrR).2
  refine lv_aload_n hx hb dX1_choose_0 rfl (lv_at hl 0 rfl) ?_
  refine lv_iconst (v := (-1)) hx hb dX1_choose_1 (by decide) ?_
  refine x1_put (v := .int (-1)) S0 hin hK hP hD hS 5 (by decide) f_wayPort rfl rfl rfl rfl rfl (Nat.le_of_ble_eq_true rfl) dX1_choose_2 (fun H locs hP hD hS => ?_)
  have hP : va_P D vwCl (mw ad tt R w c k d (-1) wr) H := hP
  have hD : va_D A (mw ad tt R w c k d (-1) wr) := hD
  refine lv_aload_n hx hb dX1_choose_5 rfl (lv_at hl 0 rfl) ?_
  refine lv_iconst (v := (-1)) hx hb dX1_choose_6 (by decide) ?_
  refine x1_put (v := .int (-1)) S0 hin hK hP hD hS 6 (by decide) f_wayRouter rfl rfl rfl rfl rfl (Nat.le_of_ble_eq_true rfl) dX1_choose_7 (fun H locs hP hD hS => ?_)
  have hP : va_P D vwCl (mw ad tt R w c k d (-1) (-1)) H := hP
  have hD : va_D A (mw ad tt R w c k d (-1) (-1)) := hD
  refine lv_aload_n hx hb dX1_choose_10 rfl (lv_at hl 0 rfl) ?_
  refine x1_get (v := .ref (ad 4)) S0 hin hK hP 4 (by decide) f_distance rfl rfl dX1_choose_11 ?_
  refine lv_iload_n hx hb dX1_choose_14 rfl (lv_at hl 1 rfl) ?_
  refine va_iald hx hb hK hP 4 3 rfl rfl (vp_in_nI (by omega) (by omega)) dX1_choose_15 ?_
  refine xt_eq (z := d r) (congrArg d (nI_clamp (by omega))) ?_
  refine xt_eq (z := nI (ww_M R w c k ov t r)) (hd r hrR) ?_
  refine lv_ldc (v := 100000) hx hb hown (hts (.constant RX1 42 100000) (by decide +kernel)) dX1_choose_16 ?_
  refine lv_icmp_lt (tgt := 22) hx hb dX1_choose_18 (by decide) (fun c_1 => ?_) (fun c_1 => ?_)
  · have hlt : ww_M R w c k ov t r < 100000 := (nI_ltI (b := 100000) (by omega) (by omega)).mp c_1
    have hTK := (ww_M_iff hok hrR).mp hlt
    refine lv_aload_n hx hb dX1_choose_22 rfl (lv_at hl 0 rfl) ?_
    refine lv_iload_n hx hb dX1_choose_23 rfl (lv_at hl 1 rfl) ?_
    refine lv_iload_n hx hb dX1_choose_24 rfl (lv_at hl 2 rfl) ?_
    refine lv_iload_n hx hb dX1_choose_25 rfl (lv_at hl 3 rfl) ?_
    refine xs_Vi (wr := []) (q0 := 0) (ci := 1) (nA := 3) (As := [.int (nI r), .int ov, .int (nI t)]) (rest := []) S0 (k_X1_isAt l D ad tt R w c k d (-1) (-1) r ov t (by omega) (fun _ => by omega) (by omega)) gX1_choose_X1_isAt rfl ⟨rfl, rfl⟩ (by decide +kernel) rfl ⟨Nat.le_of_ble_eq_true rfl, Nat.le_of_ble_eq_true rfl⟩ ⟨Nat.le_of_ble_eq_true rfl, Nat.le_of_ble_eq_true rfl⟩ hK hP hD hS hA [0, 1, 2, 3, 4] [] rfl rfl (by decide) (by decide) (by decide) rfl rfl rfl hl.1 rfl (Nat.le_of_ble_eq_true rfl) dX1_choose_26 (fun r_2 u H locs hw hP hD hS => ?_)
    have hP : va_P D vwCl (mw ad tt R w c k d (-1) (-1)) H := hP
    have hD : va_D A (mw ad tt R w c k d (-1) (-1)) := hD
    rcases hw with ⟨rfl, h_tg⟩ | ⟨rfl, h_tg⟩
    · refine lv_if_eq (tgt := 51) hx hb dX1_choose_29 (by decide) (fun c_3 => absurd c_3 (by decide)) (fun c_3 => ?_)
      refine lv_aload_n hx hb dX1_choose_32 rfl (lv_at hl 0 rfl) ?_
      refine lv_iload_n hx hb dX1_choose_33 rfl (lv_at hl 2 rfl) ?_
      refine lv_if_eq (tgt := 46) hx hb dX1_choose_34 (by decide) (fun c_4 => ?_) (fun c_4 => ?_)
      · have hov := c_4
        refine lv_iconst (v := (-1)) hx hb dX1_choose_46 (by decide) ?_
        refine x1_put (v := .int (-1)) S0 hin hK hP hD hS 5 (by decide) f_wayPort rfl rfl rfl rfl rfl (Nat.le_of_ble_eq_true rfl) dX1_choose_47 (fun H locs hP hD hS => ?_)
        have hP : va_P D vwCl (mw ad tt R w c k d (-1) (-1)) H := hP
        have hD : va_D A (mw ad tt R w c k d (-1) (-1)) := hD
        exact xr_v hx hb hr hlocks ((-1), (-1)) (by first | exact ⟨fun h => absurd h hge, fun _ => ⟨rfl, rfl⟩⟩ | exact ⟨fun _ => ⟨fun _ => ⟨rfl, fun _ => rfl, fun h => absurd hov h⟩, fun h => absurd h_tg h⟩, fun h => absurd hTK h⟩) hP hK hD hS dX1_choose_50
      · have hov := c_4
        refine lv_aload_n hx hb dX1_choose_37 rfl (lv_at hl 0 rfl) ?_
        refine lv_iload_n hx hb dX1_choose_38 rfl (lv_at hl 1 rfl) ?_
        refine lv_iload_n hx hb dX1_choose_39 rfl (lv_at hl 3 rfl) ?_
        refine xs_Vi (wr := []) (q0 := 0) (ci := 1) (nA := 2) (As := [.int (nI r), .int (nI t)]) (rest := [.ref (ad 0)]) S0 (k_X1_portOn l D ad tt R w c k d (-1) (-1) r (nI t) (by omega)) gX1_choose_X1_portOn rfl ⟨rfl, rfl⟩ (by decide +kernel) rfl ⟨Nat.le_of_ble_eq_true rfl, Nat.le_of_ble_eq_true rfl⟩ ⟨Nat.le_of_ble_eq_true rfl, Nat.le_of_ble_eq_true rfl⟩ hK hP hD hS hA [0, 1, 2, 3, 4] [] rfl rfl (by decide) (by decide) (by decide) rfl rfl rfl hl.1 rfl (Nat.le_of_ble_eq_true rfl) dX1_choose_40 (fun r_5 u H locs hw hP hD hS => ?_)
        have hP : va_P D vwCl (mw ad tt R w c k d (-1) (-1)) H := hP
        have hD : va_D A (mw ad tt R w c k d (-1) (-1)) := hD
        have h_po := hw
        refine lv_goto (tgt := 47) hx hb dX1_choose_43 (by decide) ?_
        refine x1_put (v := .int r_5) S0 hin hK hP hD hS 5 (by decide) f_wayPort rfl rfl rfl rfl rfl (Nat.le_of_ble_eq_true rfl) dX1_choose_47 (fun H locs hP hD hS => ?_)
        have hP : va_P D vwCl (mw ad tt R w c k d r_5 (-1)) H := hP
        have hD : va_D A (mw ad tt R w c k d r_5 (-1)) := hD
        exact xr_v hx hb hr hlocks (r_5, (-1)) ⟨fun _ => ⟨fun _ => ⟨rfl, fun h => absurd h hov, fun _ => h_po⟩, fun h => absurd h_tg h⟩, fun h => absurd hTK h⟩ hP hK hD hS dX1_choose_50
    · refine lv_if_eq (tgt := 51) hx hb dX1_choose_29 (by decide) (fun c_6 => ?_) (fun c_6 => absurd c_6 (by decide))
      refine lv_ldc (v := 100000) hx hb hown (hts (.constant RX1 42 100000) (by decide +kernel)) dX1_choose_51 ?_
      refine lv_istore (lv' := [(4, .int 100000), (0, .ref (ad 0)), (1, .int (nI r)), (2, .int ov), (3, .int (nI t))]) hx hb dX1_choose_53 hl (by decide) rfl (fun ls hl => ?_)
      refine lv_iconst (v := 0) hx hb dX1_choose_55 (by decide) ?_
      refine lv_istore (lv' := [(5, .int 0), (4, .int 100000), (0, .ref (ad 0)), (1, .int (nI r)), (2, .int ov), (3, .int (nI t))]) hx hb dX1_choose_56 hl (by decide) rfl (fun ls hl => ?_)
      have lp58 : ∀ (fuel : Nat) (κ : Nat) (lt : Nat) (p1 : Int32) (q1 : Int32), (κ ≤ 4 * R) → (lt ≤ 100000) → (cw_in R (ww_E R w k) (ww_c c) 100000 (ww_M R w c k ov t) r κ lt p1 q1) → 4 * R - κ < fuel → ∀ (H : Heap) (locs : List Loc) (ls : Array Slot), va_P D vwCl (mw ad tt R w c k d p1 q1) H → va_D A (mw ad tt R w c k d p1 q1) → va_S A s.heap H locs → lv_has ls 7 [(5, .int (nI κ)), (4, .int (nI lt)), (0, .ref (ad 0)), (1, .int (nI r)), (2, .int ov), (3, .int (nI t))] → W p l e (headSpec wsX1_choose ({ frames := 2, cells := 0, slots := 0, locals := 47 } : Room)).room s m ([.ref (ad 0), .int (nI r), .int ov, .int (nI t)] : List Value).toArray below meth cd H locs 0 0 (MQ below (va_Qv (fun u => ch_ok R w c k ov t r u.1 u.2) (xB D (tyM tt) A (fun u : Int32 × Int32 => mw ad tt R w c k d u.1 u.2)) A) ([.ref (ad 0), .int (nI r), .int ov, .int (nI t)] : List Value).toArray s 0 0 A) (F0 m 58 ls []) := by
        intro fuel
        induction fuel with
        | zero => intro κ lt p1 q1 hκ0 hlK hcw hm; exact absurd hm (Nat.not_lt_zero _)
        | succ fuel ih58 =>
          intro κ lt p1 q1 hκ0 hlK hcw hm H locs ls hP hD hS hl
          refine lv_iload hx hb dX1_choose_58 (lv_at hl 0 rfl) ?_
          refine lv_iconst (v := 4) hx hb dX1_choose_60 (by decide) ?_
          refine lv_aload_n hx hb dX1_choose_61 rfl (lv_at hl 2 rfl) ?_
          refine x1_get (v := .int (nI R)) S0 hin hK hP 0 (by decide) f_routers rfl rfl dX1_choose_62 ?_
          refine lv_imul hx hb dX1_choose_65 ?_
          refine xt_eq (z := nI (4 * R)) (pk_mul 4 R) ?_
          refine lv_icmp_ge (tgt := 132) hx hb dX1_choose_66 (by decide) (fun c_7 => ?_) (fun c_7 => ?_)
          · have hκ : 4 * R ≤ κ := (nI_leI (by omega) (by omega)).mp c_7
            exact xr_v hx hb hr hlocks (p1, q1) ⟨fun _ => ⟨fun h => absurd h h_tg, fun _ => by obtain ⟨p9, b9, e1, e2, e3⟩ := cw_way hcw hκ (by obtain ⟨p8, b8, hE8, hq8⟩ := (ww_M_ok hok k ov t).2.2.2 r hrR h_tg hlt; exact ⟨p8, b8, hE8, by omega⟩); exact ⟨p9, b9, e1, e2, ww_M_way hok e3⟩⟩, fun h => absurd hTK h⟩ hP hK hD hS dX1_choose_132
          · have hκ : κ < 4 * R := Nat.lt_of_not_le (fun h => c_7 (nI_le h (by omega)))
            refine lv_aload_n hx hb dX1_choose_69 rfl (lv_at hl 2 rfl) ?_
            refine lv_iload_n hx hb dX1_choose_70 rfl (lv_at hl 3 rfl) ?_
            refine lv_iload hx hb dX1_choose_71 (lv_at hl 0 rfl) ?_
            refine lv_aload_n hx hb dX1_choose_73 rfl (lv_at hl 2 rfl) ?_
            refine x1_get (v := .int (nI R)) S0 hin hK hP 0 (by decide) f_routers rfl rfl dX1_choose_74 ?_
            refine lv_idiv hx hb dX1_choose_77 (nI_ne0 (by omega) (by omega)) ?_
            refine xt_eq (z := nI (κ / R)) (pk_div (by omega) (by omega) (by omega)) ?_
            refine lv_iload hx hb dX1_choose_78 (lv_at hl 0 rfl) ?_
            refine lv_aload_n hx hb dX1_choose_80 rfl (lv_at hl 2 rfl) ?_
            refine x1_get (v := .int (nI R)) S0 hin hK hP 0 (by decide) f_routers rfl rfl dX1_choose_81 ?_
            refine lv_irem hx hb dX1_choose_84 (nI_ne0 (by omega) (by omega)) ?_
            refine xt_eq (z := nI (κ % R)) (pk_rem (by omega) (by omega) (by omega)) ?_
            refine xs_Vi (wr := []) (q0 := 0) (ci := 1) (nA := 3) (As := [.int (nI r), .int (nI (κ / R)), .int (nI (κ % R))]) (rest := []) S0 (k_X1_by l D ad tt R w c k d p1 q1 hok (ww_M R w c k ov t) hdd r (κ / R) (κ % R) hrR (pr_4 hκ) (Nat.mod_lt _ (by omega))) gX1_choose_X1_by rfl ⟨rfl, rfl⟩ (by decide +kernel) rfl ⟨Nat.le_of_ble_eq_true rfl, Nat.le_of_ble_eq_true rfl⟩ ⟨Nat.le_of_ble_eq_true rfl, Nat.le_of_ble_eq_true rfl⟩ hK hP hD hS hA [0, 1, 2, 3, 4] [] rfl rfl (by decide) (by decide) (by decide) rfl rfl rfl hl.1 rfl (Nat.le_of_ble_eq_true rfl) dX1_choose_85 (fun r_8 u H locs hw hP hD hS => ?_)
            have hP : va_P D vwCl (mw ad tt R w c k d p1 q1) H := hP
            have hD : va_D A (mw ad tt R w c k d p1 q1) := hD
            obtain ⟨dv, rfl, hdv⟩ := hw
            have hdvb := by_le hok hdv
            refine lv_istore (lv' := [(6, .int (nI dv)), (5, .int (nI κ)), (4, .int (nI lt)), (0, .ref (ad 0)), (1, .int (nI r)), (2, .int ov), (3, .int (nI t))]) hx hb dX1_choose_88 hl (by decide) rfl (fun ls hl => ?_)
            refine lv_iload hx hb dX1_choose_90 (lv_at hl 0 rfl) ?_
            refine lv_iload hx hb dX1_choose_92 (lv_at hl 2 rfl) ?_
            refine lv_icmp_lt (tgt := 100) hx hb dX1_choose_94 (by decide) (fun c_9 => ?_) (fun c_9 => ?_)
            · have hcmp : dv < lt := (nI_ltI (by omega) (by omega)).mp c_9
              refine lv_iload hx hb dX1_choose_100 (lv_at hl 0 rfl) ?_
              refine lv_istore (lv' := [(4, .int (nI dv)), (6, .int (nI dv)), (5, .int (nI κ)), (0, .ref (ad 0)), (1, .int (nI r)), (2, .int ov), (3, .int (nI t))]) hx hb dX1_choose_102 hl (by decide) rfl (fun ls hl => ?_)
              refine lv_aload_n hx hb dX1_choose_104 rfl (lv_at hl 3 rfl) ?_
              refine lv_iload hx hb dX1_choose_105 (lv_at hl 2 rfl) ?_
              refine lv_aload_n hx hb dX1_choose_107 rfl (lv_at hl 3 rfl) ?_
              refine x1_get (v := .int (nI R)) S0 hin hK hP 0 (by decide) f_routers rfl rfl dX1_choose_108 ?_
              refine lv_idiv hx hb dX1_choose_111 (nI_ne0 (by omega) (by omega)) ?_
              refine xt_eq (z := nI (κ / R)) (pk_div (by omega) (by omega) (by omega)) ?_
              refine x1_put (v := .int (nI (κ / R))) S0 hin hK hP hD hS 5 (by decide) f_wayPort rfl rfl rfl rfl rfl (Nat.le_of_ble_eq_true rfl) dX1_choose_112 (fun H locs hP hD hS => ?_)
              have hP : va_P D vwCl (mw ad tt R w c k d (nI (κ / R)) q1) H := hP
              have hD : va_D A (mw ad tt R w c k d (nI (κ / R)) q1) := hD
              refine lv_aload_n hx hb dX1_choose_115 rfl (lv_at hl 3 rfl) ?_
              refine lv_iload hx hb dX1_choose_116 (lv_at hl 2 rfl) ?_
              refine lv_aload_n hx hb dX1_choose_118 rfl (lv_at hl 3 rfl) ?_
              refine x1_get (v := .int (nI R)) S0 hin hK hP 0 (by decide) f_routers rfl rfl dX1_choose_119 ?_
              refine lv_irem hx hb dX1_choose_122 (nI_ne0 (by omega) (by omega)) ?_
              refine xt_eq (z := nI (κ % R)) (pk_rem (by omega) (by omega) (by omega)) ?_
              refine x1_put (v := .int (nI (κ % R))) S0 hin hK hP hD hS 6 (by decide) f_wayRouter rfl rfl rfl rfl rfl (Nat.le_of_ble_eq_true rfl) dX1_choose_123 (fun H locs hP hD hS => ?_)
              have hP : va_P D vwCl (mw ad tt R w c k d (nI (κ / R)) (nI (κ % R))) H := hP
              have hD : va_D A (mw ad tt R w c k d (nI (κ / R)) (nI (κ % R))) := hD
              refine lv_iinc (v := nI (κ + 1)) (lv' := [(5, .int (nI (κ + 1))), (4, .int (nI dv)), (6, .int (nI dv)), (0, .ref (ad 0)), (1, .int (nI r)), (2, .int ov), (3, .int (nI t))]) hx hb dX1_choose_126 hl (k := 2) rfl (nI_1 κ) (by decide) rfl (fun ls hl => ?_)
              refine lv_goto (tgt := 58) hx hb dX1_choose_129 (by decide) ?_
              exact ih58 (κ + 1) dv (nI (κ / R)) (nI (κ % R)) (by omega) (by omega) (cw_put hcw hdv (by omega) hlK hcmp) (by omega) H locs ls hP hD hS (lv_sub hl [0, 1, 3, 4, 5, 6] rfl)
            · have hcmp : lt ≤ dv := Nat.le_of_not_lt (fun h => c_9 (nI_lt h (by omega)))
              refine lv_goto (tgt := 126) hx hb dX1_choose_97 (by decide) ?_
              refine lv_iinc (v := nI (κ + 1)) (lv' := [(5, .int (nI (κ + 1))), (6, .int (nI dv)), (4, .int (nI lt)), (0, .ref (ad 0)), (1, .int (nI r)), (2, .int ov), (3, .int (nI t))]) hx hb dX1_choose_126 hl (k := 1) rfl (nI_1 κ) (by decide) rfl (fun ls hl => ?_)
              refine lv_goto (tgt := 58) hx hb dX1_choose_129 (by decide) ?_
              exact ih58 (κ + 1) lt p1 q1 (by omega) hlK (cw_skip hcw hdv (fun b hbR h => by have h8 := (ww_M_iff hok hbR).mp h; rw [ww_M_1 h8]; exact ww_M_lt hok hbR h8) hok hcmp) (by omega) H locs ls hP hD hS (lv_sub hl [0, 2, 3, 4, 5, 6] rfl)
      exact lp58 _ 0 100000 (-1) (-1) (by omega) (by omega) cw_0 (Nat.lt_succ_self _) H locs ls hP hD hS (lv_sub hl [0, 1, 2, 3, 4, 5] rfl)
  · have hge : ¬ ww_T R w c k ov t r < 1000000 := fun h => c_1 (nI_lt (b := 100000) ((ww_M_iff hok hrR).mpr h) (by omega))
    exact xr_v hx hb hr hlocks ((-1), (-1)) (by first | exact ⟨fun h => absurd h hge, fun _ => ⟨rfl, rfl⟩⟩ | exact ⟨fun _ => ⟨fun _ => ⟨rfl, fun _ => rfl, fun h => absurd hov h⟩, fun h => absurd h_tg h⟩, fun h => absurd hTK h⟩) hP hK hD hS dX1_choose_21
set_option maxHeartbeats 4000000 in
set_option maxRecDepth 100000 in
theorem k_X1_isAsked (l : Launch) (D : va_G) (ad : Nat → Nat) (tt : Nat → ClassId) (R : Nat) (w c k d : Nat → Int32) (wp wr : Int32) (hok : ww_ok R w c) (x ov z : Int32) : xMi l yX1_isAsked wsX1_isAsked { frames := 3, cells := 0, slots := 0, locals := 73 } D (tyM tt) [.ref (ad 0), .int x, .int ov, .int z] (mw ad tt R w c k d wp wr) (fun u : (Nat → Int32) × (Int32 × Int32) => mw ad tt R w c k u.1 u.2.1 u.2.2) (fun v u => (v = 1 ∧ ∃ r t, asks R x ov z r t ∧ (∀ a, a < R → u.1 a = nI (ww_M R w c k ov t a)) ∧ ch_ok R w c k ov t r u.2.1 u.2.2) ∨ (v = 0 ∧ ¬ ∃ r t, asks R x ov z r t)) := by
  refine xe_i (cc := cX1_isAsked) (maxL := 4) (ret := (some .boolean)) (lvl := [(0, .ref (ad 0)), (1, .int x), (2, .int ov), (3, .int z)]) (by decide) rfl (Nat.le_of_ble_eq_true rfl) rfl ?_
  intro p e s m below meth cd A ls hx hb hr hlocks hml hown hts hA hP hK hD hS hl
  have hin : ∀ w ∈ wsX10, w ∈ wsX1_isAsked := fun _ h => List.mem_cons_of_mem _ (List.mem_append_right _ h)
  have S0 : CallFix p m cd cX1_isAsked 4 s (([.ref (ad 0), .int x, .int ov, .int z] : List Value).toArray) wsX1_isAsked RX1 := ⟨hx, hb, hml, hown, hts⟩
  obtain ⟨H, hH⟩ : ∃ H, H = s.heap := ⟨_, rfl⟩
  obtain ⟨locs, hlocs⟩ : ∃ q : List Loc, q = [] := ⟨_, rfl⟩
  have hP : va_P D vwCl (mw ad tt R w c k d wp wr) H := by rw [hH]; exact hP
  have hS : va_S A s.heap H locs := by rw [hH, hlocs]; exact hS
  suffices hgo : W p l e (headSpec wsX1_isAsked ({ frames := 3, cells := 0, slots := 0, locals := 73 } : Room)).room s m (([.ref (ad 0), .int x, .int ov, .int z] : List Value).toArray) below meth cd H locs 0 0 (MQ below (va_Qi (fun v u => (v = 1 ∧ ∃ r t, asks R x ov z r t ∧ (∀ a, a < R → u.1 a = nI (ww_M R w c k ov t a)) ∧ ch_ok R w c k ov t r u.2.1 u.2.2) ∨ (v = 0 ∧ ¬ ∃ r t, asks R x ov z r t)) (xB D (tyM tt) A (fun u : (Nat → Int32) × (Int32 × Int32) => mw ad tt R w c k u.1 u.2.1 u.2.2)) A) ([.ref (ad 0), .int x, .int ov, .int z] : List Value).toArray s 0 0 A) (F0 m 0 ls []) by rw [hH, hlocs] at hgo; exact hgo
  clear hH hlocs
  have hR : R ≤ 10 := hok.2.1
  refine lv_aload_n hx hb dX1_isAsked_0 rfl (lv_at hl 0 rfl) ?_
  refine lv_iload_n hx hb dX1_isAsked_1 rfl (lv_at hl 1 rfl) ?_
  refine xs_Vi (wr := []) (q0 := 0) (ci := 1) (nA := 1) (As := [.int x]) (rest := []) S0 (k_X1_isRouter l D ad tt R w c k d wp wr x hR) gX1_isAsked_X1_isRouter rfl ⟨rfl, rfl⟩ (by decide +kernel) rfl ⟨Nat.le_of_ble_eq_true rfl, Nat.le_of_ble_eq_true rfl⟩ ⟨Nat.le_of_ble_eq_true rfl, Nat.le_of_ble_eq_true rfl⟩ hK hP hD hS hA [0, 1, 2, 3, 4] [] rfl rfl (by decide) (by decide) (by decide) rfl rfl rfl hl.1 rfl (Nat.le_of_ble_eq_true rfl) dX1_isAsked_2 (fun r_1 u H locs hw hP hD hS => ?_)
  have hP : va_P D vwCl (mw ad tt R w c k d wp wr) H := hP
  have hD : va_D A (mw ad tt R w c k d wp wr) := hD
  rcases hw with ⟨rfl, h_r⟩ | ⟨rfl, h_r⟩
  · refine lv_if_eq (tgt := 30) hx hb dX1_isAsked_5 (by decide) (fun c_2 => absurd c_2 (by decide)) (fun c_2 => ?_)
    refine lv_iload_n hx hb dX1_isAsked_8 rfl (lv_at hl 2 rfl) ?_
    refine lv_if_eq (tgt := 22) hx hb dX1_isAsked_9 (by decide) (fun c_3 => ?_) (fun c_3 => ?_)
    · have hov := c_3
      refine lv_aload_n hx hb dX1_isAsked_22 rfl (lv_at hl 0 rfl) ?_
      refine lv_iload_n hx hb dX1_isAsked_23 rfl (lv_at hl 3 rfl) ?_
      refine xs_Vi (wr := []) (q0 := 0) (ci := 1) (nA := 1) (As := [.int z]) (rest := []) S0 (k_X1_isRouter l D ad tt R w c k d wp wr z hR) gX1_isAsked_X1_isRouter rfl ⟨rfl, rfl⟩ (by decide +kernel) rfl ⟨Nat.le_of_ble_eq_true rfl, Nat.le_of_ble_eq_true rfl⟩ ⟨Nat.le_of_ble_eq_true rfl, Nat.le_of_ble_eq_true rfl⟩ hK hP hD hS hA [0, 1, 2, 3, 4] [] rfl rfl (by decide) (by decide) (by decide) rfl rfl rfl hl.1 rfl (Nat.le_of_ble_eq_true rfl) dX1_isAsked_24 (fun r_4 u H locs hw hP hD hS => ?_)
      have hP : va_P D vwCl (mw ad tt R w c k d wp wr) H := hP
      have hD : va_D A (mw ad tt R w c k d wp wr) := hD
      rcases hw with ⟨rfl, h_z⟩ | ⟨rfl, h_z⟩
      · refine lv_if_ne (tgt := 32) hx hb dX1_isAsked_27 (by decide) (fun c_5 => ?_) (fun c_5 => absurd c_5 (by decide))
        obtain ⟨r, hrR, rfl⟩ := h_r
        obtain ⟨t, rfl, ht0⟩ : ∃ t, z = nI t ∧ ((ov ≠ 0 → t < 16) ∧ (ov = 0 → t < R)) := by first | (obtain ⟨t, h1, h2⟩ := h_w; exact ⟨t, h2, fun _ => h1, fun h => absurd h hov⟩) | (obtain ⟨t, h1, h2⟩ := h_z; exact ⟨t, h2, fun h => absurd hov h, fun _ => h1⟩)
        have hask : asks R (nI r) ov (nI t) r t := ⟨hrR, rfl, rfl, ht0⟩
        have ht16 := asks_t hR hask
        refine lv_aload_n hx hb dX1_isAsked_32 rfl (lv_at hl 0 rfl) ?_
        refine lv_iload_n hx hb dX1_isAsked_33 rfl (lv_at hl 2 rfl) ?_
        refine lv_iload_n hx hb dX1_isAsked_34 rfl (lv_at hl 3 rfl) ?_
        refine xs_Vv (wr := []) (q0 := 0) (ci := 1) (nA := 2) (As := [.int ov, .int (nI t)]) (rest := []) S0 (k_X1_reckon l D ad tt R w c k d wp wr hok ov t ht16 (ww_M R w c k ov t) (ww_M_ok hok k ov t)) gX1_isAsked_X1_reckon rfl ⟨rfl, rfl⟩ (by decide +kernel) rfl ⟨Nat.le_of_ble_eq_true rfl, Nat.le_of_ble_eq_true rfl⟩ ⟨Nat.le_of_ble_eq_true rfl, Nat.le_of_ble_eq_true rfl⟩ hK hP hD hS hA [0, 1, 2, 3, 4] [] rfl rfl (by decide) (by decide) (by decide) rfl rfl rfl hl.1 rfl (Nat.le_of_ble_eq_true rfl) dX1_isAsked_35 (fun u1 H locs hw hP hD hS => ?_)
        have hP : va_P D vwCl (mw ad tt R w c k u1 wp wr) H := hP
        have hD : va_D A (mw ad tt R w c k u1 wp wr) := hD
        have hrow := hw
        refine lv_aload_n hx hb dX1_isAsked_38 rfl (lv_at hl 0 rfl) ?_
        refine lv_iload_n hx hb dX1_isAsked_39 rfl (lv_at hl 1 rfl) ?_
        refine lv_iload_n hx hb dX1_isAsked_40 rfl (lv_at hl 2 rfl) ?_
        refine lv_iload_n hx hb dX1_isAsked_41 rfl (lv_at hl 3 rfl) ?_
        refine xs_Vv (wr := []) (q0 := 0) (ci := 1) (nA := 3) (As := [.int (nI r), .int ov, .int (nI t)]) (rest := []) S0 (k_X1_choose l D ad tt R w c k u1 wp wr hok ov t ht16 hrow r hrR) gX1_isAsked_X1_choose rfl ⟨rfl, rfl⟩ (by decide +kernel) rfl ⟨Nat.le_of_ble_eq_true rfl, Nat.le_of_ble_eq_true rfl⟩ ⟨Nat.le_of_ble_eq_true rfl, Nat.le_of_ble_eq_true rfl⟩ hK hP hD hS hA [0, 1, 2, 3, 4] [] rfl rfl (by decide) (by decide) (by decide) rfl rfl rfl hl.1 rfl (Nat.le_of_ble_eq_true rfl) dX1_isAsked_42 (fun u2 H locs hw hP hD hS => ?_)
        have hP : va_P D vwCl (mw ad tt R w c k u1 u2.1 u2.2) H := hP
        have hD : va_D A (mw ad tt R w c k u1 u2.1 u2.2) := hD
        have hch := hw
        refine lv_iconst (v := 1) hx hb dX1_isAsked_45 (by decide) ?_
        exact xr_z hx hb hr hlocks rfl (u1, (u2.1, u2.2)) (Or.inl ⟨rfl, r, t, hask, hrow, hch⟩) hP hK hD hS dX1_isAsked_46
      · refine lv_if_ne (tgt := 32) hx hb dX1_isAsked_27 (by decide) (fun c_8 => absurd c_8 (by decide)) (fun c_8 => ?_)
        refine lv_iconst (v := 0) hx hb dX1_isAsked_30 (by decide) ?_
        exact xr_z hx hb hr hlocks rfl (d, (wp, wr)) (Or.inr ⟨rfl, fun h => by first | exact h_r (as_r h) | exact h_w ((as_z h).1 hov) | exact h_z ((as_z h).2 hov)⟩) hP hK hD hS dX1_isAsked_31
    · have hov := c_3
      refine lv_iload_n hx hb dX1_isAsked_12 rfl (lv_at hl 3 rfl) ?_
      refine xs_Si (nA := 1) (As := [.int z]) (rest := []) S0 (k_X1_isWire l D z) gX1_isAsked_X1_isWire rfl ⟨rfl, rfl⟩ (by decide +kernel) rfl ⟨Nat.le_of_ble_eq_true rfl, Nat.le_of_ble_eq_true rfl⟩ ⟨Nat.le_of_ble_eq_true rfl, Nat.le_of_ble_eq_true rfl⟩ hK hP hD hS hA hl.1 rfl (Nat.le_of_ble_eq_true rfl) dX1_isAsked_13 (fun r_9 H locs hw hP hD hS => ?_)
      rcases hw with ⟨rfl, h_w⟩ | ⟨rfl, h_w⟩
      · refine lv_if_ne (tgt := 32) hx hb dX1_isAsked_16 (by decide) (fun c_10 => ?_) (fun c_10 => absurd c_10 (by decide))
        obtain ⟨r, hrR, rfl⟩ := h_r
        obtain ⟨t, rfl, ht0⟩ : ∃ t, z = nI t ∧ ((ov ≠ 0 → t < 16) ∧ (ov = 0 → t < R)) := by first | (obtain ⟨t, h1, h2⟩ := h_w; exact ⟨t, h2, fun _ => h1, fun h => absurd h hov⟩) | (obtain ⟨t, h1, h2⟩ := h_z; exact ⟨t, h2, fun h => absurd hov h, fun _ => h1⟩)
        have hask : asks R (nI r) ov (nI t) r t := ⟨hrR, rfl, rfl, ht0⟩
        have ht16 := asks_t hR hask
        refine lv_aload_n hx hb dX1_isAsked_32 rfl (lv_at hl 0 rfl) ?_
        refine lv_iload_n hx hb dX1_isAsked_33 rfl (lv_at hl 2 rfl) ?_
        refine lv_iload_n hx hb dX1_isAsked_34 rfl (lv_at hl 3 rfl) ?_
        refine xs_Vv (wr := []) (q0 := 0) (ci := 1) (nA := 2) (As := [.int ov, .int (nI t)]) (rest := []) S0 (k_X1_reckon l D ad tt R w c k d wp wr hok ov t ht16 (ww_M R w c k ov t) (ww_M_ok hok k ov t)) gX1_isAsked_X1_reckon rfl ⟨rfl, rfl⟩ (by decide +kernel) rfl ⟨Nat.le_of_ble_eq_true rfl, Nat.le_of_ble_eq_true rfl⟩ ⟨Nat.le_of_ble_eq_true rfl, Nat.le_of_ble_eq_true rfl⟩ hK hP hD hS hA [0, 1, 2, 3, 4] [] rfl rfl (by decide) (by decide) (by decide) rfl rfl rfl hl.1 rfl (Nat.le_of_ble_eq_true rfl) dX1_isAsked_35 (fun u1 H locs hw hP hD hS => ?_)
        have hP : va_P D vwCl (mw ad tt R w c k u1 wp wr) H := hP
        have hD : va_D A (mw ad tt R w c k u1 wp wr) := hD
        have hrow := hw
        refine lv_aload_n hx hb dX1_isAsked_38 rfl (lv_at hl 0 rfl) ?_
        refine lv_iload_n hx hb dX1_isAsked_39 rfl (lv_at hl 1 rfl) ?_
        refine lv_iload_n hx hb dX1_isAsked_40 rfl (lv_at hl 2 rfl) ?_
        refine lv_iload_n hx hb dX1_isAsked_41 rfl (lv_at hl 3 rfl) ?_
        refine xs_Vv (wr := []) (q0 := 0) (ci := 1) (nA := 3) (As := [.int (nI r), .int ov, .int (nI t)]) (rest := []) S0 (k_X1_choose l D ad tt R w c k u1 wp wr hok ov t ht16 hrow r hrR) gX1_isAsked_X1_choose rfl ⟨rfl, rfl⟩ (by decide +kernel) rfl ⟨Nat.le_of_ble_eq_true rfl, Nat.le_of_ble_eq_true rfl⟩ ⟨Nat.le_of_ble_eq_true rfl, Nat.le_of_ble_eq_true rfl⟩ hK hP hD hS hA [0, 1, 2, 3, 4] [] rfl rfl (by decide) (by decide) (by decide) rfl rfl rfl hl.1 rfl (Nat.le_of_ble_eq_true rfl) dX1_isAsked_42 (fun u2 H locs hw hP hD hS => ?_)
        have hP : va_P D vwCl (mw ad tt R w c k u1 u2.1 u2.2) H := hP
        have hD : va_D A (mw ad tt R w c k u1 u2.1 u2.2) := hD
        have hch := hw
        refine lv_iconst (v := 1) hx hb dX1_isAsked_45 (by decide) ?_
        exact xr_z hx hb hr hlocks rfl (u1, (u2.1, u2.2)) (Or.inl ⟨rfl, r, t, hask, hrow, hch⟩) hP hK hD hS dX1_isAsked_46
      · refine lv_if_ne (tgt := 32) hx hb dX1_isAsked_16 (by decide) (fun c_13 => absurd c_13 (by decide)) (fun c_13 => ?_)
        refine lv_goto (tgt := 30) hx hb dX1_isAsked_19 (by decide) ?_
        refine lv_iconst (v := 0) hx hb dX1_isAsked_30 (by decide) ?_
        exact xr_z hx hb hr hlocks rfl (d, (wp, wr)) (Or.inr ⟨rfl, fun h => by first | exact h_r (as_r h) | exact h_w ((as_z h).1 hov) | exact h_z ((as_z h).2 hov)⟩) hP hK hD hS dX1_isAsked_31
  · refine lv_if_eq (tgt := 30) hx hb dX1_isAsked_5 (by decide) (fun c_14 => ?_) (fun c_14 => absurd c_14 (by decide))
    refine lv_iconst (v := 0) hx hb dX1_isAsked_30 (by decide) ?_
    exact xr_z hx hb hr hlocks rfl (d, (wp, wr)) (Or.inr ⟨rfl, fun h => by first | exact h_r (as_r h) | exact h_w ((as_z h).1 hov) | exact h_z ((as_z h).2 hov)⟩) hP hK hD hS dX1_isAsked_31
set_option maxHeartbeats 4000000 in
set_option maxRecDepth 100000 in
theorem k_X1_far (l : Launch) (D : va_G) (ad : Nat → Nat) (tt : Nat → ClassId) (R : Nat) (w c k d : Nat → Int32) (wp wr : Int32) (hok : ww_ok R w c) (x ov z : Int32) : xMi l yX1_far wsX1_far { frames := 4, cells := 0, slots := 0, locals := 96 } D (tyM tt) [.ref (ad 0), .int x, .int ov, .int z] (mw ad tt R w c k d wp wr) (fun u : (Nat → Int32) × (Int32 × Int32) => mw ad tt R w c k u.1 u.2.1 u.2.2) (fun v u => fa_ok R w c k x ov z v ∧ ∀ r t, asks R x ov z r t → ∀ a, a < R → u.1 a = nI (ww_M R w c k ov t a)) := by
  refine xe_i (cc := cX1_far) (maxL := 4) (ret := (some .int)) (lvl := [(0, .ref (ad 0)), (1, .int x), (2, .int ov), (3, .int z)]) (by decide) rfl (Nat.le_of_ble_eq_true rfl) rfl ?_
  intro p e s m below meth cd A ls hx hb hr hlocks hml hown hts hA hP hK hD hS hl
  have hin : ∀ w ∈ wsX10, w ∈ wsX1_far := fun _ h => List.mem_cons_of_mem _ (List.mem_append_right _ h)
  have S0 : CallFix p m cd cX1_far 4 s (([.ref (ad 0), .int x, .int ov, .int z] : List Value).toArray) wsX1_far RX1 := ⟨hx, hb, hml, hown, hts⟩
  obtain ⟨H, hH⟩ : ∃ H, H = s.heap := ⟨_, rfl⟩
  obtain ⟨locs, hlocs⟩ : ∃ q : List Loc, q = [] := ⟨_, rfl⟩
  have hP : va_P D vwCl (mw ad tt R w c k d wp wr) H := by rw [hH]; exact hP
  have hS : va_S A s.heap H locs := by rw [hH, hlocs]; exact hS
  suffices hgo : W p l e (headSpec wsX1_far ({ frames := 4, cells := 0, slots := 0, locals := 96 } : Room)).room s m (([.ref (ad 0), .int x, .int ov, .int z] : List Value).toArray) below meth cd H locs 0 0 (MQ below (va_Qi (fun v u => fa_ok R w c k x ov z v ∧ ∀ r t, asks R x ov z r t → ∀ a, a < R → u.1 a = nI (ww_M R w c k ov t a)) (xB D (tyM tt) A (fun u : (Nat → Int32) × (Int32 × Int32) => mw ad tt R w c k u.1 u.2.1 u.2.2)) A) ([.ref (ad 0), .int x, .int ov, .int z] : List Value).toArray s 0 0 A) (F0 m 0 ls []) by rw [hH, hlocs] at hgo; exact hgo
  clear hH hlocs
  have f_distance := hts (.fieldLink RX1 20 "WireWaysModel" "distance" "[I") (by decide +kernel)
  have hR : R ≤ 10 := hok.2.1
  refine lv_aload_n hx hb dX1_far_0 rfl (lv_at hl 0 rfl) ?_
  refine lv_iload_n hx hb dX1_far_1 rfl (lv_at hl 1 rfl) ?_
  refine lv_iload_n hx hb dX1_far_2 rfl (lv_at hl 2 rfl) ?_
  refine lv_iload_n hx hb dX1_far_3 rfl (lv_at hl 3 rfl) ?_
  refine xs_Vi (wr := []) (q0 := 0) (ci := 1) (nA := 3) (As := [.int x, .int ov, .int z]) (rest := []) S0 (k_X1_isAsked l D ad tt R w c k d wp wr hok x ov z) gX1_far_X1_isAsked rfl ⟨rfl, rfl⟩ (by decide +kernel) rfl ⟨Nat.le_of_ble_eq_true rfl, Nat.le_of_ble_eq_true rfl⟩ ⟨Nat.le_of_ble_eq_true rfl, Nat.le_of_ble_eq_true rfl⟩ hK hP hD hS hA [0, 1, 2, 3, 4] [] rfl rfl (by decide) (by decide) (by decide) rfl rfl rfl hl.1 rfl (Nat.le_of_ble_eq_true rfl) dX1_far_4 (fun r_1 u1 H locs hw hP hD hS => ?_)
  have hP : va_P D vwCl (mw ad tt R w c k u1.1 u1.2.1 u1.2.2) H := hP
  have hD : va_D A (mw ad tt R w c k u1.1 u1.2.1 u1.2.2) := hD
  rcases hw with ⟨rfl, r, t, hask, hrow, hch⟩ | ⟨rfl, hno⟩
  · obtain ⟨hrR, rfl, rfl, ht16, htR⟩ := id hask
    have hMr := (ww_M_ok hok k ov t).1 r hrR
    refine lv_if_eq (tgt := 30) hx hb dX1_far_7 (by decide) (fun c_2 => absurd c_2 (by decide)) (fun c_2 => ?_)
    refine lv_aload_n hx hb dX1_far_10 rfl (lv_at hl 0 rfl) ?_
    refine x1_get (v := .ref (ad 4)) S0 hin hK hP 4 (by decide) f_distance rfl rfl dX1_far_11 ?_
    refine lv_iload_n hx hb dX1_far_14 rfl (lv_at hl 1 rfl) ?_
    refine va_iald hx hb hK hP 4 3 rfl rfl (vp_in_nI (by omega) (by omega)) dX1_far_15 ?_
    refine xt_eq (z := u1.1 r) (congrArg u1.1 (nI_clamp (by omega))) ?_
    refine xt_eq (z := nI (ww_M R w c k ov t r)) (hrow r hrR) ?_
    refine lv_ldc (v := 100000) hx hb hown (hts (.constant RX1 42 100000) (by decide +kernel)) dX1_far_16 ?_
    refine lv_icmp_ge (tgt := 30) hx hb dX1_far_18 (by decide) (fun c_3 => ?_) (fun c_3 => ?_)
    · have hge : 100000 ≤ ww_M R w c k ov t r := (nI_leI (a := 100000) (by omega) (by omega)).mp c_3
      have hge2 : ¬ ww_T R w c k ov t r < 1000000 := fun h => absurd ((ww_M_iff hok hrR).mpr h) (by omega)
      refine lv_iconst (v := (-1)) hx hb dX1_far_30 (by decide) ?_
      exact xr_i hx hb hr hlocks (u1.1, (u1.2.1, u1.2.2)) (by first | exact ⟨Or.inr ⟨rfl, as_no2 hR hask hge2⟩, fun r' t' h => by obtain ⟨rfl, rfl⟩ := asks_one hR hask h; exact hrow⟩ | exact ⟨Or.inr ⟨rfl, as_no hno⟩, fun r' t' h => absurd ⟨r', t', h⟩ hno⟩) hP hK hD hS dX1_far_31
    · have hge : ww_M R w c k ov t r < 100000 := Nat.lt_of_not_le (fun h => c_3 (nI_le (a := 100000) h (by omega)))
      have hTK := (ww_M_iff hok hrR).mp hge
      refine lv_aload_n hx hb dX1_far_21 rfl (lv_at hl 0 rfl) ?_
      refine x1_get (v := .ref (ad 4)) S0 hin hK hP 4 (by decide) f_distance rfl rfl dX1_far_22 ?_
      refine lv_iload_n hx hb dX1_far_25 rfl (lv_at hl 1 rfl) ?_
      refine va_iald hx hb hK hP 4 3 rfl rfl (vp_in_nI (by omega) (by omega)) dX1_far_26 ?_
      refine xt_eq (z := u1.1 r) (congrArg u1.1 (nI_clamp (by omega))) ?_
      refine xt_eq (z := nI (ww_M R w c k ov t r)) (hrow r hrR) ?_
      refine lv_goto (tgt := 31) hx hb dX1_far_27 (by decide) ?_
      exact xr_i hx hb hr hlocks (u1.1, (u1.2.1, u1.2.2)) ⟨Or.inl ⟨r, t, ⟨hask, hTK⟩, by rw [ww_M_1 hTK]⟩, fun r' t' h => by obtain ⟨rfl, rfl⟩ := asks_one hR hask h; exact hrow⟩ hP hK hD hS dX1_far_31
  · refine lv_if_eq (tgt := 30) hx hb dX1_far_7 (by decide) (fun c_4 => ?_) (fun c_4 => absurd c_4 (by decide))
    refine lv_iconst (v := (-1)) hx hb dX1_far_30 (by decide) ?_
    exact xr_i hx hb hr hlocks (u1.1, (u1.2.1, u1.2.2)) (by first | exact ⟨Or.inr ⟨rfl, as_no2 hR hask hge2⟩, fun r' t' h => by obtain ⟨rfl, rfl⟩ := asks_one hR hask h; exact hrow⟩ | exact ⟨Or.inr ⟨rfl, as_no hno⟩, fun r' t' h => absurd ⟨r', t', h⟩ hno⟩) hP hK hD hS dX1_far_31
set_option maxHeartbeats 4000000 in
set_option maxRecDepth 100000 in
theorem k_X1_port (l : Launch) (D : va_G) (ad : Nat → Nat) (tt : Nat → ClassId) (R : Nat) (w c k d : Nat → Int32) (wp wr : Int32) (hok : ww_ok R w c) (x ov z : Int32) : xMi l yX1_port wsX1_port { frames := 4, cells := 0, slots := 0, locals := 96 } D (tyM tt) [.ref (ad 0), .int x, .int ov, .int z] (mw ad tt R w c k d wp wr) (fun u : (Nat → Int32) × (Int32 × Int32) => mw ad tt R w c k u.1 u.2.1 u.2.2) (fun v _ => po_ok R w c k x ov z v) := by
  refine xe_i (cc := cX1_port) (maxL := 4) (ret := (some .int)) (lvl := [(0, .ref (ad 0)), (1, .int x), (2, .int ov), (3, .int z)]) (by decide) rfl (Nat.le_of_ble_eq_true rfl) rfl ?_
  intro p e s m below meth cd A ls hx hb hr hlocks hml hown hts hA hP hK hD hS hl
  have hin : ∀ w ∈ wsX10, w ∈ wsX1_port := fun _ h => List.mem_cons_of_mem _ (List.mem_append_right _ h)
  have S0 : CallFix p m cd cX1_port 4 s (([.ref (ad 0), .int x, .int ov, .int z] : List Value).toArray) wsX1_port RX1 := ⟨hx, hb, hml, hown, hts⟩
  obtain ⟨H, hH⟩ : ∃ H, H = s.heap := ⟨_, rfl⟩
  obtain ⟨locs, hlocs⟩ : ∃ q : List Loc, q = [] := ⟨_, rfl⟩
  have hP : va_P D vwCl (mw ad tt R w c k d wp wr) H := by rw [hH]; exact hP
  have hS : va_S A s.heap H locs := by rw [hH, hlocs]; exact hS
  suffices hgo : W p l e (headSpec wsX1_port ({ frames := 4, cells := 0, slots := 0, locals := 96 } : Room)).room s m (([.ref (ad 0), .int x, .int ov, .int z] : List Value).toArray) below meth cd H locs 0 0 (MQ below (va_Qi (fun v _ => po_ok R w c k x ov z v) (xB D (tyM tt) A (fun u : (Nat → Int32) × (Int32 × Int32) => mw ad tt R w c k u.1 u.2.1 u.2.2)) A) ([.ref (ad 0), .int x, .int ov, .int z] : List Value).toArray s 0 0 A) (F0 m 0 ls []) by rw [hH, hlocs] at hgo; exact hgo
  clear hH hlocs
  have f_wayPort := hts (.fieldLink RX1 51 "WireWaysModel" "wayPort" "I") (by decide +kernel)
  have hR : R ≤ 10 := hok.2.1
  refine lv_aload_n hx hb dX1_port_0 rfl (lv_at hl 0 rfl) ?_
  refine lv_iload_n hx hb dX1_port_1 rfl (lv_at hl 1 rfl) ?_
  refine lv_iload_n hx hb dX1_port_2 rfl (lv_at hl 2 rfl) ?_
  refine lv_iload_n hx hb dX1_port_3 rfl (lv_at hl 3 rfl) ?_
  refine xs_Vi (wr := []) (q0 := 0) (ci := 1) (nA := 3) (As := [.int x, .int ov, .int z]) (rest := []) S0 (k_X1_isAsked l D ad tt R w c k d wp wr hok x ov z) gX1_port_X1_isAsked rfl ⟨rfl, rfl⟩ (by decide +kernel) rfl ⟨Nat.le_of_ble_eq_true rfl, Nat.le_of_ble_eq_true rfl⟩ ⟨Nat.le_of_ble_eq_true rfl, Nat.le_of_ble_eq_true rfl⟩ hK hP hD hS hA [0, 1, 2, 3, 4] [] rfl rfl (by decide) (by decide) (by decide) rfl rfl rfl hl.1 rfl (Nat.le_of_ble_eq_true rfl) dX1_port_4 (fun r_1 u1 H locs hw hP hD hS => ?_)
  have hP : va_P D vwCl (mw ad tt R w c k u1.1 u1.2.1 u1.2.2) H := hP
  have hD : va_D A (mw ad tt R w c k u1.1 u1.2.1 u1.2.2) := hD
  rcases hw with ⟨rfl, r, t, hask, hrow, hch⟩ | ⟨rfl, hno⟩
  · obtain ⟨hrR, rfl, rfl, ht16, htR⟩ := id hask
    have hMr := (ww_M_ok hok k ov t).1 r hrR
    refine lv_if_eq (tgt := 17) hx hb dX1_port_7 (by decide) (fun c_2 => absurd c_2 (by decide)) (fun c_2 => ?_)
    refine lv_aload_n hx hb dX1_port_10 rfl (lv_at hl 0 rfl) ?_
    refine x1_get (v := .int u1.2.1) S0 hin hK hP 5 (by decide) f_wayPort rfl rfl dX1_port_11 ?_
    refine lv_goto (tgt := 18) hx hb dX1_port_14 (by decide) ?_
    exact xr_i hx hb hr hlocks (u1.1, (u1.2.1, u1.2.2)) (ch_po hR hask hch) hP hK hD hS dX1_port_18
  · refine lv_if_eq (tgt := 17) hx hb dX1_port_7 (by decide) (fun c_3 => ?_) (fun c_3 => absurd c_3 (by decide))
    refine lv_iconst (v := (-1)) hx hb dX1_port_17 (by decide) ?_
    exact xr_i hx hb hr hlocks (u1.1, (u1.2.1, u1.2.2)) (Or.inr ⟨rfl, as_no hno⟩) hP hK hD hS dX1_port_18
set_option maxHeartbeats 4000000 in
set_option maxRecDepth 100000 in
theorem k_X1_next (l : Launch) (D : va_G) (ad : Nat → Nat) (tt : Nat → ClassId) (R : Nat) (w c k d : Nat → Int32) (wp wr : Int32) (hok : ww_ok R w c) (x ov z : Int32) : xMi l yX1_next wsX1_next { frames := 4, cells := 0, slots := 0, locals := 96 } D (tyM tt) [.ref (ad 0), .int x, .int ov, .int z] (mw ad tt R w c k d wp wr) (fun u : (Nat → Int32) × (Int32 × Int32) => mw ad tt R w c k u.1 u.2.1 u.2.2) (fun v _ => nx_ok R w c k x ov z v) := by
  refine xe_i (cc := cX1_next) (maxL := 4) (ret := (some .int)) (lvl := [(0, .ref (ad 0)), (1, .int x), (2, .int ov), (3, .int z)]) (by decide) rfl (Nat.le_of_ble_eq_true rfl) rfl ?_
  intro p e s m below meth cd A ls hx hb hr hlocks hml hown hts hA hP hK hD hS hl
  have hin : ∀ w ∈ wsX10, w ∈ wsX1_next := fun _ h => List.mem_cons_of_mem _ (List.mem_append_right _ h)
  have S0 : CallFix p m cd cX1_next 4 s (([.ref (ad 0), .int x, .int ov, .int z] : List Value).toArray) wsX1_next RX1 := ⟨hx, hb, hml, hown, hts⟩
  obtain ⟨H, hH⟩ : ∃ H, H = s.heap := ⟨_, rfl⟩
  obtain ⟨locs, hlocs⟩ : ∃ q : List Loc, q = [] := ⟨_, rfl⟩
  have hP : va_P D vwCl (mw ad tt R w c k d wp wr) H := by rw [hH]; exact hP
  have hS : va_S A s.heap H locs := by rw [hH, hlocs]; exact hS
  suffices hgo : W p l e (headSpec wsX1_next ({ frames := 4, cells := 0, slots := 0, locals := 96 } : Room)).room s m (([.ref (ad 0), .int x, .int ov, .int z] : List Value).toArray) below meth cd H locs 0 0 (MQ below (va_Qi (fun v _ => nx_ok R w c k x ov z v) (xB D (tyM tt) A (fun u : (Nat → Int32) × (Int32 × Int32) => mw ad tt R w c k u.1 u.2.1 u.2.2)) A) ([.ref (ad 0), .int x, .int ov, .int z] : List Value).toArray s 0 0 A) (F0 m 0 ls []) by rw [hH, hlocs] at hgo; exact hgo
  clear hH hlocs
  have f_wayRouter := hts (.fieldLink RX1 54 "WireWaysModel" "wayRouter" "I") (by decide +kernel)
  have hR : R ≤ 10 := hok.2.1
  refine lv_aload_n hx hb dX1_next_0 rfl (lv_at hl 0 rfl) ?_
  refine lv_iload_n hx hb dX1_next_1 rfl (lv_at hl 1 rfl) ?_
  refine lv_iload_n hx hb dX1_next_2 rfl (lv_at hl 2 rfl) ?_
  refine lv_iload_n hx hb dX1_next_3 rfl (lv_at hl 3 rfl) ?_
  refine xs_Vi (wr := []) (q0 := 0) (ci := 1) (nA := 3) (As := [.int x, .int ov, .int z]) (rest := []) S0 (k_X1_isAsked l D ad tt R w c k d wp wr hok x ov z) gX1_next_X1_isAsked rfl ⟨rfl, rfl⟩ (by decide +kernel) rfl ⟨Nat.le_of_ble_eq_true rfl, Nat.le_of_ble_eq_true rfl⟩ ⟨Nat.le_of_ble_eq_true rfl, Nat.le_of_ble_eq_true rfl⟩ hK hP hD hS hA [0, 1, 2, 3, 4] [] rfl rfl (by decide) (by decide) (by decide) rfl rfl rfl hl.1 rfl (Nat.le_of_ble_eq_true rfl) dX1_next_4 (fun r_1 u1 H locs hw hP hD hS => ?_)
  have hP : va_P D vwCl (mw ad tt R w c k u1.1 u1.2.1 u1.2.2) H := hP
  have hD : va_D A (mw ad tt R w c k u1.1 u1.2.1 u1.2.2) := hD
  rcases hw with ⟨rfl, r, t, hask, hrow, hch⟩ | ⟨rfl, hno⟩
  · obtain ⟨hrR, rfl, rfl, ht16, htR⟩ := id hask
    have hMr := (ww_M_ok hok k ov t).1 r hrR
    refine lv_if_eq (tgt := 17) hx hb dX1_next_7 (by decide) (fun c_2 => absurd c_2 (by decide)) (fun c_2 => ?_)
    refine lv_aload_n hx hb dX1_next_10 rfl (lv_at hl 0 rfl) ?_
    refine x1_get (v := .int u1.2.2) S0 hin hK hP 6 (by decide) f_wayRouter rfl rfl dX1_next_11 ?_
    refine lv_goto (tgt := 18) hx hb dX1_next_14 (by decide) ?_
    exact xr_i hx hb hr hlocks (u1.1, (u1.2.1, u1.2.2)) (ch_nx hR hask hch) hP hK hD hS dX1_next_18
  · refine lv_if_eq (tgt := 17) hx hb dX1_next_7 (by decide) (fun c_3 => ?_) (fun c_3 => absurd c_3 (by decide))
    refine lv_iconst (v := (-1)) hx hb dX1_next_17 (by decide) ?_
    exact xr_i hx hb hr hlocks (u1.1, (u1.2.1, u1.2.2)) (Or.inr ⟨rfl, as_no hno⟩) hP hK hD hS dX1_next_18
set_option maxHeartbeats 4000000 in
set_option maxRecDepth 100000 in
theorem k_X1_walk (l : Launch) (D : va_G) (ad : Nat → Nat) (tt : Nat → ClassId) (R : Nat) (w c k d : Nat → Int32) (wp wr : Int32) (hok : ww_ok R w c) (x ov z kk : Int32) : xMi l yX1_walk wsX1_walk { frames := 5, cells := 0, slots := 0, locals := 119 } D (tyM tt) [.ref (ad 0), .int x, .int ov, .int z, .int kk] (mw ad tt R w c k d wp wr) (fun u : (Nat → Int32) × (Int32 × Int32) => mw ad tt R w c k u.1 u.2.1 u.2.2) (fun v _ => wk_ok R w c k x ov z kk v) := by
  refine xe_i (cc := cX1_walk) (maxL := 7) (ret := (some .int)) (lvl := [(0, .ref (ad 0)), (1, .int x), (2, .int ov), (3, .int z), (4, .int kk)]) (by decide) rfl (Nat.le_of_ble_eq_true rfl) rfl ?_
  intro p e s m below meth cd A ls hx hb hr hlocks hml hown hts hA hP hK hD hS hl
  have hin : ∀ w ∈ wsX10, w ∈ wsX1_walk := fun _ h => List.mem_cons_of_mem _ (List.mem_append_right _ h)
  have S0 : CallFix p m cd cX1_walk 7 s (([.ref (ad 0), .int x, .int ov, .int z, .int kk] : List Value).toArray) wsX1_walk RX1 := ⟨hx, hb, hml, hown, hts⟩
  obtain ⟨H, hH⟩ : ∃ H, H = s.heap := ⟨_, rfl⟩
  obtain ⟨locs, hlocs⟩ : ∃ q : List Loc, q = [] := ⟨_, rfl⟩
  have hP : va_P D vwCl (mw ad tt R w c k d wp wr) H := by rw [hH]; exact hP
  have hS : va_S A s.heap H locs := by rw [hH, hlocs]; exact hS
  suffices hgo : W p l e (headSpec wsX1_walk ({ frames := 5, cells := 0, slots := 0, locals := 119 } : Room)).room s m (([.ref (ad 0), .int x, .int ov, .int z, .int kk] : List Value).toArray) below meth cd H locs 0 0 (MQ below (va_Qi (fun v _ => wk_ok R w c k x ov z kk v) (xB D (tyM tt) A (fun u : (Nat → Int32) × (Int32 × Int32) => mw ad tt R w c k u.1 u.2.1 u.2.2)) A) ([.ref (ad 0), .int x, .int ov, .int z, .int kk] : List Value).toArray s 0 0 A) (F0 m 0 ls []) by rw [hH, hlocs] at hgo; exact hgo
  clear hH hlocs
  have f_wayRouter := hts (.fieldLink RX1 54 "WireWaysModel" "wayRouter" "I") (by decide +kernel)
  have hR : R ≤ 10 := hok.2.1
  refine lv_iload hx hb dX1_walk_0 (lv_at hl 4 rfl) ?_
  refine lv_if_lt (tgt := 16) hx hb dX1_walk_2 (by decide) (fun c_1 => ?_) (fun c_1 => ?_)
  · have hk0 := c_1
    refine lv_iconst (v := (-1)) hx hb dX1_walk_16 (by decide) ?_
    exact xr_i hx hb hr hlocks (d, (wp, wr)) (by first | exact Or.inr ⟨rfl, Or.inl hk0⟩ | exact Or.inr ⟨rfl, Or.inr hno⟩) hP hK hD hS dX1_walk_17
  · have hk1 := c_1
    refine lv_aload_n hx hb dX1_walk_5 rfl (lv_at hl 0 rfl) ?_
    refine lv_iload_n hx hb dX1_walk_6 rfl (lv_at hl 1 rfl) ?_
    refine lv_iload_n hx hb dX1_walk_7 rfl (lv_at hl 2 rfl) ?_
    refine lv_iload_n hx hb dX1_walk_8 rfl (lv_at hl 3 rfl) ?_
    refine xs_Vi (wr := []) (q0 := 0) (ci := 1) (nA := 3) (As := [.int x, .int ov, .int z]) (rest := []) S0 (k_X1_far l D ad tt R w c k d wp wr hok x ov z) gX1_walk_X1_far rfl ⟨rfl, rfl⟩ (by decide +kernel) rfl ⟨Nat.le_of_ble_eq_true rfl, Nat.le_of_ble_eq_true rfl⟩ ⟨Nat.le_of_ble_eq_true rfl, Nat.le_of_ble_eq_true rfl⟩ hK hP hD hS hA [0, 1, 2, 3, 4] [] rfl rfl (by decide) (by decide) (by decide) rfl rfl rfl hl.1 rfl (Nat.le_of_ble_eq_true rfl) dX1_walk_9 (fun r_2 u1 H locs hw hP hD hS => ?_)
    have hP : va_P D vwCl (mw ad tt R w c k u1.1 u1.2.1 u1.2.2) H := hP
    have hD : va_D A (mw ad tt R w c k u1.1 u1.2.1 u1.2.2) := hD
    have hfa := hw
    refine lv_iconst (v := (-1)) hx hb dX1_walk_12 (by decide) ?_
    refine lv_icmp_ne (tgt := 18) hx hb dX1_walk_13 (by decide) (fun c_3 => ?_) (fun c_3 => ?_)
    · have hcm9 : ∃ r t, come R w c k x ov z r t := Classical.byContradiction (fun h => c_3 ((fa_m1 hok hfa.1).mpr h))
      obtain ⟨r, t, hcm⟩ := hcm9
      have hrow := hfa.2 r t hcm.1
      obtain ⟨⟨hrR, rfl, rfl, ht0⟩, hTK⟩ := id hcm
      have ht16 := asks_t hR hcm.1
      obtain ⟨kn, hkn, rfl⟩ := nI_of hk1
      refine lv_iload_n hx hb dX1_walk_18 rfl (lv_at hl 1 rfl) ?_
      refine lv_istore (lv' := [(5, .int (nI r)), (0, .ref (ad 0)), (1, .int (nI r)), (2, .int ov), (3, .int (nI t)), (4, .int (nI kn))]) hx hb dX1_walk_19 hl (by decide) rfl (fun ls hl => ?_)
      refine lv_iconst (v := 0) hx hb dX1_walk_21 (by decide) ?_
      refine lv_istore (lv' := [(6, .int 0), (5, .int (nI r)), (0, .ref (ad 0)), (1, .int (nI r)), (2, .int ov), (3, .int (nI t)), (4, .int (nI kn))]) hx hb dX1_walk_22 hl (by decide) rfl (fun ls hl => ?_)
      have lp24 : ∀ (fuel : Nat) (m9 : Nat) (at9 : Int32) (p1 : Int32) (q1 : Int32), (m9 ≤ kn) → ((∃ a, at9 = nI a ∧ a < R ∧ ww_T R w c k ov t a < 1000000 ∧ wks (ww_tg w k ov t) (ww_E R w k) (ww_c c) 1000000 (ww_T R w c k ov t) m9 r a) ∨ (at9 = -1 ∧ ¬ ∃ a, wks (ww_tg w k ov t) (ww_E R w k) (ww_c c) 1000000 (ww_T R w c k ov t) m9 r a)) → kn - m9 < fuel → ∀ (H : Heap) (locs : List Loc) (ls : Array Slot), va_P D vwCl (mw ad tt R w c k u1.1 p1 q1) H → va_D A (mw ad tt R w c k u1.1 p1 q1) → va_S A s.heap H locs → lv_has ls 7 [(6, .int (nI m9)), (5, .int at9), (0, .ref (ad 0)), (1, .int (nI r)), (2, .int ov), (3, .int (nI t)), (4, .int (nI kn))] → W p l e (headSpec wsX1_walk ({ frames := 5, cells := 0, slots := 0, locals := 119 } : Room)).room s m ([.ref (ad 0), .int (nI r), .int ov, .int (nI t), .int (nI kn)] : List Value).toArray below meth cd H locs 0 0 (MQ below (va_Qi (fun v _ => wk_ok R w c k (nI r) ov (nI t) (nI kn) v) (xB D (tyM tt) A (fun u : (Nat → Int32) × (Int32 × Int32) => mw ad tt R w c k u.1 u.2.1 u.2.2)) A) ([.ref (ad 0), .int (nI r), .int ov, .int (nI t), .int (nI kn)] : List Value).toArray s 0 0 A) (F0 m 24 ls []) := by
        intro fuel
        induction fuel with
        | zero => intro m9 at9 p1 q1 hm0 hat hm; exact absurd hm (Nat.not_lt_zero _)
        | succ fuel ih24 =>
          intro m9 at9 p1 q1 hm0 hat hm H locs ls hP hD hS hl
          refine lv_iload hx hb dX1_walk_24 (lv_at hl 0 rfl) ?_
          refine lv_iload hx hb dX1_walk_26 (lv_at hl 6 rfl) ?_
          refine lv_icmp_ge (tgt := 57) hx hb dX1_walk_28 (by decide) (fun c_4 => ?_) (fun c_4 => ?_)
          · have hmk : kn ≤ m9 := (nI_leI (by omega) (by omega)).mp c_4
            refine lv_iload hx hb dX1_walk_57 (lv_at hl 1 rfl) ?_
            exact xr_i hx hb hr hlocks (u1.1, (p1, q1)) (by first | exact Or.inl ⟨r, t, kn, hcm, hkn, rfl, Or.inr ⟨c_4, by have h9 := wks_stop hst (kn - m9); rw [show m9 + (kn - m9) = kn by omega] at h9; exact h9⟩⟩ | exact Or.inl ⟨r, t, kn, hcm, hkn, rfl, by rw [show kn = m9 by omega]; exact hat.imp (fun ⟨a, h1, _, _, h2⟩ => ⟨a, h1, h2⟩) id⟩) hP hK hD hS dX1_walk_59
          · have hmk : m9 < kn := Nat.lt_of_not_le (fun h => c_4 (nI_le h (by omega)))
            refine lv_iload hx hb dX1_walk_31 (lv_at hl 1 rfl) ?_
            refine lv_iconst (v := (-1)) hx hb dX1_walk_33 (by decide) ?_
            refine lv_icmp_eq (tgt := 57) hx hb dX1_walk_34 (by decide) (fun c_5 => ?_) (fun c_5 => ?_)
            · have hst : ¬ ∃ a, wks (ww_tg w k ov t) (ww_E R w k) (ww_c c) 1000000 (ww_T R w c k ov t) m9 r a := by
                rcases hat with ⟨a, e, h1, h2, -⟩ | ⟨-, h⟩
                · exact absurd (e.symm.trans c_5) (nI_m1 (by omega))
                · exact h
              refine lv_iload hx hb dX1_walk_57 (lv_at hl 1 rfl) ?_
              exact xr_i hx hb hr hlocks (u1.1, (p1, q1)) (by first | exact Or.inl ⟨r, t, kn, hcm, hkn, rfl, Or.inr ⟨c_5, by have h9 := wks_stop hst (kn - m9); rw [show m9 + (kn - m9) = kn by omega] at h9; exact h9⟩⟩ | exact Or.inl ⟨r, t, kn, hcm, hkn, rfl, by rw [show kn = m9 by omega]; exact hat.imp (fun ⟨a, h1, _, _, h2⟩ => ⟨a, h1, h2⟩) id⟩) hP hK hD hS dX1_walk_59
            · obtain ⟨a, ea, haR, haK, hws⟩ := hat.resolve_right (fun h => c_5 h.1)
              subst ea
              refine lv_aload_n hx hb dX1_walk_37 rfl (lv_at hl 2 rfl) ?_
              refine lv_iload hx hb dX1_walk_38 (lv_at hl 1 rfl) ?_
              refine lv_iload_n hx hb dX1_walk_40 rfl (lv_at hl 4 rfl) ?_
              refine lv_iload_n hx hb dX1_walk_41 rfl (lv_at hl 5 rfl) ?_
              refine xs_Vv (wr := []) (q0 := 0) (ci := 1) (nA := 3) (As := [.int (nI a), .int ov, .int (nI t)]) (rest := []) S0 (k_X1_choose l D ad tt R w c k u1.1 p1 q1 hok ov t ht16 hrow a haR) gX1_walk_X1_choose rfl ⟨rfl, rfl⟩ (by decide +kernel) rfl ⟨Nat.le_of_ble_eq_true rfl, Nat.le_of_ble_eq_true rfl⟩ ⟨Nat.le_of_ble_eq_true rfl, Nat.le_of_ble_eq_true rfl⟩ hK hP hD hS hA [0, 1, 2, 3, 4] [] rfl rfl (by decide) (by decide) (by decide) rfl rfl rfl hl.1 rfl (Nat.le_of_ble_eq_true rfl) dX1_walk_42 (fun u2 H locs hw hP hD hS => ?_)
              have hP : va_P D vwCl (mw ad tt R w c k u1.1 u2.1 u2.2) H := hP
              have hD : va_D A (mw ad tt R w c k u1.1 u2.1 u2.2) := hD
              have hch := hw
              refine lv_aload_n hx hb dX1_walk_45 rfl (lv_at hl 2 rfl) ?_
              refine x1_get (v := .int u2.2) S0 hin hK hP 6 (by decide) f_wayRouter rfl rfl dX1_walk_46 ?_
              refine lv_istore (lv' := [(5, .int u2.2), (6, .int (nI m9)), (0, .ref (ad 0)), (1, .int (nI r)), (2, .int ov), (3, .int (nI t)), (4, .int (nI kn))]) hx hb dX1_walk_49 hl (by decide) rfl (fun ls hl => ?_)
              refine lv_iinc (v := nI (m9 + 1)) (lv' := [(6, .int (nI (m9 + 1))), (5, .int u2.2), (0, .ref (ad 0)), (1, .int (nI r)), (2, .int ov), (3, .int (nI t)), (4, .int (nI kn))]) hx hb dX1_walk_51 hl (k := 1) rfl (nI_1 m9) (by decide) rfl (fun ls hl => ?_)
              refine lv_goto (tgt := 24) hx hb dX1_walk_54 (by decide) ?_
              exact ih24 (m9 + 1) u2.2 u2.1 u2.2 (by omega) (wk_step hok haR haK hws hch) (by omega) H locs ls hP hD hS (lv_sub hl [0, 1, 2, 3, 4, 5, 6] rfl)
      exact lp24 _ 0 (nI r) u1.2.1 u1.2.2 (by omega) (Or.inl ⟨r, rfl, hrR, hTK, rfl⟩) (Nat.lt_succ_self _) H locs ls hP hD hS (lv_sub hl [0, 1, 2, 3, 4, 5, 6] rfl)
    · have hno := (fa_m1 hok hfa.1).mp c_3
      refine lv_iconst (v := (-1)) hx hb dX1_walk_16 (by decide) ?_
      exact xr_i hx hb hr hlocks (u1.1, (u1.2.1, u1.2.2)) (by first | exact Or.inr ⟨rfl, Or.inl hk0⟩ | exact Or.inr ⟨rfl, Or.inr hno⟩) hP hK hD hS dX1_walk_17
set_option maxHeartbeats 4000000 in
set_option maxRecDepth 100000 in
theorem k_X1_reach (l : Launch) (D : va_G) (ad : Nat → Nat) (tt : Nat → ClassId) (R : Nat) (w c k d : Nat → Int32) (wp wr : Int32) (hok : ww_ok R w c) (x : Int32) : xMi l yX1_reach wsX1_reach { frames := 5, cells := 0, slots := 0, locals := 119 } D (tyM tt) [.ref (ad 0), .int x] (mw ad tt R w c k d wp wr) (fun u : (Nat → Int32) × (Int32 × Int32) => mw ad tt R w c k u.1 u.2.1 u.2.2) (fun v _ => rc_ok R w c k x v) := by
  refine xe_i (cc := cX1_reach) (maxL := 4) (ret := (some .int)) (lvl := [(0, .ref (ad 0)), (1, .int x)]) (by decide) rfl (Nat.le_of_ble_eq_true rfl) rfl ?_
  intro p e s m below meth cd A ls hx hb hr hlocks hml hown hts hA hP hK hD hS hl
  have hin : ∀ w ∈ wsX10, w ∈ wsX1_reach := fun _ h => List.mem_cons_of_mem _ (List.mem_append_right _ h)
  have S0 : CallFix p m cd cX1_reach 4 s (([.ref (ad 0), .int x] : List Value).toArray) wsX1_reach RX1 := ⟨hx, hb, hml, hown, hts⟩
  obtain ⟨H, hH⟩ : ∃ H, H = s.heap := ⟨_, rfl⟩
  obtain ⟨locs, hlocs⟩ : ∃ q : List Loc, q = [] := ⟨_, rfl⟩
  have hP : va_P D vwCl (mw ad tt R w c k d wp wr) H := by rw [hH]; exact hP
  have hS : va_S A s.heap H locs := by rw [hH, hlocs]; exact hS
  suffices hgo : W p l e (headSpec wsX1_reach ({ frames := 5, cells := 0, slots := 0, locals := 119 } : Room)).room s m (([.ref (ad 0), .int x] : List Value).toArray) below meth cd H locs 0 0 (MQ below (va_Qi (fun v _ => rc_ok R w c k x v) (xB D (tyM tt) A (fun u : (Nat → Int32) × (Int32 × Int32) => mw ad tt R w c k u.1 u.2.1 u.2.2)) A) ([.ref (ad 0), .int x] : List Value).toArray s 0 0 A) (F0 m 0 ls []) by rw [hH, hlocs] at hgo; exact hgo
  clear hH hlocs
  have f_routers := hts (.fieldLink RX1 23 "WireWaysModel" "routers" "I") (by decide +kernel)
  have hR : R ≤ 10 := hok.2.1
  refine lv_aload_n hx hb dX1_reach_0 rfl (lv_at hl 0 rfl) ?_
  refine lv_iload_n hx hb dX1_reach_1 rfl (lv_at hl 1 rfl) ?_
  refine xs_Vi (wr := []) (q0 := 0) (ci := 1) (nA := 1) (As := [.int x]) (rest := []) S0 (k_X1_isRouter l D ad tt R w c k d wp wr x hR) gX1_reach_X1_isRouter rfl ⟨rfl, rfl⟩ (by decide +kernel) rfl ⟨Nat.le_of_ble_eq_true rfl, Nat.le_of_ble_eq_true rfl⟩ ⟨Nat.le_of_ble_eq_true rfl, Nat.le_of_ble_eq_true rfl⟩ hK hP hD hS hA [0, 1, 2, 3, 4] [] rfl rfl (by decide) (by decide) (by decide) rfl rfl rfl hl.1 rfl (Nat.le_of_ble_eq_true rfl) dX1_reach_2 (fun r_1 u H locs hw hP hD hS => ?_)
  have hP : va_P D vwCl (mw ad tt R w c k d wp wr) H := hP
  have hD : va_D A (mw ad tt R w c k d wp wr) := hD
  rcases hw with ⟨rfl, h_r⟩ | ⟨rfl, h_r⟩
  · refine lv_if_ne (tgt := 10) hx hb dX1_reach_5 (by decide) (fun c_2 => ?_) (fun c_2 => absurd c_2 (by decide))
    obtain ⟨r, hrR, rfl⟩ := h_r
    refine lv_iconst (v := 0) hx hb dX1_reach_10 (by decide) ?_
    refine lv_istore_n (lv' := [(2, .int 0), (0, .ref (ad 0)), (1, .int (nI r))]) hx hb dX1_reach_11 rfl hl (by decide) rfl (fun ls hl => ?_)
    refine lv_iconst (v := 0) hx hb dX1_reach_12 (by decide) ?_
    refine lv_istore_n (lv' := [(3, .int 0), (2, .int 0), (0, .ref (ad 0)), (1, .int (nI r))]) hx hb dX1_reach_13 rfl hl (by decide) rfl (fun ls hl => ?_)
    have lp14 : ∀ (fuel : Nat) (a : Nat) (cn : Nat) (d1 : Nat → Int32) (p1 : Int32) (q1 : Int32), (a ≤ R) → (cn = dm_cnt (fun a => decide (ww_T R w c k 0 a r < 1000000)) a) → R - a < fuel → ∀ (H : Heap) (locs : List Loc) (ls : Array Slot), va_P D vwCl (mw ad tt R w c k d1 p1 q1) H → va_D A (mw ad tt R w c k d1 p1 q1) → va_S A s.heap H locs → lv_has ls 4 [(3, .int (nI a)), (2, .int (nI cn)), (0, .ref (ad 0)), (1, .int (nI r))] → W p l e (headSpec wsX1_reach ({ frames := 5, cells := 0, slots := 0, locals := 119 } : Room)).room s m ([.ref (ad 0), .int (nI r)] : List Value).toArray below meth cd H locs 0 0 (MQ below (va_Qi (fun v _ => rc_ok R w c k (nI r) v) (xB D (tyM tt) A (fun u : (Nat → Int32) × (Int32 × Int32) => mw ad tt R w c k u.1 u.2.1 u.2.2)) A) ([.ref (ad 0), .int (nI r)] : List Value).toArray s 0 0 A) (F0 m 14 ls []) := by
      intro fuel
      induction fuel with
      | zero => intro a cn d1 p1 q1 ha0 hcn hm; exact absurd hm (Nat.not_lt_zero _)
      | succ fuel ih14 =>
        intro a cn d1 p1 q1 ha0 hcn hm H locs ls hP hD hS hl
        refine lv_iload_n hx hb dX1_reach_14 rfl (lv_at hl 0 rfl) ?_
        refine lv_aload_n hx hb dX1_reach_15 rfl (lv_at hl 2 rfl) ?_
        refine x1_get (v := .int (nI R)) S0 hin hK hP 0 (by decide) f_routers rfl rfl dX1_reach_16 ?_
        refine lv_icmp_ge (tgt := 47) hx hb dX1_reach_19 (by decide) (fun c_3 => ?_) (fun c_3 => ?_)
        · have haR : R ≤ a := (nI_leI (by omega) (by omega)).mp c_3
          refine lv_iload_n hx hb dX1_reach_47 rfl (lv_at hl 1 rfl) ?_
          exact xr_i hx hb hr hlocks (d1, (p1, q1)) (Or.inl ⟨r, hrR, rfl, congrArg nI (rc_cnt hok hrR (by rw [hcn, show a = R by omega]))⟩) hP hK hD hS dX1_reach_48
        · have haR : a < R := Nat.lt_of_not_le (fun h => c_3 (nI_le h (by omega)))
          refine lv_iload_n hx hb dX1_reach_22 rfl (lv_at hl 1 rfl) ?_
          refine lv_aload_n hx hb dX1_reach_23 rfl (lv_at hl 2 rfl) ?_
          refine lv_iload_n hx hb dX1_reach_24 rfl (lv_at hl 3 rfl) ?_
          refine lv_iconst (v := 0) hx hb dX1_reach_25 (by decide) ?_
          refine lv_iload_n hx hb dX1_reach_26 rfl (lv_at hl 0 rfl) ?_
          refine xs_Vi (wr := []) (q0 := 0) (ci := 1) (nA := 3) (As := [.int (nI r), .int 0, .int (nI a)]) (rest := [.int (nI cn)]) S0 (k_X1_far l D ad tt R w c k d1 p1 q1 hok (nI r) 0 (nI a)) gX1_reach_X1_far rfl ⟨rfl, rfl⟩ (by decide +kernel) rfl ⟨Nat.le_of_ble_eq_true rfl, Nat.le_of_ble_eq_true rfl⟩ ⟨Nat.le_of_ble_eq_true rfl, Nat.le_of_ble_eq_true rfl⟩ hK hP hD hS hA [0, 1, 2, 3, 4] [] rfl rfl (by decide) (by decide) (by decide) rfl rfl rfl hl.1 rfl (Nat.le_of_ble_eq_true rfl) dX1_reach_27 (fun r_4 u1 H locs hw hP hD hS => ?_)
          have hP : va_P D vwCl (mw ad tt R w c k u1.1 u1.2.1 u1.2.2) H := hP
          have hD : va_D A (mw ad tt R w c k u1.1 u1.2.1 u1.2.2) := hD
          have hfa := fa_0 hrR haR hok hw.1
          refine lv_iconst (v := (-1)) hx hb dX1_reach_30 (by decide) ?_
          refine lv_icmp_ne (tgt := 38) hx hb dX1_reach_31 (by decide) (fun c_5 => ?_) (fun c_5 => ?_)
          · have hp : ww_T R w c k 0 a r < 1000000 := Classical.byContradiction (fun h => c_5 (hfa.mpr h))
            refine lv_iconst (v := 1) hx hb dX1_reach_38 (by decide) ?_
            refine lv_iadd hx hb dX1_reach_39 ?_
            refine xt_eq (z := nI (cn + 1)) (nI_1 cn) ?_
            refine lv_istore_n (lv' := [(2, .int (nI (cn + 1))), (3, .int (nI a)), (0, .ref (ad 0)), (1, .int (nI r))]) hx hb dX1_reach_40 rfl hl (by decide) rfl (fun ls hl => ?_)
            refine lv_iinc (v := nI (a + 1)) (lv' := [(3, .int (nI (a + 1))), (2, .int (nI (cn + 1))), (0, .ref (ad 0)), (1, .int (nI r))]) hx hb dX1_reach_41 hl (k := 1) rfl (nI_1 a) (by decide) rfl (fun ls hl => ?_)
            refine lv_goto (tgt := 14) hx hb dX1_reach_44 (by decide) ?_
            exact ih14 (a + 1) (cn + 1) u1.1 u1.2.1 u1.2.2 (by omega) (cnt_t hcn (decide_eq_true hp)) (by omega) H locs ls hP hD hS (lv_sub hl [0, 1, 2, 3] rfl)
          · have hp := hfa.mp c_5
            refine lv_iconst (v := 0) hx hb dX1_reach_34 (by decide) ?_
            refine lv_goto (tgt := 39) hx hb dX1_reach_35 (by decide) ?_
            refine lv_iadd hx hb dX1_reach_39 ?_
            refine xt_eq (z := nI cn) (nI_add cn 0) ?_
            refine lv_istore_n (lv' := [(2, .int (nI cn)), (3, .int (nI a)), (0, .ref (ad 0)), (1, .int (nI r))]) hx hb dX1_reach_40 rfl hl (by decide) rfl (fun ls hl => ?_)
            refine lv_iinc (v := nI (a + 1)) (lv' := [(3, .int (nI (a + 1))), (2, .int (nI cn)), (0, .ref (ad 0)), (1, .int (nI r))]) hx hb dX1_reach_41 hl (k := 1) rfl (nI_1 a) (by decide) rfl (fun ls hl => ?_)
            refine lv_goto (tgt := 14) hx hb dX1_reach_44 (by decide) ?_
            exact ih14 (a + 1) cn u1.1 u1.2.1 u1.2.2 (by omega) (cnt_f hcn (fun h => hp (of_decide_eq_true h))) (by omega) H locs ls hP hD hS (lv_sub hl [0, 1, 2, 3] rfl)
    exact lp14 _ 0 0 d wp wr (by omega) rfl (Nat.lt_succ_self _) H locs ls hP hD hS (lv_sub hl [0, 1, 2, 3] rfl)
  · refine lv_if_ne (tgt := 10) hx hb dX1_reach_5 (by decide) (fun c_6 => absurd c_6 (by decide)) (fun c_6 => ?_)
    refine lv_iconst (v := (-1)) hx hb dX1_reach_8 (by decide) ?_
    exact xr_i hx hb hr hlocks (d, (wp, wr)) (Or.inr ⟨rfl, h_r⟩) hP hK hD hS dX1_reach_9
