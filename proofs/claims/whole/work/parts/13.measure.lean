set_option maxHeartbeats 4000000 in
set_option maxRecDepth 100000 in
theorem k_X0_measure (l : Launch) (D : va_G) (ad : Nat → Nat) (tt : Nat → ClassId) (R : Nat) (w c k d n : Nat → Int32) (wp wr : Int32) (hok : ww_ok R w c) (ov : Int32) (t : Nat) (ht : (ov ≠ 0 → t < 16 ∧ k t = 0) ∧ (ov = 0 → t < R)) (T0 : Nat → Nat) (hT0 : dm_ok R (ww_tg w k ov t) (ww_E R w k) (ww_c c) 1000000 T0) : xMv l yX0_measure wsX0_measure { frames := 3, cells := 0, slots := 0, locals := 66 } D (tyX tt) [.ref (ad 0), .int ov, .int (nI t)] (xw ad tt R w c k d n wp wr) (fun u : (Nat → Int32) × (Nat → Int32) => xw ad tt R w c k u.1 u.2 wp wr) (fun u => ∀ r, r < R → u.1 r = nI (T0 r)) := by
  refine xe_v (cc := cX0_measure) (maxL := 5) (ret := none) (lvl := [(0, .ref (ad 0)), (1, .int ov), (2, .int (nI t))]) (by decide) rfl (Nat.le_of_ble_eq_true rfl) rfl ?_
  intro p e s m below meth cd A ls hx hb hr hlocks hml hown hts hA hP hK hD hS hl
  have hin : ∀ w ∈ wsX00, w ∈ wsX0_measure := fun _ h => List.mem_cons_of_mem _ (List.mem_append_right _ h)
  have S0 : CallFix p m cd cX0_measure 5 s (([.ref (ad 0), .int ov, .int (nI t)] : List Value).toArray) wsX0_measure RX0 := ⟨hx, hb, hml, hown, hts⟩
  obtain ⟨H, hH⟩ : ∃ H, H = s.heap := ⟨_, rfl⟩
  obtain ⟨locs, hlocs⟩ : ∃ q : List Loc, q = [] := ⟨_, rfl⟩
  have hP : va_P D vwCl (xw ad tt R w c k d n wp wr) H := by rw [hH]; exact hP
  have hS : va_S A s.heap H locs := by rw [hH, hlocs]; exact hS
  suffices hgo : W p l e (headSpec wsX0_measure ({ frames := 3, cells := 0, slots := 0, locals := 66 } : Room)).room s m (([.ref (ad 0), .int ov, .int (nI t)] : List Value).toArray) below meth cd H locs 0 0 (MQ below (va_Qv (fun u => ∀ r, r < R → u.1 r = nI (T0 r)) (xB D (tyX tt) A (fun u : (Nat → Int32) × (Nat → Int32) => xw ad tt R w c k u.1 u.2 wp wr)) A) ([.ref (ad 0), .int ov, .int (nI t)] : List Value).toArray s 0 0 A) (F0 m 0 ls []) by rw [hH, hlocs] at hgo; exact hgo
  clear hH hlocs
  have f_routers := hts (.fieldLink RX0 18 "WireWays" "routers" "I") (by decide +kernel)
  have f_distance := hts (.fieldLink RX0 33 "WireWays" "distance" "[I") (by decide +kernel)
  have hR : R ≤ 10 := hok.2.1
  have htb : t < 16 := by
    by_cases h : ov = 0
    · have := ht.2 h; omega
    · exact (ht.1 h).1
  refine lv_iconst (v := 0) hx hb dX0_measure_0 (by decide) ?_
  refine lv_istore_n (lv' := [(3, .int 0), (0, .ref (ad 0)), (1, .int ov), (2, .int (nI t))]) hx hb dX0_measure_1 rfl hl (by decide) rfl (fun ls hl => ?_)
  have lp2 : ∀ (fuel : Nat) (r : Nat) (d1 : Nat → Int32), (r ≤ R) → (∀ a, a < r → (ww_tg w k ov t a → d1 a = nI 0) ∧ (¬ ww_tg w k ov t a → d1 a = nI 1000000)) → R - r < fuel → ∀ (H : Heap) (locs : List Loc) (ls : Array Slot), va_P D vwCl (xw ad tt R w c k d1 n wp wr) H → va_D A (xw ad tt R w c k d1 n wp wr) → va_S A s.heap H locs → lv_has ls 5 [(3, .int (nI r)), (0, .ref (ad 0)), (1, .int ov), (2, .int (nI t))] → W p l e (headSpec wsX0_measure ({ frames := 3, cells := 0, slots := 0, locals := 66 } : Room)).room s m ([.ref (ad 0), .int ov, .int (nI t)] : List Value).toArray below meth cd H locs 0 0 (MQ below (va_Qv (fun u => ∀ r, r < R → u.1 r = nI (T0 r)) (xB D (tyX tt) A (fun u : (Nat → Int32) × (Nat → Int32) => xw ad tt R w c k u.1 u.2 wp wr)) A) ([.ref (ad 0), .int ov, .int (nI t)] : List Value).toArray s 0 0 A) (F0 m 2 ls []) := by
    intro fuel
    induction fuel with
    | zero => intro r d1 hr0 hd1 hm; exact absurd hm (Nat.not_lt_zero _)
    | succ fuel ih2 =>
      intro r d1 hr0 hd1 hm H locs ls hP hD hS hl
      refine lv_iload_n hx hb dX0_measure_2 rfl (lv_at hl 0 rfl) ?_
      refine lv_aload_n hx hb dX0_measure_3 rfl (lv_at hl 1 rfl) ?_
      refine x0_get (v := .int (nI R)) S0 hin hK hP 0 (by decide) f_routers rfl rfl dX0_measure_4 ?_
      refine lv_icmp_ge (tgt := 67) hx hb dX0_measure_7 (by decide) (fun c_1 => ?_) (fun c_1 => ?_)
      · have hrR : R ≤ r := (nI_leI (by omega) (by omega)).mp c_1
        obtain ⟨dn, hdn, hlo, hz⟩ := me_init hT0 (fun a ha => hd1 a (by omega))
        refine lv_iconst (v := 1) hx hb dX0_measure_67 (by decide) ?_
        refine lv_istore_n (lv' := [(3, .int 1), (0, .ref (ad 0)), (1, .int ov), (2, .int (nI t))]) hx hb dX0_measure_68 rfl hl (by decide) rfl (fun ls hl => ?_)
        refine lv_iconst (v := 0) hx hb dX0_measure_69 (by decide) ?_
        refine lv_istore (lv' := [(4, .int 0), (3, .int 1), (0, .ref (ad 0)), (1, .int ov), (2, .int (nI t))]) hx hb dX0_measure_70 hl (by decide) rfl (fun ls hl => ?_)
        have lp72 : ∀ (fuel : Nat) (rd : Nat) (d2 : Nat → Int32) (n2 : Nat → Int32) (dn : Nat → Nat) (ch : Int32), (rd ≤ R) → (∀ a, a < R → d2 a = nI (dn a) ∧ dn a ≤ 1000000) → (∀ a, a < R → T0 a ≤ dn a) → (∀ a, a < R → ww_tg w k ov t a → dn a = 0) → (dm_cnt (fun x => decide (T0 x < dn x)) R ≤ R - rd) → ((ch = 0 ∧ ∀ a, a < R → dn a = T0 a) ∨ ch = 1) → R - rd < fuel → ∀ (H : Heap) (locs : List Loc) (ls : Array Slot), va_P D vwCl (xw ad tt R w c k d2 n2 wp wr) H → va_D A (xw ad tt R w c k d2 n2 wp wr) → va_S A s.heap H locs → lv_has ls 5 [(4, .int (nI rd)), (3, .int ch), (0, .ref (ad 0)), (1, .int ov), (2, .int (nI t))] → W p l e (headSpec wsX0_measure ({ frames := 3, cells := 0, slots := 0, locals := 66 } : Room)).room s m ([.ref (ad 0), .int ov, .int (nI t)] : List Value).toArray below meth cd H locs 0 0 (MQ below (va_Qv (fun u => ∀ r, r < R → u.1 r = nI (T0 r)) (xB D (tyX tt) A (fun u : (Nat → Int32) × (Nat → Int32) => xw ad tt R w c k u.1 u.2 wp wr)) A) ([.ref (ad 0), .int ov, .int (nI t)] : List Value).toArray s 0 0 A) (F0 m 72 ls []) := by
          intro fuel
          induction fuel with
          | zero => intro rd d2 n2 dn ch hrd hdn hlo hz hcn hch hm; exact absurd hm (Nat.not_lt_zero _)
          | succ fuel ih72 =>
            intro rd d2 n2 dn ch hrd hdn hlo hz hcn hch hm H locs ls hP hD hS hl
            refine lv_iload_n hx hb dX0_measure_72 rfl (lv_at hl 1 rfl) ?_
            refine lv_if_eq (tgt := 100) hx hb dX0_measure_73 (by decide) (fun c_2 => ?_) (fun c_2 => ?_)
            · have hend : ∀ a, a < R → dn a = T0 a := by
                rcases hch with h | h
                · exact h.2
                · rw [h] at c_2; exact absurd c_2 (by decide)
              exact xr_v hx hb hr hlocks (d2, n2) (fun a h => by rw [← hend a h]; exact (hdn a h).1) hP hK hD hS dX0_measure_100
            · refine lv_iload hx hb dX0_measure_76 (lv_at hl 0 rfl) ?_
              refine lv_aload_n hx hb dX0_measure_78 rfl (lv_at hl 2 rfl) ?_
              refine x0_get (v := .int (nI R)) S0 hin hK hP 0 (by decide) f_routers rfl rfl dX0_measure_79 ?_
              refine lv_icmp_ge (tgt := 100) hx hb dX0_measure_82 (by decide) (fun c_3 => ?_) (fun c_3 => ?_)
              · have hrR : R ≤ rd := (nI_leI (by omega) (by omega)).mp c_3
                have hend : ∀ a, a < R → dn a = T0 a := me_all hlo (by omega)
                exact xr_v hx hb hr hlocks (d2, n2) (fun a h => by rw [← hend a h]; exact (hdn a h).1) hP hK hD hS dX0_measure_100
              · have hrR : rd < R := Nat.lt_of_not_le (fun h => c_3 (nI_le h (by omega)))
                refine lv_aload_n hx hb dX0_measure_85 rfl (lv_at hl 2 rfl) ?_
                refine xs_Vv (wr := []) (q0 := 0) (ci := 0) (nA := 0) (As := []) (rest := []) S0 (k_X0_findNearest l D ad tt R w c k d2 n2 wp wr hR dn hdn) gX0_measure_X0_findNearest rfl ⟨rfl, rfl⟩ (by decide +kernel) rfl ⟨Nat.le_of_ble_eq_true rfl, Nat.le_of_ble_eq_true rfl⟩ ⟨Nat.le_of_ble_eq_true rfl, Nat.le_of_ble_eq_true rfl⟩ hK hP hD hS hA [0, 1, 2, 3, 4, 5] [] rfl rfl (by decide) (by decide) (by decide) rfl rfl rfl hl.1 rfl (Nat.le_of_ble_eq_true rfl) dX0_measure_86 (fun n3 H locs hw hP hD hS => ?_)
                have hP : va_P D vwCl (xw ad tt R w c k d2 n3 wp wr) H := hP
                have hD : va_D A (xw ad tt R w c k d2 n3 wp wr) := hD
                obtain ⟨nn, hnn, hfn⟩ := hw
                refine lv_aload_n hx hb dX0_measure_89 rfl (lv_at hl 2 rfl) ?_
                refine xs_Vi (wr := []) (q0 := 0) (ci := 0) (nA := 0) (As := []) (rest := []) S0 (k_X0_shortenDistances l D ad tt R w c k d2 n3 wp wr hok dn hdn nn (fun x h => ⟨hnn x h, (hfn x h).1⟩)) gX0_measure_X0_shortenDistances rfl ⟨rfl, rfl⟩ (by decide +kernel) rfl ⟨Nat.le_of_ble_eq_true rfl, Nat.le_of_ble_eq_true rfl⟩ ⟨Nat.le_of_ble_eq_true rfl, Nat.le_of_ble_eq_true rfl⟩ hK hP hD hS hA [0, 1, 2, 3, 4, 5] [] rfl rfl (by decide) (by decide) (by decide) rfl rfl rfl hl.1 rfl (Nat.le_of_ble_eq_true rfl) dX0_measure_90 (fun r_5 d3 H locs hw hP hD hS => ?_)
                have hP : va_P D vwCl (xw ad tt R w c k d3 n3 wp wr) H := hP
                have hD : va_D A (xw ad tt R w c k d3 n3 wp wr) := hD
                obtain ⟨dm, hdm, hsd, hv⟩ := hw
                have hst := me_step hok hT0 hlo hfn hsd
                refine lv_istore_n (lv' := [(3, .int r_5), (4, .int (nI rd)), (0, .ref (ad 0)), (1, .int ov), (2, .int (nI t))]) hx hb dX0_measure_93 rfl hl (by decide) rfl (fun ls hl => ?_)
                refine lv_iinc (v := nI (rd + 1)) (lv' := [(4, .int (nI (rd + 1))), (3, .int r_5), (0, .ref (ad 0)), (1, .int ov), (2, .int (nI t))]) hx hb dX0_measure_94 hl (k := 1) rfl (nI_1 rd) (by decide) rfl (fun ls hl => ?_)
                refine lv_goto (tgt := 72) hx hb dX0_measure_97 (by decide) ?_
                exact ih72 (rd + 1) d3 n3 dm r_5 (by omega) (fun a h => ⟨hdm a h, Nat.le_trans (hst.2.1 a h) (hdn a h).2⟩) hst.1 (fun a h ht => Nat.eq_zero_of_le_zero (by have h9 := hst.2.1 a h; rw [hz a h ht] at h9; exact h9)) (dm_round (ww_gr hok) hT0 hst.1 hst.2.1 (fun a h => (hdn a h).2) hz hst.2.2 (by omega)) (hv.imp (fun h => ⟨h.1, me_fix hok hT0 hlo (fun a h => (hdn a h).2) hz hst.2.2 h.2⟩) id) (by omega) H locs ls hP hD hS (lv_sub hl [0, 1, 2, 3, 4] rfl)
        exact lp72 _ 0 d1 n dn 1 (by omega) hdn hlo hz (dm_cnt_le _ _) (Or.inr rfl) (Nat.lt_succ_self _) H locs ls hP hD hS (lv_sub hl [0, 1, 2, 3, 4] rfl)
      · have hrR : r < R := Nat.lt_of_not_le (fun h => c_1 (nI_le h (by omega)))
        refine lv_iload_n hx hb dX0_measure_10 rfl (lv_at hl 2 rfl) ?_
        refine lv_if_eq (tgt := 32) hx hb dX0_measure_11 (by decide) (fun c_6 => ?_) (fun c_6 => ?_)
        · have hov := c_6
          refine lv_iload_n hx hb dX0_measure_32 rfl (lv_at hl 0 rfl) ?_
          refine lv_iload_n hx hb dX0_measure_33 rfl (lv_at hl 3 rfl) ?_
          refine lv_icmp_ne (tgt := 41) hx hb dX0_measure_34 (by decide) (fun c_7 => ?_) (fun c_7 => ?_)
          · have htg : ¬ ww_tg w k ov t r := fun h => c_7 (congrArg nI (h.2 hov))
            refine lv_iconst (v := 0) hx hb dX0_measure_41 (by decide) ?_
            refine lv_istore (lv' := [(4, .int 0), (3, .int (nI r)), (0, .ref (ad 0)), (1, .int ov), (2, .int (nI t))]) hx hb dX0_measure_42 hl (by decide) rfl (fun ls hl => ?_)
            refine lv_aload_n hx hb dX0_measure_44 rfl (lv_at hl 2 rfl) ?_
            refine x0_get (v := .ref (ad 4)) S0 hin hK hP 4 (by decide) f_distance rfl rfl dX0_measure_45 ?_
            refine lv_iload_n hx hb dX0_measure_48 rfl (lv_at hl 1 rfl) ?_
            refine lv_iload hx hb dX0_measure_49 (lv_at hl 0 rfl) ?_
            refine lv_if_eq (tgt := 58) hx hb dX0_measure_51 (by decide) (fun c_8 => ?_) (fun c_8 => absurd c_8 (by decide))
            refine lv_ldc (v := 1000000) hx hb hown (hts (.constant RX0 83 1000000) (by decide +kernel)) dX0_measure_58 ?_
            refine va_iast hx hb hK hP hD hS 4 3 rfl rfl (vp_in_nI (by omega) (by omega)) dX0_measure_60 (fun H locs hP hD hS => ?_)
            rw [(nI_clamp (by omega))] at hP hD
            have hP : va_P D vwCl (xw ad tt R w c k (upd d1 r 1000000) n wp wr) H := hP
            have hD : va_D A (xw ad tt R w c k (upd d1 r 1000000) n wp wr) := hD
            refine lv_iinc (v := nI (r + 1)) (lv' := [(3, .int (nI (r + 1))), (4, .int 0), (0, .ref (ad 0)), (1, .int ov), (2, .int (nI t))]) hx hb dX0_measure_61 hl (k := 1) rfl (nI_1 r) (by decide) rfl (fun ls hl => ?_)
            refine lv_goto (tgt := 2) hx hb dX0_measure_64 (by decide) ?_
            exact ih2 (r + 1) _ (by omega) (up_P (P := (fun a v => (ww_tg w k ov t a → v = nI 0) ∧ (¬ ww_tg w k ov t a → v = nI 1000000))) hd1 ⟨fun h => absurd h htg, fun _ => rfl⟩) (by omega) H locs ls hP hD hS (lv_sub hl [0, 2, 3, 4] rfl)
          · have htg : ww_tg w k ov t r := ⟨fun h => absurd hov h, fun _ => (nI_eq (by omega) (by omega)).mp c_7⟩
            refine lv_iconst (v := 1) hx hb dX0_measure_37 (by decide) ?_
            refine lv_goto (tgt := 42) hx hb dX0_measure_38 (by decide) ?_
            refine lv_istore (lv' := [(4, .int 1), (3, .int (nI r)), (0, .ref (ad 0)), (1, .int ov), (2, .int (nI t))]) hx hb dX0_measure_42 hl (by decide) rfl (fun ls hl => ?_)
            refine lv_aload_n hx hb dX0_measure_44 rfl (lv_at hl 2 rfl) ?_
            refine x0_get (v := .ref (ad 4)) S0 hin hK hP 4 (by decide) f_distance rfl rfl dX0_measure_45 ?_
            refine lv_iload_n hx hb dX0_measure_48 rfl (lv_at hl 1 rfl) ?_
            refine lv_iload hx hb dX0_measure_49 (lv_at hl 0 rfl) ?_
            refine lv_if_eq (tgt := 58) hx hb dX0_measure_51 (by decide) (fun c_9 => absurd c_9 (by decide)) (fun c_9 => ?_)
            refine lv_iconst (v := 0) hx hb dX0_measure_54 (by decide) ?_
            refine lv_goto (tgt := 60) hx hb dX0_measure_55 (by decide) ?_
            refine va_iast hx hb hK hP hD hS 4 3 rfl rfl (vp_in_nI (by omega) (by omega)) dX0_measure_60 (fun H locs hP hD hS => ?_)
            rw [(nI_clamp (by omega))] at hP hD
            have hP : va_P D vwCl (xw ad tt R w c k (upd d1 r 0) n wp wr) H := hP
            have hD : va_D A (xw ad tt R w c k (upd d1 r 0) n wp wr) := hD
            refine lv_iinc (v := nI (r + 1)) (lv' := [(3, .int (nI (r + 1))), (4, .int 1), (0, .ref (ad 0)), (1, .int ov), (2, .int (nI t))]) hx hb dX0_measure_61 hl (k := 1) rfl (nI_1 r) (by decide) rfl (fun ls hl => ?_)
            refine lv_goto (tgt := 2) hx hb dX0_measure_64 (by decide) ?_
            exact ih2 (r + 1) _ (by omega) (up_P (P := (fun a v => (ww_tg w k ov t a → v = nI 0) ∧ (¬ ww_tg w k ov t a → v = nI 1000000))) hd1 ⟨fun _ => rfl, fun h => absurd htg h⟩) (by omega) H locs ls hP hD hS (lv_sub hl [0, 2, 3, 4] rfl)
        · have hov := c_6
          refine lv_aload_n hx hb dX0_measure_14 rfl (lv_at hl 1 rfl) ?_
          refine lv_iload_n hx hb dX0_measure_15 rfl (lv_at hl 0 rfl) ?_
          refine lv_iload_n hx hb dX0_measure_16 rfl (lv_at hl 3 rfl) ?_
          refine xs_Vi (wr := []) (q0 := 0) (ci := 0) (nA := 2) (As := [.int (nI r), .int (nI t)]) (rest := []) S0 (k_X0_portOn l D ad tt R w c k d1 n wp wr r (nI t) (by omega)) gX0_measure_X0_portOn rfl ⟨rfl, rfl⟩ (by decide +kernel) rfl ⟨Nat.le_of_ble_eq_true rfl, Nat.le_of_ble_eq_true rfl⟩ ⟨Nat.le_of_ble_eq_true rfl, Nat.le_of_ble_eq_true rfl⟩ hK hP hD hS hA [0, 1, 2, 3, 4, 5] [] rfl rfl (by decide) (by decide) (by decide) rfl rfl rfl hl.1 rfl (Nat.le_of_ble_eq_true rfl) dX0_measure_17 (fun r_10 u H locs hw hP hD hS => ?_)
          have hP : va_P D vwCl (xw ad tt R w c k d1 n wp wr) H := hP
          have hD : va_D A (xw ad tt R w c k d1 n wp wr) := hD
          have h_po := hw
          refine lv_iconst (v := (-1)) hx hb dX0_measure_20 (by decide) ?_
          refine lv_icmp_eq (tgt := 28) hx hb dX0_measure_21 (by decide) (fun c_11 => ?_) (fun c_11 => ?_)
          · have htg : ¬ ww_tg w k ov t r := fun h => (ww_po_on h_po).mp c_11 (h.1 hov).2
            refine lv_iconst (v := 0) hx hb dX0_measure_28 (by decide) ?_
            refine lv_goto (tgt := 42) hx hb dX0_measure_29 (by decide) ?_
            refine lv_istore (lv' := [(4, .int 0), (3, .int (nI r)), (0, .ref (ad 0)), (1, .int ov), (2, .int (nI t))]) hx hb dX0_measure_42 hl (by decide) rfl (fun ls hl => ?_)
            refine lv_aload_n hx hb dX0_measure_44 rfl (lv_at hl 2 rfl) ?_
            refine x0_get (v := .ref (ad 4)) S0 hin hK hP 4 (by decide) f_distance rfl rfl dX0_measure_45 ?_
            refine lv_iload_n hx hb dX0_measure_48 rfl (lv_at hl 1 rfl) ?_
            refine lv_iload hx hb dX0_measure_49 (lv_at hl 0 rfl) ?_
            refine lv_if_eq (tgt := 58) hx hb dX0_measure_51 (by decide) (fun c_12 => ?_) (fun c_12 => absurd c_12 (by decide))
            refine lv_ldc (v := 1000000) hx hb hown (hts (.constant RX0 83 1000000) (by decide +kernel)) dX0_measure_58 ?_
            refine va_iast hx hb hK hP hD hS 4 3 rfl rfl (vp_in_nI (by omega) (by omega)) dX0_measure_60 (fun H locs hP hD hS => ?_)
            rw [(nI_clamp (by omega))] at hP hD
            have hP : va_P D vwCl (xw ad tt R w c k (upd d1 r 1000000) n wp wr) H := hP
            have hD : va_D A (xw ad tt R w c k (upd d1 r 1000000) n wp wr) := hD
            refine lv_iinc (v := nI (r + 1)) (lv' := [(3, .int (nI (r + 1))), (4, .int 0), (0, .ref (ad 0)), (1, .int ov), (2, .int (nI t))]) hx hb dX0_measure_61 hl (k := 1) rfl (nI_1 r) (by decide) rfl (fun ls hl => ?_)
            refine lv_goto (tgt := 2) hx hb dX0_measure_64 (by decide) ?_
            exact ih2 (r + 1) _ (by omega) (up_P (P := (fun a v => (ww_tg w k ov t a → v = nI 0) ∧ (¬ ww_tg w k ov t a → v = nI 1000000))) hd1 ⟨fun h => absurd h htg, fun _ => rfl⟩) (by omega) H locs ls hP hD hS (lv_sub hl [0, 2, 3, 4] rfl)
          · have htg : ww_tg w k ov t r := ⟨fun _ => ⟨(ht.1 hov).2, ww_on_of (v := 0) h_po c_11⟩, fun h => absurd h hov⟩
            refine lv_iconst (v := 1) hx hb dX0_measure_24 (by decide) ?_
            refine lv_goto (tgt := 42) hx hb dX0_measure_25 (by decide) ?_
            refine lv_istore (lv' := [(4, .int 1), (3, .int (nI r)), (0, .ref (ad 0)), (1, .int ov), (2, .int (nI t))]) hx hb dX0_measure_42 hl (by decide) rfl (fun ls hl => ?_)
            refine lv_aload_n hx hb dX0_measure_44 rfl (lv_at hl 2 rfl) ?_
            refine x0_get (v := .ref (ad 4)) S0 hin hK hP 4 (by decide) f_distance rfl rfl dX0_measure_45 ?_
            refine lv_iload_n hx hb dX0_measure_48 rfl (lv_at hl 1 rfl) ?_
            refine lv_iload hx hb dX0_measure_49 (lv_at hl 0 rfl) ?_
            refine lv_if_eq (tgt := 58) hx hb dX0_measure_51 (by decide) (fun c_13 => absurd c_13 (by decide)) (fun c_13 => ?_)
            refine lv_iconst (v := 0) hx hb dX0_measure_54 (by decide) ?_
            refine lv_goto (tgt := 60) hx hb dX0_measure_55 (by decide) ?_
            refine va_iast hx hb hK hP hD hS 4 3 rfl rfl (vp_in_nI (by omega) (by omega)) dX0_measure_60 (fun H locs hP hD hS => ?_)
            rw [(nI_clamp (by omega))] at hP hD
            have hP : va_P D vwCl (xw ad tt R w c k (upd d1 r 0) n wp wr) H := hP
            have hD : va_D A (xw ad tt R w c k (upd d1 r 0) n wp wr) := hD
            refine lv_iinc (v := nI (r + 1)) (lv' := [(3, .int (nI (r + 1))), (4, .int 1), (0, .ref (ad 0)), (1, .int ov), (2, .int (nI t))]) hx hb dX0_measure_61 hl (k := 1) rfl (nI_1 r) (by decide) rfl (fun ls hl => ?_)
            refine lv_goto (tgt := 2) hx hb dX0_measure_64 (by decide) ?_
            exact ih2 (r + 1) _ (by omega) (up_P (P := (fun a v => (ww_tg w k ov t a → v = nI 0) ∧ (¬ ww_tg w k ov t a → v = nI 1000000))) hd1 ⟨fun _ => rfl, fun h => absurd htg h⟩) (by omega) H locs ls hP hD hS (lv_sub hl [0, 2, 3, 4] rfl)
  exact lp2 _ 0 d (by omega) (fun a h => absurd h (Nat.not_lt_zero a)) (Nat.lt_succ_self _) H locs ls hP hD hS (lv_sub hl [0, 1, 2, 3] rfl)
