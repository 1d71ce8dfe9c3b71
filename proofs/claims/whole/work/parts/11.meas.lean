set_option maxHeartbeats 4000000 in
set_option maxRecDepth 100000 in
theorem k_X0_findNearest (l : Launch) (D : va_G) (ad : Nat → Nat) (tt : Nat → ClassId) (R : Nat) (w c k d n : Nat → Int32) (wp wr : Int32) (hR : R ≤ 10) (dn : Nat → Nat) (hd : ∀ r, r < R → d r = nI (dn r) ∧ dn r ≤ 1000000) : xMv l yX0_findNearest wsX0_findNearest { frames := 2, cells := 0, slots := 0, locals := 41 } D (tyX tt) [.ref (ad 0)] (xw ad tt R w c k d n wp wr) (fun u : Nat → Int32 => xw ad tt R w c k d u wp wr) (fun u => ∃ nn : Nat → Nat, (∀ x, x < 16 → u x = nI (nn x)) ∧ fn_ok R w k 1000000 dn nn (fun _ _ => True)) := by
  refine xe_v (cc := cX0_findNearest) (maxL := 4) (ret := none) (lvl := [(0, .ref (ad 0))]) (by decide) rfl (Nat.le_of_ble_eq_true rfl) rfl ?_
  intro p e s m below meth cd A ls hx hb hr hlocks hml hown hts hA hP hK hD hS hl
  have hin : ∀ w ∈ wsX00, w ∈ wsX0_findNearest := fun _ h => List.mem_cons_of_mem _ (List.mem_append_right _ h)
  have S0 : CallFix p m cd cX0_findNearest 4 s (([.ref (ad 0)] : List Value).toArray) wsX0_findNearest RX0 := ⟨hx, hb, hml, hown, hts⟩
  obtain ⟨H, hH⟩ : ∃ H, H = s.heap := ⟨_, rfl⟩
  obtain ⟨locs, hlocs⟩ : ∃ q : List Loc, q = [] := ⟨_, rfl⟩
  have hP : va_P D vwCl (xw ad tt R w c k d n wp wr) H := by rw [hH]; exact hP
  have hS : va_S A s.heap H locs := by rw [hH, hlocs]; exact hS
  suffices hgo : W p l e (headSpec wsX0_findNearest ({ frames := 2, cells := 0, slots := 0, locals := 41 } : Room)).room s m (([.ref (ad 0)] : List Value).toArray) below meth cd H locs 0 0 (MQ below (va_Qv (fun u => ∃ nn : Nat → Nat, (∀ x, x < 16 → u x = nI (nn x)) ∧ fn_ok R w k 1000000 dn nn (fun _ _ => True)) (xB D (tyX tt) A (fun u : Nat → Int32 => xw ad tt R w c k d u wp wr)) A) ([.ref (ad 0)] : List Value).toArray s 0 0 A) (F0 m 0 ls []) by rw [hH, hlocs] at hgo; exact hgo
  clear hH hlocs
  have f_routers := hts (.fieldLink RX0 18 "WireWays" "routers" "I") (by decide +kernel)
  have f_wireAt := hts (.fieldLink RX0 22 "WireWays" "wireAt" "[I") (by decide +kernel)
  have f_distance := hts (.fieldLink RX0 33 "WireWays" "distance" "[I") (by decide +kernel)
  have f_nearest := hts (.fieldLink RX0 36 "WireWays" "nearest" "[I") (by decide +kernel)
  refine lv_iconst (v := 0) hx hb dX0_findNearest_0 (by decide) ?_
  refine lv_istore_n (lv' := [(1, .int 0), (0, .ref (ad 0))]) hx hb dX0_findNearest_1 rfl hl (by decide) rfl (fun ls hl => ?_)
  have lp2 : ∀ (fuel : Nat) (i : Nat) (n1 : Nat → Int32), (i ≤ 16) → (∀ x, x < i → n1 x = 1000000) → 16 - i < fuel → ∀ (H : Heap) (locs : List Loc) (ls : Array Slot), va_P D vwCl (xw ad tt R w c k d n1 wp wr) H → va_D A (xw ad tt R w c k d n1 wp wr) → va_S A s.heap H locs → lv_has ls 4 [(1, .int (nI i)), (0, .ref (ad 0))] → W p l e (headSpec wsX0_findNearest ({ frames := 2, cells := 0, slots := 0, locals := 41 } : Room)).room s m ([.ref (ad 0)] : List Value).toArray below meth cd H locs 0 0 (MQ below (va_Qv (fun u => ∃ nn : Nat → Nat, (∀ x, x < 16 → u x = nI (nn x)) ∧ fn_ok R w k 1000000 dn nn (fun _ _ => True)) (xB D (tyX tt) A (fun u : Nat → Int32 => xw ad tt R w c k d u wp wr)) A) ([.ref (ad 0)] : List Value).toArray s 0 0 A) (F0 m 2 ls []) := by
    intro fuel
    induction fuel with
    | zero => intro i n1 hi hn1 hm; exact absurd hm (Nat.not_lt_zero _)
    | succ fuel ih2 =>
      intro i n1 hi hn1 hm H locs ls hP hD hS hl
      refine lv_iload_n hx hb dX0_findNearest_2 rfl (lv_at hl 0 rfl) ?_
      refine lv_bipush (v := 16) hx hb dX0_findNearest_3 (by decide) ?_
      refine lv_icmp_ge (tgt := 22) hx hb dX0_findNearest_5 (by decide) (fun c_1 => ?_) (fun c_1 => ?_)
      · have h16 : 16 ≤ i := (nI_leI (a := 16) (by omega) (by omega)).mp c_1
        refine lv_iconst (v := 0) hx hb dX0_findNearest_22 (by decide) ?_
        refine lv_istore_n (lv' := [(1, .int 0), (0, .ref (ad 0))]) hx hb dX0_findNearest_23 rfl hl (by decide) rfl (fun ls hl => ?_)
        have lp24 : ∀ (fuel : Nat) (r : Nat) (n2 : Nat → Int32) (nn : Nat → Nat), (r ≤ R) → (∀ x, x < 16 → n2 x = nI (nn x)) → (fn_ok R w k 1000000 dn nn (fun a _ => a < r)) → R - r < fuel → ∀ (H : Heap) (locs : List Loc) (ls : Array Slot), va_P D vwCl (xw ad tt R w c k d n2 wp wr) H → va_D A (xw ad tt R w c k d n2 wp wr) → va_S A s.heap H locs → lv_has ls 4 [(1, .int (nI r)), (0, .ref (ad 0))] → W p l e (headSpec wsX0_findNearest ({ frames := 2, cells := 0, slots := 0, locals := 41 } : Room)).room s m ([.ref (ad 0)] : List Value).toArray below meth cd H locs 0 0 (MQ below (va_Qv (fun u => ∃ nn : Nat → Nat, (∀ x, x < 16 → u x = nI (nn x)) ∧ fn_ok R w k 1000000 dn nn (fun _ _ => True)) (xB D (tyX tt) A (fun u : Nat → Int32 => xw ad tt R w c k d u wp wr)) A) ([.ref (ad 0)] : List Value).toArray s 0 0 A) (F0 m 24 ls []) := by
          intro fuel
          induction fuel with
          | zero => intro r n2 nn hr0 hn2 hfn hm; exact absurd hm (Nat.not_lt_zero _)
          | succ fuel ih24 =>
            intro r n2 nn hr0 hn2 hfn hm H locs ls hP hD hS hl
            refine lv_iload_n hx hb dX0_findNearest_24 rfl (lv_at hl 0 rfl) ?_
            refine lv_aload_n hx hb dX0_findNearest_25 rfl (lv_at hl 1 rfl) ?_
            refine x0_get (v := .int (nI R)) S0 hin hK hP 0 (by decide) f_routers rfl rfl dX0_findNearest_26 ?_
            refine lv_icmp_ge (tgt := 97) hx hb dX0_findNearest_29 (by decide) (fun c_2 => ?_) (fun c_2 => ?_)
            · have hrR : R ≤ r := (nI_leI (by omega) (by omega)).mp c_2
              exact xr_v hx hb hr hlocks n2 ⟨nn, hn2, fn_V hfn (fun a b ha hb _ => by omega)⟩ hP hK hD hS dX0_findNearest_97
            · have hrR : r < R := Nat.lt_of_not_le (fun h => c_2 (nI_le h (by omega)))
              have hdr := hd r hrR
              refine lv_iconst (v := 0) hx hb dX0_findNearest_32 (by decide) ?_
              refine lv_istore_n (lv' := [(2, .int 0), (1, .int (nI r)), (0, .ref (ad 0))]) hx hb dX0_findNearest_33 rfl hl (by decide) rfl (fun ls hl => ?_)
              have lp34 : ∀ (fuel : Nat) (q : Nat) (n3 : Nat → Int32) (nm : Nat → Nat), (q ≤ 4) → (∀ x, x < 16 → n3 x = nI (nm x)) → (fn_ok R w k 1000000 dn nm (fun a b => a < r ∨ (a = r ∧ b < q))) → 4 - q < fuel → ∀ (H : Heap) (locs : List Loc) (ls : Array Slot), va_P D vwCl (xw ad tt R w c k d n3 wp wr) H → va_D A (xw ad tt R w c k d n3 wp wr) → va_S A s.heap H locs → lv_has ls 4 [(2, .int (nI q)), (1, .int (nI r)), (0, .ref (ad 0))] → W p l e (headSpec wsX0_findNearest ({ frames := 2, cells := 0, slots := 0, locals := 41 } : Room)).room s m ([.ref (ad 0)] : List Value).toArray below meth cd H locs 0 0 (MQ below (va_Qv (fun u => ∃ nn : Nat → Nat, (∀ x, x < 16 → u x = nI (nn x)) ∧ fn_ok R w k 1000000 dn nn (fun _ _ => True)) (xB D (tyX tt) A (fun u : Nat → Int32 => xw ad tt R w c k d u wp wr)) A) ([.ref (ad 0)] : List Value).toArray s 0 0 A) (F0 m 34 ls []) := by
                intro fuel
                induction fuel with
                | zero => intro q n3 nm hq0 hn3 hfm hm; exact absurd hm (Nat.not_lt_zero _)
                | succ fuel ih34 =>
                  intro q n3 nm hq0 hn3 hfm hm H locs ls hP hD hS hl
                  refine lv_iload_n hx hb dX0_findNearest_34 rfl (lv_at hl 0 rfl) ?_
                  refine lv_iconst (v := 4) hx hb dX0_findNearest_35 (by decide) ?_
                  refine lv_icmp_ge (tgt := 91) hx hb dX0_findNearest_36 (by decide) (fun c_3 => ?_) (fun c_3 => ?_)
                  · have hq4 : 4 ≤ q := (nI_leI (a := 4) (by omega) (by omega)).mp c_3
                    refine lv_iinc (v := nI (r + 1)) (lv' := [(1, .int (nI (r + 1))), (2, .int (nI q)), (0, .ref (ad 0))]) hx hb dX0_findNearest_91 hl (k := 1) rfl (nI_1 r) (by decide) rfl (fun ls hl => ?_)
                    refine lv_goto (tgt := 24) hx hb dX0_findNearest_94 (by decide) ?_
                    exact ih24 (r + 1) n3 nm (by omega) hn3 (fn_V hfm (fun a b ha hb h => by omega)) (by omega) H locs ls hP hD hS (lv_sub hl [0, 2] rfl)
                  · have hq4 : q < 4 := Nat.lt_of_not_le (fun h => c_3 (nI_le (a := 4) h (by omega)))
                    refine lv_aload_n hx hb dX0_findNearest_39 rfl (lv_at hl 2 rfl) ?_
                    refine x0_get (v := .ref (ad 1)) S0 hin hK hP 1 (by decide) f_wireAt rfl rfl dX0_findNearest_40 ?_
                    refine lv_iload_n hx hb dX0_findNearest_43 rfl (lv_at hl 1 rfl) ?_
                    refine lv_iload_n hx hb dX0_findNearest_44 rfl (lv_at hl 0 rfl) ?_
                    refine xs_Si (nA := 2) (As := [.int (nI r), .int (nI q)]) (rest := [.ref (ad 1)]) S0 (k_X0_placeOf l D (nI r) (nI q)) gX0_findNearest_X0_placeOf rfl ⟨rfl, rfl⟩ (by decide +kernel) rfl ⟨Nat.le_of_ble_eq_true rfl, Nat.le_of_ble_eq_true rfl⟩ ⟨Nat.le_of_ble_eq_true rfl, Nat.le_of_ble_eq_true rfl⟩ hK hP hD hS hA hl.1 rfl (Nat.le_of_ble_eq_true rfl) dX0_findNearest_45 (fun r_4 H locs hw hP hD hS => ?_)
                    have hw : r_4 = nI (4 * r + q) := by rw [hw]; exact nI_pl _ _
                    subst hw
                    refine va_iald hx hb hK hP 1 0 rfl rfl (vp_in_nI (by omega) (by omega)) dX0_findNearest_48 ?_
                    refine xt_eq (z := w (4 * r + q)) (congrArg w (nI_clamp (by omega))) ?_
                    refine lv_istore_n (lv' := [(3, .int (w (4 * r + q))), (2, .int (nI q)), (1, .int (nI r)), (0, .ref (ad 0))]) hx hb dX0_findNearest_49 rfl hl (by decide) rfl (fun ls hl => ?_)
                    refine lv_aload_n hx hb dX0_findNearest_50 rfl (lv_at hl 3 rfl) ?_
                    refine lv_iload_n hx hb dX0_findNearest_51 rfl (lv_at hl 0 rfl) ?_
                    refine xs_Vi (wr := []) (q0 := 0) (ci := 0) (nA := 1) (As := [.int (w (4 * r + q))]) (rest := []) S0 (k_X0_isUp l D ad tt R w c k d n3 wp wr (w (4 * r + q))) gX0_findNearest_X0_isUp rfl ⟨rfl, rfl⟩ (by decide +kernel) rfl ⟨Nat.le_of_ble_eq_true rfl, Nat.le_of_ble_eq_true rfl⟩ ⟨Nat.le_of_ble_eq_true rfl, Nat.le_of_ble_eq_true rfl⟩ hK hP hD hS hA [0, 1, 2, 3, 4, 5] [] rfl rfl (by decide) (by decide) (by decide) rfl rfl rfl hl.1 rfl (Nat.le_of_ble_eq_true rfl) dX0_findNearest_52 (fun r_5 u H locs hw hP hD hS => ?_)
                    have hP : va_P D vwCl (xw ad tt R w c k d n3 wp wr) H := hP
                    have hD : va_D A (xw ad tt R w c k d n3 wp wr) := hD
                    rcases hw with ⟨rfl, h_u⟩ | ⟨rfl, h_u⟩
                    · refine lv_if_eq (tgt := 85) hx hb dX0_findNearest_55 (by decide) (fun c_6 => absurd c_6 (by decide)) (fun c_6 => ?_)
                      obtain ⟨x, hx6, ex, hk0⟩ := h_u
                      have hx9 := (hfm x hx6).1
                      refine lv_aload_n hx hb dX0_findNearest_58 rfl (lv_at hl 3 rfl) ?_
                      refine x0_get (v := .ref (ad 4)) S0 hin hK hP 4 (by decide) f_distance rfl rfl dX0_findNearest_59 ?_
                      refine lv_iload_n hx hb dX0_findNearest_62 rfl (lv_at hl 2 rfl) ?_
                      refine va_iald hx hb hK hP 4 3 rfl rfl (vp_in_nI (by omega) (by omega)) dX0_findNearest_63 ?_
                      refine xt_eq (z := d r) (congrArg d (nI_clamp (by omega))) ?_
                      refine xt_eq (z := nI (dn r)) hdr.1 ?_
                      refine lv_aload_n hx hb dX0_findNearest_64 rfl (lv_at hl 3 rfl) ?_
                      refine x0_get (v := .ref (ad 5)) S0 hin hK hP 5 (by decide) f_nearest rfl rfl dX0_findNearest_65 ?_
                      refine lv_iload_n hx hb dX0_findNearest_68 rfl (lv_at hl 0 rfl) ?_
                      refine va_iald hx hb hK hP 5 4 rfl rfl (ex_in ex (by omega) (by omega)) dX0_findNearest_69 ?_
                      refine xt_eq (z := n3 x) (congrArg n3 (ex_cl ex (by omega))) ?_
                      refine xt_eq (z := nI (nm x)) (hn3 x hx6) ?_
                      refine lv_icmp_ge (tgt := 85) hx hb dX0_findNearest_70 (by decide) (fun c_7 => ?_) (fun c_7 => ?_)
                      · have hle : nm x ≤ dn r := (nI_leI (by omega) (by omega)).mp c_7
                        refine lv_iinc (v := nI (q + 1)) (lv' := [(2, .int (nI (q + 1))), (3, .int (w (4 * r + q))), (1, .int (nI r)), (0, .ref (ad 0))]) hx hb dX0_findNearest_85 hl (k := 1) rfl (nI_1 q) (by decide) rfl (fun ls hl => ?_)
                        refine lv_goto (tgt := 34) hx hb dX0_findNearest_88 (by decide) ?_
                        exact ih34 (q + 1) n3 nm (by omega) hn3 (fn_keep hfm hx6 ex hle) (by omega) H locs ls hP hD hS (lv_sub hl [0, 2, 3] rfl)
                      · have hle : dn r < nm x := Nat.lt_of_not_le (fun h => c_7 (nI_le h (by omega)))
                        refine lv_aload_n hx hb dX0_findNearest_73 rfl (lv_at hl 3 rfl) ?_
                        refine x0_get (v := .ref (ad 5)) S0 hin hK hP 5 (by decide) f_nearest rfl rfl dX0_findNearest_74 ?_
                        refine lv_iload_n hx hb dX0_findNearest_77 rfl (lv_at hl 0 rfl) ?_
                        refine lv_aload_n hx hb dX0_findNearest_78 rfl (lv_at hl 3 rfl) ?_
                        refine x0_get (v := .ref (ad 4)) S0 hin hK hP 4 (by decide) f_distance rfl rfl dX0_findNearest_79 ?_
                        refine lv_iload_n hx hb dX0_findNearest_82 rfl (lv_at hl 2 rfl) ?_
                        refine va_iald hx hb hK hP 4 3 rfl rfl (vp_in_nI (by omega) (by omega)) dX0_findNearest_83 ?_
                        refine xt_eq (z := d r) (congrArg d (nI_clamp (by omega))) ?_
                        refine xt_eq (z := nI (dn r)) hdr.1 ?_
                        refine va_iast hx hb hK hP hD hS 5 4 rfl rfl (ex_in ex (by omega) (by omega)) dX0_findNearest_84 (fun H locs hP hD hS => ?_)
                        rw [(ex_cl ex (by omega))] at hP hD
                        have hP : va_P D vwCl (xw ad tt R w c k d (upd n3 x (nI (dn r))) wp wr) H := hP
                        have hD : va_D A (xw ad tt R w c k d (upd n3 x (nI (dn r))) wp wr) := hD
                        refine lv_iinc (v := nI (q + 1)) (lv' := [(2, .int (nI (q + 1))), (3, .int (w (4 * r + q))), (1, .int (nI r)), (0, .ref (ad 0))]) hx hb dX0_findNearest_85 hl (k := 1) rfl (nI_1 q) (by decide) rfl (fun ls hl => ?_)
                        refine lv_goto (tgt := 34) hx hb dX0_findNearest_88 (by decide) ?_
                        exact ih34 (q + 1) (upd n3 x (nI (dn r))) (nup nm x (dn r)) (by omega) (row_up hn3 _ _) (fn_put hfm hrR hq4 hx6 ex hk0 hle) (by omega) H locs ls hP hD hS (lv_sub hl [0, 2, 3] rfl)
                    · refine lv_if_eq (tgt := 85) hx hb dX0_findNearest_55 (by decide) (fun c_8 => ?_) (fun c_8 => absurd c_8 (by decide))
                      refine lv_iinc (v := nI (q + 1)) (lv' := [(2, .int (nI (q + 1))), (3, .int (w (4 * r + q))), (1, .int (nI r)), (0, .ref (ad 0))]) hx hb dX0_findNearest_85 hl (k := 1) rfl (nI_1 q) (by decide) rfl (fun ls hl => ?_)
                      refine lv_goto (tgt := 34) hx hb dX0_findNearest_88 (by decide) ?_
                      exact ih34 (q + 1) n3 nm (by omega) hn3 (fn_skip hfm h_u) (by omega) H locs ls hP hD hS (lv_sub hl [0, 2, 3] rfl)
              exact lp34 _ 0 n2 nn (by omega) hn2 (fn_V hfn (fun a b ha hb h => by omega)) (Nat.lt_succ_self _) H locs ls hP hD hS (lv_sub hl [0, 1, 2] rfl)
        exact lp24 _ 0 n1 (fun _ => 1000000) (by omega) (fun x h => hn1 x (by omega)) (fn_0 _ (fun a _ => Nat.not_lt_zero a)) (Nat.lt_succ_self _) H locs ls hP hD hS (lv_sub hl [0, 1] rfl)
      · have h16 : i < 16 := Nat.lt_of_not_le (fun h => c_1 (nI_le (a := 16) h (by omega)))
        refine lv_aload_n hx hb dX0_findNearest_8 rfl (lv_at hl 1 rfl) ?_
        refine x0_get (v := .ref (ad 5)) S0 hin hK hP 5 (by decide) f_nearest rfl rfl dX0_findNearest_9 ?_
        refine lv_iload_n hx hb dX0_findNearest_12 rfl (lv_at hl 0 rfl) ?_
        refine lv_ldc (v := 1000000) hx hb hown (hts (.constant RX0 83 1000000) (by decide +kernel)) dX0_findNearest_13 ?_
        refine va_iast hx hb hK hP hD hS 5 4 rfl rfl (vp_in_nI (by omega) (by omega)) dX0_findNearest_15 (fun H locs hP hD hS => ?_)
        rw [(nI_clamp (by omega))] at hP hD
        have hP : va_P D vwCl (xw ad tt R w c k d (upd n1 i 1000000) wp wr) H := hP
        have hD : va_D A (xw ad tt R w c k d (upd n1 i 1000000) wp wr) := hD
        refine lv_iinc (v := nI (i + 1)) (lv' := [(1, .int (nI (i + 1))), (0, .ref (ad 0))]) hx hb dX0_findNearest_16 hl (k := 0) rfl (nI_1 i) (by decide) rfl (fun ls hl => ?_)
        refine lv_goto (tgt := 2) hx hb dX0_findNearest_19 (by decide) ?_
        exact ih2 (i + 1) (upd n1 i 1000000) (by omega) (up_all hn1) (by omega) H locs ls hP hD hS (lv_sub hl [0, 1] rfl)
  exact lp2 _ 0 n (by omega) (fun x h => absurd h (Nat.not_lt_zero x)) (Nat.lt_succ_self _) H locs ls hP hD hS (lv_sub hl [0, 1] rfl)
set_option maxHeartbeats 4000000 in
set_option maxRecDepth 100000 in
theorem k_X0_shortenDistances (l : Launch) (D : va_G) (ad : Nat → Nat) (tt : Nat → ClassId) (R : Nat) (w c k d n : Nat → Int32) (wp wr : Int32) (hok : ww_ok R w c) (dn : Nat → Nat) (hd : ∀ r, r < R → d r = nI (dn r) ∧ dn r ≤ 1000000) (nn : Nat → Nat) (hn : ∀ x, x < 16 → n x = nI (nn x) ∧ nn x ≤ 1000000) : xMi l yX0_shortenDistances wsX0_shortenDistances { frames := 2, cells := 0, slots := 0, locals := 41 } D (tyX tt) [.ref (ad 0)] (xw ad tt R w c k d n wp wr) (fun u : Nat → Int32 => xw ad tt R w c k u n wp wr) (fun v u => ∃ dm : Nat → Nat, (∀ r, r < R → u r = nI (dm r)) ∧ sd_ok R w c k nn dn dm (fun _ _ => True) ∧ ((v = 0 ∧ ∀ r, r < R → dm r = dn r) ∨ v = 1)) := by
  refine xe_i (cc := cX0_shortenDistances) (maxL := 6) (ret := (some .boolean)) (lvl := [(0, .ref (ad 0))]) (by decide) rfl (Nat.le_of_ble_eq_true rfl) rfl ?_
  intro p e s m below meth cd A ls hx hb hr hlocks hml hown hts hA hP hK hD hS hl
  have hin : ∀ w ∈ wsX00, w ∈ wsX0_shortenDistances := fun _ h => List.mem_cons_of_mem _ (List.mem_append_right _ h)
  have S0 : CallFix p m cd cX0_shortenDistances 6 s (([.ref (ad 0)] : List Value).toArray) wsX0_shortenDistances RX0 := ⟨hx, hb, hml, hown, hts⟩
  obtain ⟨H, hH⟩ : ∃ H, H = s.heap := ⟨_, rfl⟩
  obtain ⟨locs, hlocs⟩ : ∃ q : List Loc, q = [] := ⟨_, rfl⟩
  have hP : va_P D vwCl (xw ad tt R w c k d n wp wr) H := by rw [hH]; exact hP
  have hS : va_S A s.heap H locs := by rw [hH, hlocs]; exact hS
  suffices hgo : W p l e (headSpec wsX0_shortenDistances ({ frames := 2, cells := 0, slots := 0, locals := 41 } : Room)).room s m (([.ref (ad 0)] : List Value).toArray) below meth cd H locs 0 0 (MQ below (va_Qi (fun v u => ∃ dm : Nat → Nat, (∀ r, r < R → u r = nI (dm r)) ∧ sd_ok R w c k nn dn dm (fun _ _ => True) ∧ ((v = 0 ∧ ∀ r, r < R → dm r = dn r) ∨ v = 1)) (xB D (tyX tt) A (fun u : Nat → Int32 => xw ad tt R w c k u n wp wr)) A) ([.ref (ad 0)] : List Value).toArray s 0 0 A) (F0 m 0 ls []) by rw [hH, hlocs] at hgo; exact hgo
  clear hH hlocs
  have f_routers := hts (.fieldLink RX0 18 "WireWays" "routers" "I") (by decide +kernel)
  have f_wireAt := hts (.fieldLink RX0 22 "WireWays" "wireAt" "[I") (by decide +kernel)
  have f_costAt := hts (.fieldLink RX0 26 "WireWays" "costAt" "[I") (by decide +kernel)
  have f_distance := hts (.fieldLink RX0 33 "WireWays" "distance" "[I") (by decide +kernel)
  have f_nearest := hts (.fieldLink RX0 36 "WireWays" "nearest" "[I") (by decide +kernel)
  have hR : R ≤ 10 := hok.2.1
  refine lv_iconst (v := 0) hx hb dX0_shortenDistances_0 (by decide) ?_
  refine lv_istore_n (lv' := [(1, .int 0), (0, .ref (ad 0))]) hx hb dX0_shortenDistances_1 rfl hl (by decide) rfl (fun ls hl => ?_)
  refine lv_iconst (v := 0) hx hb dX0_shortenDistances_2 (by decide) ?_
  refine lv_istore_n (lv' := [(2, .int 0), (1, .int 0), (0, .ref (ad 0))]) hx hb dX0_shortenDistances_3 rfl hl (by decide) rfl (fun ls hl => ?_)
  have lp4 : ∀ (fuel : Nat) (r : Nat) (d2 : Nat → Int32) (dm : Nat → Nat) (fl : Int32), (r ≤ R) → (∀ a, a < R → d2 a = nI (dm a)) → (sd_ok R w c k nn dn dm (fun a _ => a < r)) → ((fl = 0 ∧ ∀ a, a < R → dm a = dn a) ∨ fl = 1) → R - r < fuel → ∀ (H : Heap) (locs : List Loc) (ls : Array Slot), va_P D vwCl (xw ad tt R w c k d2 n wp wr) H → va_D A (xw ad tt R w c k d2 n wp wr) → va_S A s.heap H locs → lv_has ls 6 [(2, .int (nI r)), (1, .int fl), (0, .ref (ad 0))] → W p l e (headSpec wsX0_shortenDistances ({ frames := 2, cells := 0, slots := 0, locals := 41 } : Room)).room s m ([.ref (ad 0)] : List Value).toArray below meth cd H locs 0 0 (MQ below (va_Qi (fun v u => ∃ dm : Nat → Nat, (∀ r, r < R → u r = nI (dm r)) ∧ sd_ok R w c k nn dn dm (fun _ _ => True) ∧ ((v = 0 ∧ ∀ r, r < R → dm r = dn r) ∨ v = 1)) (xB D (tyX tt) A (fun u : Nat → Int32 => xw ad tt R w c k u n wp wr)) A) ([.ref (ad 0)] : List Value).toArray s 0 0 A) (F0 m 4 ls []) := by
    intro fuel
    induction fuel with
    | zero => intro r d2 dm fl hr0 hd2 hsd hfl hm; exact absurd hm (Nat.not_lt_zero _)
    | succ fuel ih4 =>
      intro r d2 dm fl hr0 hd2 hsd hfl hm H locs ls hP hD hS hl
      refine lv_iload_n hx hb dX0_shortenDistances_4 rfl (lv_at hl 0 rfl) ?_
      refine lv_aload_n hx hb dX0_shortenDistances_5 rfl (lv_at hl 2 rfl) ?_
      refine x0_get (v := .int (nI R)) S0 hin hK hP 0 (by decide) f_routers rfl rfl dX0_shortenDistances_6 ?_
      refine lv_icmp_ge (tgt := 103) hx hb dX0_shortenDistances_9 (by decide) (fun c_1 => ?_) (fun c_1 => ?_)
      · have hrR : R ≤ r := (nI_leI (by omega) (by omega)).mp c_1
        refine lv_iload_n hx hb dX0_shortenDistances_103 rfl (lv_at hl 1 rfl) ?_
        exact xr_z hx hb hr hlocks (by rcases hfl with ⟨rfl, _⟩ | rfl <;> rfl) d2 ⟨dm, hd2, sd_V hsd (fun a b ha hb _ => by omega), hfl⟩ hP hK hD hS dX0_shortenDistances_104
      · have hrR : r < R := Nat.lt_of_not_le (fun h => c_1 (nI_le h (by omega)))
        have hdr := hd r hrR
        refine lv_iconst (v := 0) hx hb dX0_shortenDistances_12 (by decide) ?_
        refine lv_istore_n (lv' := [(3, .int 0), (2, .int (nI r)), (1, .int fl), (0, .ref (ad 0))]) hx hb dX0_shortenDistances_13 rfl hl (by decide) rfl (fun ls hl => ?_)
        have lp14 : ∀ (fuel : Nat) (q : Nat) (d3 : Nat → Int32) (dp : Nat → Nat) (fk : Int32), (q ≤ 4) → (∀ a, a < R → d3 a = nI (dp a)) → (sd_ok R w c k nn dn dp (fun a b => a < r ∨ (a = r ∧ b < q))) → ((fk = 0 ∧ ∀ a, a < R → dp a = dn a) ∨ fk = 1) → 4 - q < fuel → ∀ (H : Heap) (locs : List Loc) (ls : Array Slot), va_P D vwCl (xw ad tt R w c k d3 n wp wr) H → va_D A (xw ad tt R w c k d3 n wp wr) → va_S A s.heap H locs → lv_has ls 6 [(3, .int (nI q)), (2, .int (nI r)), (1, .int fk), (0, .ref (ad 0))] → W p l e (headSpec wsX0_shortenDistances ({ frames := 2, cells := 0, slots := 0, locals := 41 } : Room)).room s m ([.ref (ad 0)] : List Value).toArray below meth cd H locs 0 0 (MQ below (va_Qi (fun v u => ∃ dm : Nat → Nat, (∀ r, r < R → u r = nI (dm r)) ∧ sd_ok R w c k nn dn dm (fun _ _ => True) ∧ ((v = 0 ∧ ∀ r, r < R → dm r = dn r) ∨ v = 1)) (xB D (tyX tt) A (fun u : Nat → Int32 => xw ad tt R w c k u n wp wr)) A) ([.ref (ad 0)] : List Value).toArray s 0 0 A) (F0 m 14 ls []) := by
          intro fuel
          induction fuel with
          | zero => intro q d3 dp fk hq0 hd3 hsp hfk hm; exact absurd hm (Nat.not_lt_zero _)
          | succ fuel ih14 =>
            intro q d3 dp fk hq0 hd3 hsp hfk hm H locs ls hP hD hS hl
            refine lv_iload_n hx hb dX0_shortenDistances_14 rfl (lv_at hl 0 rfl) ?_
            refine lv_iconst (v := 4) hx hb dX0_shortenDistances_15 (by decide) ?_
            refine lv_icmp_ge (tgt := 97) hx hb dX0_shortenDistances_16 (by decide) (fun c_2 => ?_) (fun c_2 => ?_)
            · have hq4 : 4 ≤ q := (nI_leI (a := 4) (by omega) (by omega)).mp c_2
              refine lv_iinc (v := nI (r + 1)) (lv' := [(2, .int (nI (r + 1))), (3, .int (nI q)), (1, .int fk), (0, .ref (ad 0))]) hx hb dX0_shortenDistances_97 hl (k := 1) rfl (nI_1 r) (by decide) rfl (fun ls hl => ?_)
              refine lv_goto (tgt := 4) hx hb dX0_shortenDistances_100 (by decide) ?_
              exact ih4 (r + 1) d3 dp fk (by omega) hd3 (sd_V hsp (fun a b ha hb h => by omega)) hfk (by omega) H locs ls hP hD hS (lv_sub hl [0, 2, 3] rfl)
            · have hq4 : q < 4 := Nat.lt_of_not_le (fun h => c_2 (nI_le (a := 4) h (by omega)))
              refine lv_iload_n hx hb dX0_shortenDistances_19 rfl (lv_at hl 1 rfl) ?_
              refine lv_iload_n hx hb dX0_shortenDistances_20 rfl (lv_at hl 0 rfl) ?_
              refine xs_Si (nA := 2) (As := [.int (nI r), .int (nI q)]) (rest := []) S0 (k_X0_placeOf l D (nI r) (nI q)) gX0_shortenDistances_X0_placeOf rfl ⟨rfl, rfl⟩ (by decide +kernel) rfl ⟨Nat.le_of_ble_eq_true rfl, Nat.le_of_ble_eq_true rfl⟩ ⟨Nat.le_of_ble_eq_true rfl, Nat.le_of_ble_eq_true rfl⟩ hK hP hD hS hA hl.1 rfl (Nat.le_of_ble_eq_true rfl) dX0_shortenDistances_21 (fun r_3 H locs hw hP hD hS => ?_)
              have hw : r_3 = nI (4 * r + q) := by rw [hw]; exact nI_pl _ _
              subst hw
              refine lv_istore (lv' := [(4, .int (nI (4 * r + q))), (3, .int (nI q)), (2, .int (nI r)), (1, .int fk), (0, .ref (ad 0))]) hx hb dX0_shortenDistances_24 hl (by decide) rfl (fun ls hl => ?_)
              refine lv_aload_n hx hb dX0_shortenDistances_26 rfl (lv_at hl 4 rfl) ?_
              refine x0_get (v := .ref (ad 1)) S0 hin hK hP 1 (by decide) f_wireAt rfl rfl dX0_shortenDistances_27 ?_
              refine lv_iload hx hb dX0_shortenDistances_30 (lv_at hl 0 rfl) ?_
              refine va_iald hx hb hK hP 1 0 rfl rfl (vp_in_nI (by omega) (by omega)) dX0_shortenDistances_32 ?_
              refine xt_eq (z := w (4 * r + q)) (congrArg w (nI_clamp (by omega))) ?_
              refine lv_istore (lv' := [(5, .int (w (4 * r + q))), (4, .int (nI (4 * r + q))), (3, .int (nI q)), (2, .int (nI r)), (1, .int fk), (0, .ref (ad 0))]) hx hb dX0_shortenDistances_33 hl (by decide) rfl (fun ls hl => ?_)
              refine lv_aload_n hx hb dX0_shortenDistances_35 rfl (lv_at hl 5 rfl) ?_
              refine lv_iload hx hb dX0_shortenDistances_36 (lv_at hl 0 rfl) ?_
              refine xs_Vi (wr := []) (q0 := 0) (ci := 0) (nA := 1) (As := [.int (w (4 * r + q))]) (rest := []) S0 (k_X0_isUp l D ad tt R w c k d3 n wp wr (w (4 * r + q))) gX0_shortenDistances_X0_isUp rfl ⟨rfl, rfl⟩ (by decide +kernel) rfl ⟨Nat.le_of_ble_eq_true rfl, Nat.le_of_ble_eq_true rfl⟩ ⟨Nat.le_of_ble_eq_true rfl, Nat.le_of_ble_eq_true rfl⟩ hK hP hD hS hA [0, 1, 2, 3, 4, 5] [] rfl rfl (by decide) (by decide) (by decide) rfl rfl rfl hl.1 rfl (Nat.le_of_ble_eq_true rfl) dX0_shortenDistances_38 (fun r_4 u H locs hw hP hD hS => ?_)
              have hP : va_P D vwCl (xw ad tt R w c k d3 n wp wr) H := hP
              have hD : va_D A (xw ad tt R w c k d3 n wp wr) := hD
              rcases hw with ⟨rfl, h_u⟩ | ⟨rfl, h_u⟩
              · refine lv_if_eq (tgt := 91) hx hb dX0_shortenDistances_41 (by decide) (fun c_5 => absurd c_5 (by decide)) (fun c_5 => ?_)
                obtain ⟨x, hx6, ex, hk0⟩ := h_u
                have hcc := ww_c_ok hok hrR hq4 hx6 ex
                have hnx := hn x hx6
                have hx8 := (hsp r hrR).1
                refine lv_aload_n hx hb dX0_shortenDistances_44 rfl (lv_at hl 5 rfl) ?_
                refine x0_get (v := .ref (ad 2)) S0 hin hK hP 2 (by decide) f_costAt rfl rfl dX0_shortenDistances_45 ?_
                refine lv_iload hx hb dX0_shortenDistances_48 (lv_at hl 1 rfl) ?_
                refine va_iald hx hb hK hP 2 1 rfl rfl (vp_in_nI (by omega) (by omega)) dX0_shortenDistances_50 ?_
                refine xt_eq (z := c (4 * r + q)) (congrArg c (nI_clamp (by omega))) ?_
                refine xt_eq (z := nI (ww_c c r q)) hcc.1 ?_
                refine lv_aload_n hx hb dX0_shortenDistances_51 rfl (lv_at hl 5 rfl) ?_
                refine x0_get (v := .ref (ad 5)) S0 hin hK hP 5 (by decide) f_nearest rfl rfl dX0_shortenDistances_52 ?_
                refine lv_iload hx hb dX0_shortenDistances_55 (lv_at hl 0 rfl) ?_
                refine va_iald hx hb hK hP 5 4 rfl rfl (ex_in ex (by omega) (by omega)) dX0_shortenDistances_57 ?_
                refine xt_eq (z := n x) (congrArg n (ex_cl ex (by omega))) ?_
                refine xt_eq (z := nI (nn x)) hnx.1 ?_
                refine lv_iadd hx hb dX0_shortenDistances_58 ?_
                refine xt_eq (z := nI (ww_c c r q + nn x)) (nI_add _ _) ?_
                refine lv_aload_n hx hb dX0_shortenDistances_59 rfl (lv_at hl 5 rfl) ?_
                refine x0_get (v := .ref (ad 4)) S0 hin hK hP 4 (by decide) f_distance rfl rfl dX0_shortenDistances_60 ?_
                refine lv_iload_n hx hb dX0_shortenDistances_63 rfl (lv_at hl 3 rfl) ?_
                refine va_iald hx hb hK hP 4 3 rfl rfl (vp_in_nI (by omega) (by omega)) dX0_shortenDistances_64 ?_
                refine xt_eq (z := d3 r) (congrArg d3 (nI_clamp (by omega))) ?_
                refine xt_eq (z := nI (dp r)) (hd3 r hrR) ?_
                refine lv_icmp_ge (tgt := 91) hx hb dX0_shortenDistances_65 (by decide) (fun c_6 => ?_) (fun c_6 => ?_)
                · have hle : dp r ≤ ww_c c r q + nn x := (nI_leI (by omega) (by omega)).mp c_6
                  refine lv_iinc (v := nI (q + 1)) (lv' := [(3, .int (nI (q + 1))), (5, .int (w (4 * r + q))), (4, .int (nI (4 * r + q))), (2, .int (nI r)), (1, .int fk), (0, .ref (ad 0))]) hx hb dX0_shortenDistances_91 hl (k := 2) rfl (nI_1 q) (by decide) rfl (fun ls hl => ?_)
                  refine lv_goto (tgt := 14) hx hb dX0_shortenDistances_94 (by decide) ?_
                  exact ih14 (q + 1) d3 dp fk (by omega) hd3 (sd_keep hsp hx6 ex hle) hfk (by omega) H locs ls hP hD hS (lv_sub hl [0, 3, 4, 5] rfl)
                · have hle : ww_c c r q + nn x < dp r := Nat.lt_of_not_le (fun h => c_6 (nI_le h (by omega)))
                  refine lv_aload_n hx hb dX0_shortenDistances_68 rfl (lv_at hl 5 rfl) ?_
                  refine x0_get (v := .ref (ad 4)) S0 hin hK hP 4 (by decide) f_distance rfl rfl dX0_shortenDistances_69 ?_
                  refine lv_iload_n hx hb dX0_shortenDistances_72 rfl (lv_at hl 3 rfl) ?_
                  refine lv_aload_n hx hb dX0_shortenDistances_73 rfl (lv_at hl 5 rfl) ?_
                  refine x0_get (v := .ref (ad 2)) S0 hin hK hP 2 (by decide) f_costAt rfl rfl dX0_shortenDistances_74 ?_
                  refine lv_iload hx hb dX0_shortenDistances_77 (lv_at hl 1 rfl) ?_
                  refine va_iald hx hb hK hP 2 1 rfl rfl (vp_in_nI (by omega) (by omega)) dX0_shortenDistances_79 ?_
                  refine xt_eq (z := c (4 * r + q)) (congrArg c (nI_clamp (by omega))) ?_
                  refine xt_eq (z := nI (ww_c c r q)) hcc.1 ?_
                  refine lv_aload_n hx hb dX0_shortenDistances_80 rfl (lv_at hl 5 rfl) ?_
                  refine x0_get (v := .ref (ad 5)) S0 hin hK hP 5 (by decide) f_nearest rfl rfl dX0_shortenDistances_81 ?_
                  refine lv_iload hx hb dX0_shortenDistances_84 (lv_at hl 0 rfl) ?_
                  refine va_iald hx hb hK hP 5 4 rfl rfl (ex_in ex (by omega) (by omega)) dX0_shortenDistances_86 ?_
                  refine xt_eq (z := n x) (congrArg n (ex_cl ex (by omega))) ?_
                  refine xt_eq (z := nI (nn x)) hnx.1 ?_
                  refine lv_iadd hx hb dX0_shortenDistances_87 ?_
                  refine xt_eq (z := nI (ww_c c r q + nn x)) (nI_add _ _) ?_
                  refine va_iast hx hb hK hP hD hS 4 3 rfl rfl (vp_in_nI (by omega) (by omega)) dX0_shortenDistances_88 (fun H locs hP hD hS => ?_)
                  rw [(nI_clamp (by omega))] at hP hD
                  have hP : va_P D vwCl (xw ad tt R w c k (upd d3 r (nI (ww_c c r q + nn x))) n wp wr) H := hP
                  have hD : va_D A (xw ad tt R w c k (upd d3 r (nI (ww_c c r q + nn x))) n wp wr) := hD
                  refine lv_iconst (v := 1) hx hb dX0_shortenDistances_89 (by decide) ?_
                  refine lv_istore_n (lv' := [(1, .int 1), (5, .int (w (4 * r + q))), (4, .int (nI (4 * r + q))), (3, .int (nI q)), (2, .int (nI r)), (0, .ref (ad 0))]) hx hb dX0_shortenDistances_90 rfl hl (by decide) rfl (fun ls hl => ?_)
                  refine lv_iinc (v := nI (q + 1)) (lv' := [(3, .int (nI (q + 1))), (1, .int 1), (5, .int (w (4 * r + q))), (4, .int (nI (4 * r + q))), (2, .int (nI r)), (0, .ref (ad 0))]) hx hb dX0_shortenDistances_91 hl (k := 3) rfl (nI_1 q) (by decide) rfl (fun ls hl => ?_)
                  refine lv_goto (tgt := 14) hx hb dX0_shortenDistances_94 (by decide) ?_
                  exact ih14 (q + 1) _ (nup dp r (ww_c c r q + nn x)) 1 (by omega) (row_up hd3 _ _) (sd_put hsp hq4 hx6 ex hk0 hle) (Or.inr rfl) (by omega) H locs ls hP hD hS (lv_sub hl [0, 4, 1, 5] rfl)
              · refine lv_if_eq (tgt := 91) hx hb dX0_shortenDistances_41 (by decide) (fun c_7 => ?_) (fun c_7 => absurd c_7 (by decide))
                refine lv_iinc (v := nI (q + 1)) (lv' := [(3, .int (nI (q + 1))), (5, .int (w (4 * r + q))), (4, .int (nI (4 * r + q))), (2, .int (nI r)), (1, .int fk), (0, .ref (ad 0))]) hx hb dX0_shortenDistances_91 hl (k := 2) rfl (nI_1 q) (by decide) rfl (fun ls hl => ?_)
                refine lv_goto (tgt := 14) hx hb dX0_shortenDistances_94 (by decide) ?_
                exact ih14 (q + 1) d3 dp fk (by omega) hd3 (sd_skip hsp h_u) hfk (by omega) H locs ls hP hD hS (lv_sub hl [0, 3, 4, 5] rfl)
        exact lp14 _ 0 d2 dm fl (by omega) hd2 (sd_V hsd (fun a b ha hb h => by omega)) hfl (Nat.lt_succ_self _) H locs ls hP hD hS (lv_sub hl [0, 1, 2, 3] rfl)
  exact lp4 _ 0 d dn 0 (by omega) (fun a h => (hd a h).1) (sd_0 _ (fun a _ => Nat.not_lt_zero a)) (Or.inl ⟨rfl, fun _ _ => rfl⟩) (Nat.lt_succ_self _) H locs ls hP hD hS (lv_sub hl [0, 1, 2] rfl)
