set_option maxHeartbeats 4000000 in
set_option maxRecDepth 100000 in
theorem k_X0_isPort (l : Launch) (D : va_G) (ad : Nat → Nat) (tt : Nat → ClassId) (R : Nat) (w c k d n : Nat → Int32) (wp wr : Int32) (x y : Int32) (hR : R ≤ 10) : xMi l yX0_isPort wsX0_isPort { frames := 1, cells := 0, slots := 0, locals := 21 } D (tyX tt) [.ref (ad 0), .int x, .int y] (xw ad tt R w c k d n wp wr) (fun _ : Unit => xw ad tt R w c k d n wp wr) (fun v _ => (v = 1 ∧ ix x R ∧ ix y 4) ∨ (v = 0 ∧ ¬ (ix x R ∧ ix y 4))) := by
  refine xe_i (cc := cX0_isPort) (maxL := 3) (ret := (some .boolean)) (lvl := [(0, .ref (ad 0)), (1, .int x), (2, .int y)]) (by decide) rfl (Nat.le_of_ble_eq_true rfl) rfl ?_
  intro p e s m below meth cd A ls hx hb hr hlocks hml hown hts hA hP hK hD hS hl
  have hin : ∀ w ∈ wsX00, w ∈ wsX0_isPort := fun _ h => List.mem_cons_of_mem _ (List.mem_append_right _ h)
  have S0 : CallFix p m cd cX0_isPort 3 s (([.ref (ad 0), .int x, .int y] : List Value).toArray) wsX0_isPort RX0 := ⟨hx, hb, hml, hown, hts⟩
  obtain ⟨H, hH⟩ : ∃ H, H = s.heap := ⟨_, rfl⟩
  obtain ⟨locs, hlocs⟩ : ∃ q : List Loc, q = [] := ⟨_, rfl⟩
  have hP : va_P D vwCl (xw ad tt R w c k d n wp wr) H := by rw [hH]; exact hP
  have hS : va_S A s.heap H locs := by rw [hH, hlocs]; exact hS
  suffices hgo : W p l e (headSpec wsX0_isPort ({ frames := 1, cells := 0, slots := 0, locals := 21 } : Room)).room s m (([.ref (ad 0), .int x, .int y] : List Value).toArray) below meth cd H locs 0 0 (MQ below (va_Qi (fun v _ => (v = 1 ∧ ix x R ∧ ix y 4) ∨ (v = 0 ∧ ¬ (ix x R ∧ ix y 4))) (xB D (tyX tt) A (fun _ : Unit => xw ad tt R w c k d n wp wr)) A) ([.ref (ad 0), .int x, .int y] : List Value).toArray s 0 0 A) (F0 m 0 ls []) by rw [hH, hlocs] at hgo; exact hgo
  clear hH hlocs
  refine lv_aload_n hx hb dX0_isPort_0 rfl (lv_at hl 0 rfl) ?_
  refine lv_iload_n hx hb dX0_isPort_1 rfl (lv_at hl 1 rfl) ?_
  refine xs_Vi (wr := []) (q0 := 0) (ci := 0) (nA := 1) (As := [.int x]) (rest := []) S0 (k_X0_isRouter l D ad tt R w c k d n wp wr x hR) gX0_isPort_X0_isRouter rfl ⟨rfl, rfl⟩ (by decide +kernel) rfl ⟨Nat.le_of_ble_eq_true rfl, Nat.le_of_ble_eq_true rfl⟩ ⟨Nat.le_of_ble_eq_true rfl, Nat.le_of_ble_eq_true rfl⟩ hK hP hD hS hA [0, 1, 2, 3, 4, 5] [] rfl rfl (by decide) (by decide) (by decide) rfl rfl rfl hl.1 rfl (Nat.le_of_ble_eq_true rfl) dX0_isPort_2 (fun r_1 u H locs hw hP hD hS => ?_)
  have hP : va_P D vwCl (xw ad tt R w c k d n wp wr) H := hP
  have hD : va_D A (xw ad tt R w c k d n wp wr) := hD
  rcases hw with ⟨rfl, h_r⟩ | ⟨rfl, h_r⟩
  · refine lv_if_eq (tgt := 21) hx hb dX0_isPort_5 (by decide) (fun c_2 => absurd c_2 (by decide)) (fun c_2 => ?_)
    refine lv_iload_n hx hb dX0_isPort_8 rfl (lv_at hl 2 rfl) ?_
    refine lv_if_lt (tgt := 21) hx hb dX0_isPort_9 (by decide) (fun c_3 => ?_) (fun c_3 => ?_)
    · have hn := ix_n0 (n := 4) (by omega) c_3
      refine lv_iconst (v := 0) hx hb dX0_isPort_21 (by decide) ?_
      exact xr_z hx hb hr hlocks rfl () (Or.inr ⟨rfl, fun h => by first | exact hn h.2 | exact h_r h.1⟩) hP hK hD hS dX0_isPort_22
    · refine lv_iload_n hx hb dX0_isPort_12 rfl (lv_at hl 2 rfl) ?_
      refine lv_iconst (v := 4) hx hb dX0_isPort_13 (by decide) ?_
      refine lv_icmp_ge (tgt := 21) hx hb dX0_isPort_14 (by decide) (fun c_4 => ?_) (fun c_4 => ?_)
      · have hn := ix_n1 (n := 4) (by omega) c_4
        refine lv_iconst (v := 0) hx hb dX0_isPort_21 (by decide) ?_
        exact xr_z hx hb hr hlocks rfl () (Or.inr ⟨rfl, fun h => by first | exact hn h.2 | exact h_r h.1⟩) hP hK hD hS dX0_isPort_22
      · refine lv_iconst (v := 1) hx hb dX0_isPort_17 (by decide) ?_
        refine lv_goto (tgt := 22) hx hb dX0_isPort_18 (by decide) ?_
        exact xr_z hx hb hr hlocks rfl () (Or.inl ⟨rfl, h_r, ix_of (by omega) (by assumption) (by assumption)⟩) hP hK hD hS dX0_isPort_22
  · refine lv_if_eq (tgt := 21) hx hb dX0_isPort_5 (by decide) (fun c_5 => ?_) (fun c_5 => absurd c_5 (by decide))
    refine lv_iconst (v := 0) hx hb dX0_isPort_21 (by decide) ?_
    exact xr_z hx hb hr hlocks rfl () (Or.inr ⟨rfl, fun h => by first | exact hn h.2 | exact h_r h.1⟩) hP hK hD hS dX0_isPort_22
set_option maxHeartbeats 4000000 in
set_option maxRecDepth 100000 in
theorem k_X1_isPlace (l : Launch) (D : va_G) (ad : Nat → Nat) (tt : Nat → ClassId) (R : Nat) (w c k d : Nat → Int32) (wp wr : Int32) (x y : Int32) (hR : R ≤ 10) : xMi l yX1_isPlace wsX1_isPlace { frames := 1, cells := 0, slots := 0, locals := 21 } D (tyM tt) [.ref (ad 0), .int x, .int y] (mw ad tt R w c k d wp wr) (fun _ : Unit => mw ad tt R w c k d wp wr) (fun v _ => (v = 1 ∧ ix x R ∧ ix y 4) ∨ (v = 0 ∧ ¬ (ix x R ∧ ix y 4))) := by
  refine xe_i (cc := cX1_isPlace) (maxL := 3) (ret := (some .boolean)) (lvl := [(0, .ref (ad 0)), (1, .int x), (2, .int y)]) (by decide) rfl (Nat.le_of_ble_eq_true rfl) rfl ?_
  intro p e s m below meth cd A ls hx hb hr hlocks hml hown hts hA hP hK hD hS hl
  have hin : ∀ w ∈ wsX10, w ∈ wsX1_isPlace := fun _ h => List.mem_cons_of_mem _ (List.mem_append_right _ h)
  have S0 : CallFix p m cd cX1_isPlace 3 s (([.ref (ad 0), .int x, .int y] : List Value).toArray) wsX1_isPlace RX1 := ⟨hx, hb, hml, hown, hts⟩
  obtain ⟨H, hH⟩ : ∃ H, H = s.heap := ⟨_, rfl⟩
  obtain ⟨locs, hlocs⟩ : ∃ q : List Loc, q = [] := ⟨_, rfl⟩
  have hP : va_P D vwCl (mw ad tt R w c k d wp wr) H := by rw [hH]; exact hP
  have hS : va_S A s.heap H locs := by rw [hH, hlocs]; exact hS
  suffices hgo : W p l e (headSpec wsX1_isPlace ({ frames := 1, cells := 0, slots := 0, locals := 21 } : Room)).room s m (([.ref (ad 0), .int x, .int y] : List Value).toArray) below meth cd H locs 0 0 (MQ below (va_Qi (fun v _ => (v = 1 ∧ ix x R ∧ ix y 4) ∨ (v = 0 ∧ ¬ (ix x R ∧ ix y 4))) (xB D (tyM tt) A (fun _ : Unit => mw ad tt R w c k d wp wr)) A) ([.ref (ad 0), .int x, .int y] : List Value).toArray s 0 0 A) (F0 m 0 ls []) by rw [hH, hlocs] at hgo; exact hgo
  clear hH hlocs
  refine lv_aload_n hx hb dX1_isPlace_0 rfl (lv_at hl 0 rfl) ?_
  refine lv_iload_n hx hb dX1_isPlace_1 rfl (lv_at hl 1 rfl) ?_
  refine xs_Vi (wr := []) (q0 := 0) (ci := 1) (nA := 1) (As := [.int x]) (rest := []) S0 (k_X1_isRouter l D ad tt R w c k d wp wr x hR) gX1_isPlace_X1_isRouter rfl ⟨rfl, rfl⟩ (by decide +kernel) rfl ⟨Nat.le_of_ble_eq_true rfl, Nat.le_of_ble_eq_true rfl⟩ ⟨Nat.le_of_ble_eq_true rfl, Nat.le_of_ble_eq_true rfl⟩ hK hP hD hS hA [0, 1, 2, 3, 4] [] rfl rfl (by decide) (by decide) (by decide) rfl rfl rfl hl.1 rfl (Nat.le_of_ble_eq_true rfl) dX1_isPlace_2 (fun r_1 u H locs hw hP hD hS => ?_)
  have hP : va_P D vwCl (mw ad tt R w c k d wp wr) H := hP
  have hD : va_D A (mw ad tt R w c k d wp wr) := hD
  rcases hw with ⟨rfl, h_r⟩ | ⟨rfl, h_r⟩
  · refine lv_if_eq (tgt := 21) hx hb dX1_isPlace_5 (by decide) (fun c_2 => absurd c_2 (by decide)) (fun c_2 => ?_)
    refine lv_iload_n hx hb dX1_isPlace_8 rfl (lv_at hl 2 rfl) ?_
    refine lv_if_lt (tgt := 21) hx hb dX1_isPlace_9 (by decide) (fun c_3 => ?_) (fun c_3 => ?_)
    · have hn := ix_n0 (n := 4) (by omega) c_3
      refine lv_iconst (v := 0) hx hb dX1_isPlace_21 (by decide) ?_
      exact xr_z hx hb hr hlocks rfl () (Or.inr ⟨rfl, fun h => by first | exact hn h.2 | exact h_r h.1⟩) hP hK hD hS dX1_isPlace_22
    · refine lv_iload_n hx hb dX1_isPlace_12 rfl (lv_at hl 2 rfl) ?_
      refine lv_iconst (v := 4) hx hb dX1_isPlace_13 (by decide) ?_
      refine lv_icmp_ge (tgt := 21) hx hb dX1_isPlace_14 (by decide) (fun c_4 => ?_) (fun c_4 => ?_)
      · have hn := ix_n1 (n := 4) (by omega) c_4
        refine lv_iconst (v := 0) hx hb dX1_isPlace_21 (by decide) ?_
        exact xr_z hx hb hr hlocks rfl () (Or.inr ⟨rfl, fun h => by first | exact hn h.2 | exact h_r h.1⟩) hP hK hD hS dX1_isPlace_22
      · refine lv_iconst (v := 1) hx hb dX1_isPlace_17 (by decide) ?_
        refine lv_goto (tgt := 22) hx hb dX1_isPlace_18 (by decide) ?_
        exact xr_z hx hb hr hlocks rfl () (Or.inl ⟨rfl, h_r, ix_of (by omega) (by assumption) (by assumption)⟩) hP hK hD hS dX1_isPlace_22
  · refine lv_if_eq (tgt := 21) hx hb dX1_isPlace_5 (by decide) (fun c_5 => ?_) (fun c_5 => absurd c_5 (by decide))
    refine lv_iconst (v := 0) hx hb dX1_isPlace_21 (by decide) ?_
    exact xr_z hx hb hr hlocks rfl () (Or.inr ⟨rfl, fun h => by first | exact hn h.2 | exact h_r h.1⟩) hP hK hD hS dX1_isPlace_22
set_option maxHeartbeats 4000000 in
set_option maxRecDepth 100000 in
theorem k_X0_isUp (l : Launch) (D : va_G) (ad : Nat → Nat) (tt : Nat → ClassId) (R : Nat) (w c k d n : Nat → Int32) (wp wr : Int32) (x : Int32) : xMi l yX0_isUp wsX0_isUp { frames := 1, cells := 0, slots := 0, locals := 20 } D (tyX tt) [.ref (ad 0), .int x] (xw ad tt R w c k d n wp wr) (fun _ : Unit => xw ad tt R w c k d n wp wr) (fun v _ => (v = 1 ∧ upw k x) ∨ (v = 0 ∧ ¬ upw k x)) := by
  refine xe_i (cc := cX0_isUp) (maxL := 2) (ret := (some .boolean)) (lvl := [(0, .ref (ad 0)), (1, .int x)]) (by decide) rfl (Nat.le_of_ble_eq_true rfl) rfl ?_
  intro p e s m below meth cd A ls hx hb hr hlocks hml hown hts hA hP hK hD hS hl
  have hin : ∀ w ∈ wsX00, w ∈ wsX0_isUp := fun _ h => List.mem_cons_of_mem _ (List.mem_append_right _ h)
  have S0 : CallFix p m cd cX0_isUp 2 s (([.ref (ad 0), .int x] : List Value).toArray) wsX0_isUp RX0 := ⟨hx, hb, hml, hown, hts⟩
  obtain ⟨H, hH⟩ : ∃ H, H = s.heap := ⟨_, rfl⟩
  obtain ⟨locs, hlocs⟩ : ∃ q : List Loc, q = [] := ⟨_, rfl⟩
  have hP : va_P D vwCl (xw ad tt R w c k d n wp wr) H := by rw [hH]; exact hP
  have hS : va_S A s.heap H locs := by rw [hH, hlocs]; exact hS
  suffices hgo : W p l e (headSpec wsX0_isUp ({ frames := 1, cells := 0, slots := 0, locals := 20 } : Room)).room s m (([.ref (ad 0), .int x] : List Value).toArray) below meth cd H locs 0 0 (MQ below (va_Qi (fun v _ => (v = 1 ∧ upw k x) ∨ (v = 0 ∧ ¬ upw k x)) (xB D (tyX tt) A (fun _ : Unit => xw ad tt R w c k d n wp wr)) A) ([.ref (ad 0), .int x] : List Value).toArray s 0 0 A) (F0 m 0 ls []) by rw [hH, hlocs] at hgo; exact hgo
  clear hH hlocs
  have f_isCut := hts (.fieldLink RX0 29 "WireWays" "isCut" "[Z") (by decide +kernel)
  refine lv_iload_n hx hb dX0_isUp_0 rfl (lv_at hl 1 rfl) ?_
  refine xs_Si (nA := 1) (As := [.int x]) (rest := []) S0 (k_X0_isWire l D x) gX0_isUp_X0_isWire rfl ⟨rfl, rfl⟩ (by decide +kernel) rfl ⟨Nat.le_of_ble_eq_true rfl, Nat.le_of_ble_eq_true rfl⟩ ⟨Nat.le_of_ble_eq_true rfl, Nat.le_of_ble_eq_true rfl⟩ hK hP hD hS hA hl.1 rfl (Nat.le_of_ble_eq_true rfl) dX0_isUp_1 (fun r_1 H locs hw hP hD hS => ?_)
  rcases hw with ⟨rfl, h_w⟩ | ⟨rfl, h_w⟩
  · refine lv_if_eq (tgt := 20) hx hb dX0_isUp_4 (by decide) (fun c_2 => absurd c_2 (by decide)) (fun c_2 => ?_)
    obtain ⟨j, hj, ej⟩ := h_w
    refine lv_aload_n hx hb dX0_isUp_7 rfl (lv_at hl 0 rfl) ?_
    refine x0_get (v := .ref (ad 3)) S0 hin hK hP 3 (by decide) f_isCut rfl rfl dX0_isUp_8 ?_
    refine lv_iload_n hx hb dX0_isUp_11 rfl (lv_at hl 1 rfl) ?_
    refine va_zald hx hb hK hP 3 2 rfl rfl (ex_in ej (by omega) (by omega)) dX0_isUp_12 ?_
    refine xt_eq (z := k j) (congrArg k (ex_cl ej (by omega))) ?_
    refine lv_if_ne (tgt := 20) hx hb dX0_isUp_13 (by decide) (fun c_3 => ?_) (fun c_3 => ?_)
    · refine lv_iconst (v := 0) hx hb dX0_isUp_20 (by decide) ?_
      exact xr_z hx hb hr hlocks rfl () (Or.inr ⟨rfl, fun h => by first | exact h_w (upw_ix h) | exact absurd ((upw_iff ej hj).mp h) (by assumption)⟩) hP hK hD hS dX0_isUp_21
    · refine lv_iconst (v := 1) hx hb dX0_isUp_16 (by decide) ?_
      refine lv_goto (tgt := 21) hx hb dX0_isUp_17 (by decide) ?_
      exact xr_z hx hb hr hlocks rfl () (Or.inl ⟨rfl, (upw_iff ej hj).mpr (by assumption)⟩) hP hK hD hS dX0_isUp_21
  · refine lv_if_eq (tgt := 20) hx hb dX0_isUp_4 (by decide) (fun c_4 => ?_) (fun c_4 => absurd c_4 (by decide))
    refine lv_iconst (v := 0) hx hb dX0_isUp_20 (by decide) ?_
    exact xr_z hx hb hr hlocks rfl () (Or.inr ⟨rfl, fun h => by first | exact h_w (upw_ix h) | exact absurd ((upw_iff ej hj).mp h) (by assumption)⟩) hP hK hD hS dX0_isUp_21
set_option maxHeartbeats 4000000 in
set_option maxRecDepth 100000 in
theorem k_X0_portOn (l : Launch) (D : va_G) (ad : Nat → Nat) (tt : Nat → ClassId) (R : Nat) (w c k d n : Nat → Int32) (wp wr : Int32) (r : Nat) (x : Int32) (hr10 : r < 10) : xMi l yX0_portOn wsX0_portOn { frames := 1, cells := 0, slots := 0, locals := 21 } D (tyX tt) [.ref (ad 0), .int (nI r), .int x] (xw ad tt R w c k d n wp wr) (fun _ : Unit => xw ad tt R w c k d n wp wr) (fun v _ => ww_po w r x v) := by
  refine xe_i (cc := cX0_portOn) (maxL := 4) (ret := (some .int)) (lvl := [(0, .ref (ad 0)), (1, .int (nI r)), (2, .int x)]) (by decide) rfl (Nat.le_of_ble_eq_true rfl) rfl ?_
  intro p e s m below meth cd A ls hx hb hr hlocks hml hown hts hA hP hK hD hS hl
  have hin : ∀ w ∈ wsX00, w ∈ wsX0_portOn := fun _ h => List.mem_cons_of_mem _ (List.mem_append_right _ h)
  have S0 : CallFix p m cd cX0_portOn 4 s (([.ref (ad 0), .int (nI r), .int x] : List Value).toArray) wsX0_portOn RX0 := ⟨hx, hb, hml, hown, hts⟩
  obtain ⟨H, hH⟩ : ∃ H, H = s.heap := ⟨_, rfl⟩
  obtain ⟨locs, hlocs⟩ : ∃ q : List Loc, q = [] := ⟨_, rfl⟩
  have hP : va_P D vwCl (xw ad tt R w c k d n wp wr) H := by rw [hH]; exact hP
  have hS : va_S A s.heap H locs := by rw [hH, hlocs]; exact hS
  suffices hgo : W p l e (headSpec wsX0_portOn ({ frames := 1, cells := 0, slots := 0, locals := 21 } : Room)).room s m (([.ref (ad 0), .int (nI r), .int x] : List Value).toArray) below meth cd H locs 0 0 (MQ below (va_Qi (fun v _ => ww_po w r x v) (xB D (tyX tt) A (fun _ : Unit => xw ad tt R w c k d n wp wr)) A) ([.ref (ad 0), .int (nI r), .int x] : List Value).toArray s 0 0 A) (F0 m 0 ls []) by rw [hH, hlocs] at hgo; exact hgo
  clear hH hlocs
  have f_wireAt := hts (.fieldLink RX0 22 "WireWays" "wireAt" "[I") (by decide +kernel)
  refine lv_iconst (v := 0) hx hb dX0_portOn_0 (by decide) ?_
  refine lv_istore_n (lv' := [(3, .int 0), (0, .ref (ad 0)), (1, .int (nI r)), (2, .int x)]) hx hb dX0_portOn_1 rfl hl (by decide) rfl (fun ls hl => ?_)
  have lp2 : ∀ (fuel : Nat) (q : Nat), (q ≤ 4) → (∀ q', q' < q → w (4 * r + q') ≠ x) → 4 - q < fuel → ∀ (H : Heap) (locs : List Loc) (ls : Array Slot), va_P D vwCl (xw ad tt R w c k d n wp wr) H → va_D A (xw ad tt R w c k d n wp wr) → va_S A s.heap H locs → lv_has ls 4 [(3, .int (nI q)), (0, .ref (ad 0)), (1, .int (nI r)), (2, .int x)] → W p l e (headSpec wsX0_portOn ({ frames := 1, cells := 0, slots := 0, locals := 21 } : Room)).room s m ([.ref (ad 0), .int (nI r), .int x] : List Value).toArray below meth cd H locs 0 0 (MQ below (va_Qi (fun v _ => ww_po w r x v) (xB D (tyX tt) A (fun _ : Unit => xw ad tt R w c k d n wp wr)) A) ([.ref (ad 0), .int (nI r), .int x] : List Value).toArray s 0 0 A) (F0 m 2 ls []) := by
    intro fuel
    induction fuel with
    | zero => intro q hq hno hm; exact absurd hm (Nat.not_lt_zero _)
    | succ fuel ih2 =>
      intro q hq hno hm H locs ls hP hD hS hl
      refine lv_iload_n hx hb dX0_portOn_2 rfl (lv_at hl 0 rfl) ?_
      refine lv_iconst (v := 4) hx hb dX0_portOn_3 (by decide) ?_
      refine lv_icmp_ge (tgt := 29) hx hb dX0_portOn_4 (by decide) (fun c_1 => ?_) (fun c_1 => ?_)
      · have hq4 : 4 ≤ q := (nI_leI (a := 4) (by omega) (by omega)).mp c_1
        refine lv_iconst (v := (-1)) hx hb dX0_portOn_29 (by decide) ?_
        exact xr_i hx hb hr hlocks () (Or.inl ⟨rfl, fun q' h => hno q' (by omega)⟩) hP hK hD hS dX0_portOn_30
      · have hq4 : q < 4 := Nat.lt_of_not_le (fun h => c_1 (nI_le (a := 4) h (by omega)))
        refine lv_aload_n hx hb dX0_portOn_7 rfl (lv_at hl 1 rfl) ?_
        refine x0_get (v := .ref (ad 1)) S0 hin hK hP 1 (by decide) f_wireAt rfl rfl dX0_portOn_8 ?_
        refine lv_iload_n hx hb dX0_portOn_11 rfl (lv_at hl 2 rfl) ?_
        refine lv_iload_n hx hb dX0_portOn_12 rfl (lv_at hl 0 rfl) ?_
        refine xs_Si (nA := 2) (As := [.int (nI r), .int (nI q)]) (rest := [.ref (ad 1)]) S0 (k_X0_placeOf l D (nI r) (nI q)) gX0_portOn_X0_placeOf rfl ⟨rfl, rfl⟩ (by decide +kernel) rfl ⟨Nat.le_of_ble_eq_true rfl, Nat.le_of_ble_eq_true rfl⟩ ⟨Nat.le_of_ble_eq_true rfl, Nat.le_of_ble_eq_true rfl⟩ hK hP hD hS hA hl.1 rfl (Nat.le_of_ble_eq_true rfl) dX0_portOn_13 (fun r_2 H locs hw hP hD hS => ?_)
        have hw : r_2 = nI (4 * r + q) := by rw [hw]; exact nI_pl _ _
        subst hw
        refine va_iald hx hb hK hP 1 0 rfl rfl (vp_in_nI (by omega) (by omega)) dX0_portOn_16 ?_
        refine xt_eq (z := w (4 * r + q)) (congrArg w (nI_clamp (by omega))) ?_
        refine lv_iload_n hx hb dX0_portOn_17 rfl (lv_at hl 3 rfl) ?_
        refine lv_icmp_ne (tgt := 23) hx hb dX0_portOn_18 (by decide) (fun c_3 => ?_) (fun c_3 => ?_)
        · refine lv_iinc (v := nI (q + 1)) (lv' := [(3, .int (nI (q + 1))), (0, .ref (ad 0)), (1, .int (nI r)), (2, .int x)]) hx hb dX0_portOn_23 hl (k := 0) rfl (nI_1 q) (by decide) rfl (fun ls hl => ?_)
          refine lv_goto (tgt := 2) hx hb dX0_portOn_26 (by decide) ?_
          exact ih2 (q + 1) (by omega) (lt_s hno c_3) (by omega) H locs ls hP hD hS (lv_sub hl [0, 1, 2, 3] rfl)
        · refine lv_iload_n hx hb dX0_portOn_21 rfl (lv_at hl 0 rfl) ?_
          exact xr_i hx hb hr hlocks () (Or.inr ⟨q, hq4, rfl, c_3, hno⟩) hP hK hD hS dX0_portOn_22
  exact lp2 _ 0 (by omega) (fun q h => absurd h (Nat.not_lt_zero q)) (Nat.lt_succ_self _) H locs ls hP hD hS (lv_sub hl [0, 1, 2, 3] rfl)
set_option maxHeartbeats 4000000 in
set_option maxRecDepth 100000 in
theorem k_X1_portOn (l : Launch) (D : va_G) (ad : Nat → Nat) (tt : Nat → ClassId) (R : Nat) (w c k d : Nat → Int32) (wp wr : Int32) (r : Nat) (x : Int32) (hr10 : r < 10) : xMi l yX1_portOn wsX1_portOn { frames := 0, cells := 0, slots := 0, locals := 0 } D (tyM tt) [.ref (ad 0), .int (nI r), .int x] (mw ad tt R w c k d wp wr) (fun _ : Unit => mw ad tt R w c k d wp wr) (fun v _ => ww_po w r x v) := by
  refine xe_i (cc := cX1_portOn) (maxL := 4) (ret := (some .int)) (lvl := [(0, .ref (ad 0)), (1, .int (nI r)), (2, .int x)]) (by decide) rfl (Nat.le_of_ble_eq_true rfl) rfl ?_
  intro p e s m below meth cd A ls hx hb hr hlocks hml hown hts hA hP hK hD hS hl
  have hin : ∀ w ∈ wsX10, w ∈ wsX1_portOn := fun _ h => List.mem_cons_of_mem _ (List.mem_append_right _ h)
  have S0 : CallFix p m cd cX1_portOn 4 s (([.ref (ad 0), .int (nI r), .int x] : List Value).toArray) wsX1_portOn RX1 := ⟨hx, hb, hml, hown, hts⟩
  obtain ⟨H, hH⟩ : ∃ H, H = s.heap := ⟨_, rfl⟩
  obtain ⟨locs, hlocs⟩ : ∃ q : List Loc, q = [] := ⟨_, rfl⟩
  have hP : va_P D vwCl (mw ad tt R w c k d wp wr) H := by rw [hH]; exact hP
  have hS : va_S A s.heap H locs := by rw [hH, hlocs]; exact hS
  suffices hgo : W p l e (headSpec wsX1_portOn ({ frames := 0, cells := 0, slots := 0, locals := 0 } : Room)).room s m (([.ref (ad 0), .int (nI r), .int x] : List Value).toArray) below meth cd H locs 0 0 (MQ below (va_Qi (fun v _ => ww_po w r x v) (xB D (tyM tt) A (fun _ : Unit => mw ad tt R w c k d wp wr)) A) ([.ref (ad 0), .int (nI r), .int x] : List Value).toArray s 0 0 A) (F0 m 0 ls []) by rw [hH, hlocs] at hgo; exact hgo
  clear hH hlocs
  have f_wireOf := hts (.fieldLink RX1 7 "WireWaysModel" "wireOf" "[I") (by decide +kernel)
  refine lv_iconst (v := 0) hx hb dX1_portOn_0 (by decide) ?_
  refine lv_istore_n (lv' := [(3, .int 0), (0, .ref (ad 0)), (1, .int (nI r)), (2, .int x)]) hx hb dX1_portOn_1 rfl hl (by decide) rfl (fun ls hl => ?_)
  have lp2 : ∀ (fuel : Nat) (q : Nat), (q ≤ 4) → (∀ q', q' < q → w (4 * r + q') ≠ x) → 4 - q < fuel → ∀ (H : Heap) (locs : List Loc) (ls : Array Slot), va_P D vwCl (mw ad tt R w c k d wp wr) H → va_D A (mw ad tt R w c k d wp wr) → va_S A s.heap H locs → lv_has ls 4 [(3, .int (nI q)), (0, .ref (ad 0)), (1, .int (nI r)), (2, .int x)] → W p l e (headSpec wsX1_portOn ({ frames := 0, cells := 0, slots := 0, locals := 0 } : Room)).room s m ([.ref (ad 0), .int (nI r), .int x] : List Value).toArray below meth cd H locs 0 0 (MQ below (va_Qi (fun v _ => ww_po w r x v) (xB D (tyM tt) A (fun _ : Unit => mw ad tt R w c k d wp wr)) A) ([.ref (ad 0), .int (nI r), .int x] : List Value).toArray s 0 0 A) (F0 m 2 ls []) := by
    intro fuel
    induction fuel with
    | zero => intro q hq hno hm; exact absurd hm (Nat.not_lt_zero _)
    | succ fuel ih2 =>
      intro q hq hno hm H locs ls hP hD hS hl
      refine lv_iload_n hx hb dX1_portOn_2 rfl (lv_at hl 0 rfl) ?_
      refine lv_iconst (v := 4) hx hb dX1_portOn_3 (by decide) ?_
      refine lv_icmp_ge (tgt := 29) hx hb dX1_portOn_4 (by decide) (fun c_1 => ?_) (fun c_1 => ?_)
      · have hq4 : 4 ≤ q := (nI_leI (a := 4) (by omega) (by omega)).mp c_1
        refine lv_iconst (v := (-1)) hx hb dX1_portOn_29 (by decide) ?_
        exact xr_i hx hb hr hlocks () (Or.inl ⟨rfl, fun q' h => hno q' (by omega)⟩) hP hK hD hS dX1_portOn_30
      · have hq4 : q < 4 := Nat.lt_of_not_le (fun h => c_1 (nI_le (a := 4) h (by omega)))
        refine lv_aload_n hx hb dX1_portOn_7 rfl (lv_at hl 1 rfl) ?_
        refine x1_get (v := .ref (ad 1)) S0 hin hK hP 1 (by decide) f_wireOf rfl rfl dX1_portOn_8 ?_
        refine lv_iconst (v := 4) hx hb dX1_portOn_11 (by decide) ?_
        refine lv_iload_n hx hb dX1_portOn_12 rfl (lv_at hl 2 rfl) ?_
        refine lv_imul hx hb dX1_portOn_13 ?_
        refine lv_iload_n hx hb dX1_portOn_14 rfl (lv_at hl 0 rfl) ?_
        refine lv_iadd hx hb dX1_portOn_15 ?_
        refine xt_eq (z := nI (4 * r + q)) (nI_lp r q) ?_
        refine va_iald hx hb hK hP 1 0 rfl rfl (vp_in_nI (by omega) (by omega)) dX1_portOn_16 ?_
        refine xt_eq (z := w (4 * r + q)) (congrArg w (nI_clamp (by omega))) ?_
        refine lv_iload_n hx hb dX1_portOn_17 rfl (lv_at hl 3 rfl) ?_
        refine lv_icmp_ne (tgt := 23) hx hb dX1_portOn_18 (by decide) (fun c_2 => ?_) (fun c_2 => ?_)
        · refine lv_iinc (v := nI (q + 1)) (lv' := [(3, .int (nI (q + 1))), (0, .ref (ad 0)), (1, .int (nI r)), (2, .int x)]) hx hb dX1_portOn_23 hl (k := 0) rfl (nI_1 q) (by decide) rfl (fun ls hl => ?_)
          refine lv_goto (tgt := 2) hx hb dX1_portOn_26 (by decide) ?_
          exact ih2 (q + 1) (by omega) (lt_s hno c_2) (by omega) H locs ls hP hD hS (lv_sub hl [0, 1, 2, 3] rfl)
        · refine lv_iload_n hx hb dX1_portOn_21 rfl (lv_at hl 0 rfl) ?_
          exact xr_i hx hb hr hlocks () (Or.inr ⟨q, hq4, rfl, c_2, hno⟩) hP hK hD hS dX1_portOn_22
  exact lp2 _ 0 (by omega) (fun q h => absurd h (Nat.not_lt_zero q)) (Nat.lt_succ_self _) H locs ls hP hD hS (lv_sub hl [0, 1, 2, 3] rfl)
set_option maxHeartbeats 4000000 in
set_option maxRecDepth 100000 in
theorem k_X0_isPluggedPort (l : Launch) (D : va_G) (ad : Nat → Nat) (tt : Nat → ClassId) (R : Nat) (w c k d n : Nat → Int32) (wp wr : Int32) (x y : Int32) (hR : R ≤ 10) : xMi l yX0_isPluggedPort wsX0_isPluggedPort { frames := 2, cells := 0, slots := 0, locals := 43 } D (tyX tt) [.ref (ad 0), .int x, .int y] (xw ad tt R w c k d n wp wr) (fun _ : Unit => xw ad tt R w c k d n wp wr) (fun v _ => (v = 1 ∧ plg R w x y) ∨ (v = 0 ∧ ¬ plg R w x y)) := by
  refine xe_i (cc := cX0_isPluggedPort) (maxL := 3) (ret := (some .boolean)) (lvl := [(0, .ref (ad 0)), (1, .int x), (2, .int y)]) (by decide) rfl (Nat.le_of_ble_eq_true rfl) rfl ?_
  intro p e s m below meth cd A ls hx hb hr hlocks hml hown hts hA hP hK hD hS hl
  have hin : ∀ w ∈ wsX00, w ∈ wsX0_isPluggedPort := fun _ h => List.mem_cons_of_mem _ (List.mem_append_right _ h)
  have S0 : CallFix p m cd cX0_isPluggedPort 3 s (([.ref (ad 0), .int x, .int y] : List Value).toArray) wsX0_isPluggedPort RX0 := ⟨hx, hb, hml, hown, hts⟩
  obtain ⟨H, hH⟩ : ∃ H, H = s.heap := ⟨_, rfl⟩
  obtain ⟨locs, hlocs⟩ : ∃ q : List Loc, q = [] := ⟨_, rfl⟩
  have hP : va_P D vwCl (xw ad tt R w c k d n wp wr) H := by rw [hH]; exact hP
  have hS : va_S A s.heap H locs := by rw [hH, hlocs]; exact hS
  suffices hgo : W p l e (headSpec wsX0_isPluggedPort ({ frames := 2, cells := 0, slots := 0, locals := 43 } : Room)).room s m (([.ref (ad 0), .int x, .int y] : List Value).toArray) below meth cd H locs 0 0 (MQ below (va_Qi (fun v _ => (v = 1 ∧ plg R w x y) ∨ (v = 0 ∧ ¬ plg R w x y)) (xB D (tyX tt) A (fun _ : Unit => xw ad tt R w c k d n wp wr)) A) ([.ref (ad 0), .int x, .int y] : List Value).toArray s 0 0 A) (F0 m 0 ls []) by rw [hH, hlocs] at hgo; exact hgo
  clear hH hlocs
  have f_wireAt := hts (.fieldLink RX0 22 "WireWays" "wireAt" "[I") (by decide +kernel)
  refine lv_aload_n hx hb dX0_isPluggedPort_0 rfl (lv_at hl 0 rfl) ?_
  refine lv_iload_n hx hb dX0_isPluggedPort_1 rfl (lv_at hl 1 rfl) ?_
  refine lv_iload_n hx hb dX0_isPluggedPort_2 rfl (lv_at hl 2 rfl) ?_
  refine xs_Vi (wr := []) (q0 := 0) (ci := 0) (nA := 2) (As := [.int x, .int y]) (rest := []) S0 (k_X0_isPort l D ad tt R w c k d n wp wr x y hR) gX0_isPluggedPort_X0_isPort rfl ⟨rfl, rfl⟩ (by decide +kernel) rfl ⟨Nat.le_of_ble_eq_true rfl, Nat.le_of_ble_eq_true rfl⟩ ⟨Nat.le_of_ble_eq_true rfl, Nat.le_of_ble_eq_true rfl⟩ hK hP hD hS hA [0, 1, 2, 3, 4, 5] [] rfl rfl (by decide) (by decide) (by decide) rfl rfl rfl hl.1 rfl (Nat.le_of_ble_eq_true rfl) dX0_isPluggedPort_3 (fun r_1 u H locs hw hP hD hS => ?_)
  have hP : va_P D vwCl (xw ad tt R w c k d n wp wr) H := hP
  have hD : va_D A (xw ad tt R w c k d n wp wr) := hD
  rcases hw with ⟨rfl, h_p⟩ | ⟨rfl, h_p⟩
  · refine lv_if_eq (tgt := 29) hx hb dX0_isPluggedPort_6 (by decide) (fun c_2 => absurd c_2 (by decide)) (fun c_2 => ?_)
    obtain ⟨⟨i, hi, ei⟩, ⟨j, hj, ej⟩⟩ := h_p
    refine lv_aload_n hx hb dX0_isPluggedPort_9 rfl (lv_at hl 0 rfl) ?_
    refine x0_get (v := .ref (ad 1)) S0 hin hK hP 1 (by decide) f_wireAt rfl rfl dX0_isPluggedPort_10 ?_
    refine lv_iload_n hx hb dX0_isPluggedPort_13 rfl (lv_at hl 1 rfl) ?_
    refine lv_iload_n hx hb dX0_isPluggedPort_14 rfl (lv_at hl 2 rfl) ?_
    refine xs_Si (nA := 2) (As := [.int x, .int y]) (rest := [.ref (ad 1)]) S0 (k_X0_placeOf l D x y) gX0_isPluggedPort_X0_placeOf rfl ⟨rfl, rfl⟩ (by decide +kernel) rfl ⟨Nat.le_of_ble_eq_true rfl, Nat.le_of_ble_eq_true rfl⟩ ⟨Nat.le_of_ble_eq_true rfl, Nat.le_of_ble_eq_true rfl⟩ hK hP hD hS hA hl.1 rfl (Nat.le_of_ble_eq_true rfl) dX0_isPluggedPort_15 (fun r_3 H locs hw hP hD hS => ?_)
    have hw : r_3 = nI (4 * i + j) := by rw [hw, ei, ej]; exact nI_pl _ _
    subst hw
    refine va_iald hx hb hK hP 1 0 rfl rfl (vp_in_nI (by omega) (by omega)) dX0_isPluggedPort_18 ?_
    refine xt_eq (z := w (4 * i + j)) (congrArg w (nI_clamp (by omega))) ?_
    refine xs_Si (nA := 1) (As := [.int (w (4 * i + j))]) (rest := []) S0 (k_X0_isWire l D (w (4 * i + j))) gX0_isPluggedPort_X0_isWire rfl ⟨rfl, rfl⟩ (by decide +kernel) rfl ⟨Nat.le_of_ble_eq_true rfl, Nat.le_of_ble_eq_true rfl⟩ ⟨Nat.le_of_ble_eq_true rfl, Nat.le_of_ble_eq_true rfl⟩ hK hP hD hS hA hl.1 rfl (Nat.le_of_ble_eq_true rfl) dX0_isPluggedPort_19 (fun r_4 H locs hw hP hD hS => ?_)
    rcases hw with ⟨rfl, h_w⟩ | ⟨rfl, h_w⟩
    · refine lv_if_eq (tgt := 29) hx hb dX0_isPluggedPort_22 (by decide) (fun c_5 => absurd c_5 (by decide)) (fun c_5 => ?_)
      refine lv_iconst (v := 1) hx hb dX0_isPluggedPort_25 (by decide) ?_
      refine lv_goto (tgt := 30) hx hb dX0_isPluggedPort_26 (by decide) ?_
      exact xr_z hx hb hr hlocks rfl () (Or.inl ⟨rfl, (plg_iff hR hi hj ei ej).mpr h_w⟩) hP hK hD hS dX0_isPluggedPort_30
    · refine lv_if_eq (tgt := 29) hx hb dX0_isPluggedPort_22 (by decide) (fun c_6 => ?_) (fun c_6 => absurd c_6 (by decide))
      refine lv_iconst (v := 0) hx hb dX0_isPluggedPort_29 (by decide) ?_
      exact xr_z hx hb hr hlocks rfl () (Or.inr ⟨rfl, fun h => by first | exact h_p (plg_ix h) | exact h_w ((plg_iff hR hi hj ei ej).mp h)⟩) hP hK hD hS dX0_isPluggedPort_30
  · refine lv_if_eq (tgt := 29) hx hb dX0_isPluggedPort_6 (by decide) (fun c_7 => ?_) (fun c_7 => absurd c_7 (by decide))
    refine lv_iconst (v := 0) hx hb dX0_isPluggedPort_29 (by decide) ?_
    exact xr_z hx hb hr hlocks rfl () (Or.inr ⟨rfl, fun h => by first | exact h_p (plg_ix h) | exact h_w ((plg_iff hR hi hj ei ej).mp h)⟩) hP hK hD hS dX0_isPluggedPort_30
set_option maxHeartbeats 4000000 in
set_option maxRecDepth 100000 in
theorem k_X0_isAim (l : Launch) (D : va_G) (ad : Nat → Nat) (tt : Nat → ClassId) (R : Nat) (w c k d n : Nat → Int32) (wp wr : Int32) (ov t : Int32) (hR : R ≤ 10) : xMi l yX0_isAim wsX0_isAim { frames := 2, cells := 0, slots := 0, locals := 41 } D (tyX tt) [.ref (ad 0), .int ov, .int t] (xw ad tt R w c k d n wp wr) (fun _ : Unit => xw ad tt R w c k d n wp wr) (fun v _ => (v = 1 ∧ aim R k ov t) ∨ (v = 0 ∧ ¬ aim R k ov t)) := by
  refine xe_i (cc := cX0_isAim) (maxL := 3) (ret := (some .boolean)) (lvl := [(0, .ref (ad 0)), (1, .int ov), (2, .int t)]) (by decide) rfl (Nat.le_of_ble_eq_true rfl) rfl ?_
  intro p e s m below meth cd A ls hx hb hr hlocks hml hown hts hA hP hK hD hS hl
  have hin : ∀ w ∈ wsX00, w ∈ wsX0_isAim := fun _ h => List.mem_cons_of_mem _ (List.mem_append_right _ h)
  have S0 : CallFix p m cd cX0_isAim 3 s (([.ref (ad 0), .int ov, .int t] : List Value).toArray) wsX0_isAim RX0 := ⟨hx, hb, hml, hown, hts⟩
  obtain ⟨H, hH⟩ : ∃ H, H = s.heap := ⟨_, rfl⟩
  obtain ⟨locs, hlocs⟩ : ∃ q : List Loc, q = [] := ⟨_, rfl⟩
  have hP : va_P D vwCl (xw ad tt R w c k d n wp wr) H := by rw [hH]; exact hP
  have hS : va_S A s.heap H locs := by rw [hH, hlocs]; exact hS
  suffices hgo : W p l e (headSpec wsX0_isAim ({ frames := 2, cells := 0, slots := 0, locals := 41 } : Room)).room s m (([.ref (ad 0), .int ov, .int t] : List Value).toArray) below meth cd H locs 0 0 (MQ below (va_Qi (fun v _ => (v = 1 ∧ aim R k ov t) ∨ (v = 0 ∧ ¬ aim R k ov t)) (xB D (tyX tt) A (fun _ : Unit => xw ad tt R w c k d n wp wr)) A) ([.ref (ad 0), .int ov, .int t] : List Value).toArray s 0 0 A) (F0 m 0 ls []) by rw [hH, hlocs] at hgo; exact hgo
  clear hH hlocs
  refine lv_iload_n hx hb dX0_isAim_0 rfl (lv_at hl 1 rfl) ?_
  refine lv_if_eq (tgt := 12) hx hb dX0_isAim_1 (by decide) (fun c_1 => ?_) (fun c_1 => ?_)
  · refine lv_aload_n hx hb dX0_isAim_12 rfl (lv_at hl 0 rfl) ?_
    refine lv_iload_n hx hb dX0_isAim_13 rfl (lv_at hl 2 rfl) ?_
    refine xs_Vi (wr := []) (q0 := 0) (ci := 0) (nA := 1) (As := [.int t]) (rest := []) S0 (k_X0_isRouter l D ad tt R w c k d n wp wr t hR) gX0_isAim_X0_isRouter rfl ⟨rfl, rfl⟩ (by decide +kernel) rfl ⟨Nat.le_of_ble_eq_true rfl, Nat.le_of_ble_eq_true rfl⟩ ⟨Nat.le_of_ble_eq_true rfl, Nat.le_of_ble_eq_true rfl⟩ hK hP hD hS hA [0, 1, 2, 3, 4, 5] [] rfl rfl (by decide) (by decide) (by decide) rfl rfl rfl hl.1 rfl (Nat.le_of_ble_eq_true rfl) dX0_isAim_14 (fun r_2 u H locs hw hP hD hS => ?_)
    have hP : va_P D vwCl (xw ad tt R w c k d n wp wr) H := hP
    have hD : va_D A (xw ad tt R w c k d n wp wr) := hD
    rcases hw with ⟨rfl, h_r⟩ | ⟨rfl, h_r⟩
    · exact xr_z hx hb hr hlocks rfl () (Or.inl ⟨rfl, by first | exact ⟨fun _ => h_u, fun h => absurd h (by assumption)⟩ | exact ⟨fun h => absurd (by assumption) h, fun _ => h_r⟩⟩) hP hK hD hS dX0_isAim_17
    · exact xr_z hx hb hr hlocks rfl () (Or.inr ⟨rfl, fun h => by first | exact h_u (h.1 (by assumption)) | exact h_r (h.2 (by assumption))⟩) hP hK hD hS dX0_isAim_17
  · refine lv_aload_n hx hb dX0_isAim_4 rfl (lv_at hl 0 rfl) ?_
    refine lv_iload_n hx hb dX0_isAim_5 rfl (lv_at hl 2 rfl) ?_
    refine xs_Vi (wr := []) (q0 := 0) (ci := 0) (nA := 1) (As := [.int t]) (rest := []) S0 (k_X0_isUp l D ad tt R w c k d n wp wr t) gX0_isAim_X0_isUp rfl ⟨rfl, rfl⟩ (by decide +kernel) rfl ⟨Nat.le_of_ble_eq_true rfl, Nat.le_of_ble_eq_true rfl⟩ ⟨Nat.le_of_ble_eq_true rfl, Nat.le_of_ble_eq_true rfl⟩ hK hP hD hS hA [0, 1, 2, 3, 4, 5] [] rfl rfl (by decide) (by decide) (by decide) rfl rfl rfl hl.1 rfl (Nat.le_of_ble_eq_true rfl) dX0_isAim_6 (fun r_3 u H locs hw hP hD hS => ?_)
    have hP : va_P D vwCl (xw ad tt R w c k d n wp wr) H := hP
    have hD : va_D A (xw ad tt R w c k d n wp wr) := hD
    rcases hw with ⟨rfl, h_u⟩ | ⟨rfl, h_u⟩
    · refine lv_goto (tgt := 17) hx hb dX0_isAim_9 (by decide) ?_
      exact xr_z hx hb hr hlocks rfl () (Or.inl ⟨rfl, by first | exact ⟨fun _ => h_u, fun h => absurd h (by assumption)⟩ | exact ⟨fun h => absurd (by assumption) h, fun _ => h_r⟩⟩) hP hK hD hS dX0_isAim_17
    · refine lv_goto (tgt := 17) hx hb dX0_isAim_9 (by decide) ?_
      exact xr_z hx hb hr hlocks rfl () (Or.inr ⟨rfl, fun h => by first | exact h_u (h.1 (by assumption)) | exact h_r (h.2 (by assumption))⟩) hP hK hD hS dX0_isAim_17
