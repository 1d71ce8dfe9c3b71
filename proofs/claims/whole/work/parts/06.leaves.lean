set_option maxHeartbeats 4000000 in
set_option maxRecDepth 100000 in
theorem k_X0_isRouter (l : Launch) (D : va_G) (ad : Nat → Nat) (tt : Nat → ClassId) (R : Nat) (w c k d n : Nat → Int32) (wp wr : Int32) (x : Int32) (hR : R ≤ 10) : xMi l yX0_isRouter wsX0_isRouter { frames := 0, cells := 0, slots := 0, locals := 0 } D (tyX tt) [.ref (ad 0), .int x] (xw ad tt R w c k d n wp wr) (fun _ : Unit => xw ad tt R w c k d n wp wr) (fun v _ => (v = 1 ∧ ix x R) ∨ (v = 0 ∧ ¬ ix x R)) := by
  refine xe_i (cc := cX0_isRouter) (maxL := 2) (ret := (some .boolean)) (lvl := [(0, .ref (ad 0)), (1, .int x)]) (by decide) rfl (Nat.le_of_ble_eq_true rfl) rfl ?_
  intro p e s m below meth cd A ls hx hb hr hlocks hml hown hts hA hP hK hD hS hl
  have hin : ∀ w ∈ wsX00, w ∈ wsX0_isRouter := fun _ h => List.mem_cons_of_mem _ (List.mem_append_right _ h)
  have S0 : CallFix p m cd cX0_isRouter 2 s (([.ref (ad 0), .int x] : List Value).toArray) wsX0_isRouter RX0 := ⟨hx, hb, hml, hown, hts⟩
  obtain ⟨H, hH⟩ : ∃ H, H = s.heap := ⟨_, rfl⟩
  obtain ⟨locs, hlocs⟩ : ∃ q : List Loc, q = [] := ⟨_, rfl⟩
  have hP : va_P D vwCl (xw ad tt R w c k d n wp wr) H := by rw [hH]; exact hP
  have hS : va_S A s.heap H locs := by rw [hH, hlocs]; exact hS
  suffices hgo : W p l e (headSpec wsX0_isRouter ({ frames := 0, cells := 0, slots := 0, locals := 0 } : Room)).room s m (([.ref (ad 0), .int x] : List Value).toArray) below meth cd H locs 0 0 (MQ below (va_Qi (fun v _ => (v = 1 ∧ ix x R) ∨ (v = 0 ∧ ¬ ix x R)) (xB D (tyX tt) A (fun _ : Unit => xw ad tt R w c k d n wp wr)) A) ([.ref (ad 0), .int x] : List Value).toArray s 0 0 A) (F0 m 0 ls []) by rw [hH, hlocs] at hgo; exact hgo
  clear hH hlocs
  have f_routers := hts (.fieldLink RX0 18 "WireWays" "routers" "I") (by decide +kernel)
  refine lv_iload_n hx hb dX0_isRouter_0 rfl (lv_at hl 1 rfl) ?_
  refine lv_if_lt (tgt := 16) hx hb dX0_isRouter_1 (by decide) (fun c_1 => ?_) (fun c_1 => ?_)
  · have hn := ix_n0 (n := R) (by omega) c_1
    refine lv_iconst (v := 0) hx hb dX0_isRouter_16 (by decide) ?_
    exact xr_z hx hb hr hlocks rfl () (Or.inr ⟨rfl, hn⟩) hP hK hD hS dX0_isRouter_17
  · refine lv_iload_n hx hb dX0_isRouter_4 rfl (lv_at hl 1 rfl) ?_
    refine lv_aload_n hx hb dX0_isRouter_5 rfl (lv_at hl 0 rfl) ?_
    refine x0_get (v := .int (nI R)) S0 hin hK hP 0 (by decide) f_routers rfl rfl dX0_isRouter_6 ?_
    refine lv_icmp_ge (tgt := 16) hx hb dX0_isRouter_9 (by decide) (fun c_2 => ?_) (fun c_2 => ?_)
    · have hn := ix_n1 (n := R) (by omega) c_2
      refine lv_iconst (v := 0) hx hb dX0_isRouter_16 (by decide) ?_
      exact xr_z hx hb hr hlocks rfl () (Or.inr ⟨rfl, hn⟩) hP hK hD hS dX0_isRouter_17
    · refine lv_iconst (v := 1) hx hb dX0_isRouter_12 (by decide) ?_
      refine lv_goto (tgt := 17) hx hb dX0_isRouter_13 (by decide) ?_
      exact xr_z hx hb hr hlocks rfl () (Or.inl ⟨rfl, ix_of (by omega) (by assumption) (by assumption)⟩) hP hK hD hS dX0_isRouter_17
set_option maxHeartbeats 4000000 in
set_option maxRecDepth 100000 in
theorem k_X0_isWire (l : Launch) (D : va_G) (x : Int32) : xMi l yX0_isWire wsX0_isWire { frames := 0, cells := 0, slots := 0, locals := 0 } D [] [.int x] ([]) (fun _ : Unit => []) (fun v _ => (v = 1 ∧ ix x 16) ∨ (v = 0 ∧ ¬ ix x 16)) := by
  refine xe_i (cc := cX0_isWire) (maxL := 1) (ret := (some .boolean)) (lvl := [(0, .int x)]) (by decide) rfl (Nat.le_of_ble_eq_true rfl) rfl ?_
  intro p e s m below meth cd A ls hx hb hr hlocks hml hown hts hA hP hK hD hS hl
  have S0 : CallFix p m cd cX0_isWire 1 s (([.int x] : List Value).toArray) wsX0_isWire RX0 := ⟨hx, hb, hml, hown, hts⟩
  obtain ⟨H, hH⟩ : ∃ H, H = s.heap := ⟨_, rfl⟩
  obtain ⟨locs, hlocs⟩ : ∃ q : List Loc, q = [] := ⟨_, rfl⟩
  have hP : va_P D vwCl ([]) H := by rw [hH]; exact hP
  have hS : va_S A s.heap H locs := by rw [hH, hlocs]; exact hS
  suffices hgo : W p l e (headSpec wsX0_isWire ({ frames := 0, cells := 0, slots := 0, locals := 0 } : Room)).room s m (([.int x] : List Value).toArray) below meth cd H locs 0 0 (MQ below (va_Qi (fun v _ => (v = 1 ∧ ix x 16) ∨ (v = 0 ∧ ¬ ix x 16)) (xB D [] A (fun _ : Unit => [])) A) ([.int x] : List Value).toArray s 0 0 A) (F0 m 0 ls []) by rw [hH, hlocs] at hgo; exact hgo
  clear hH hlocs
  refine lv_iload_n hx hb dX0_isWire_0 rfl (lv_at hl 0 rfl) ?_
  refine lv_if_lt (tgt := 14) hx hb dX0_isWire_1 (by decide) (fun c_1 => ?_) (fun c_1 => ?_)
  · have hn := ix_n0 (n := 16) (by omega) c_1
    refine lv_iconst (v := 0) hx hb dX0_isWire_14 (by decide) ?_
    exact xr_z hx hb hr hlocks rfl () (Or.inr ⟨rfl, hn⟩) hP hK hD hS dX0_isWire_15
  · refine lv_iload_n hx hb dX0_isWire_4 rfl (lv_at hl 0 rfl) ?_
    refine lv_bipush (v := 16) hx hb dX0_isWire_5 (by decide) ?_
    refine lv_icmp_ge (tgt := 14) hx hb dX0_isWire_7 (by decide) (fun c_2 => ?_) (fun c_2 => ?_)
    · have hn := ix_n1 (n := 16) (by omega) c_2
      refine lv_iconst (v := 0) hx hb dX0_isWire_14 (by decide) ?_
      exact xr_z hx hb hr hlocks rfl () (Or.inr ⟨rfl, hn⟩) hP hK hD hS dX0_isWire_15
    · refine lv_iconst (v := 1) hx hb dX0_isWire_10 (by decide) ?_
      refine lv_goto (tgt := 15) hx hb dX0_isWire_11 (by decide) ?_
      exact xr_z hx hb hr hlocks rfl () (Or.inl ⟨rfl, ix_of (by omega) (by assumption) (by assumption)⟩) hP hK hD hS dX0_isWire_15
set_option maxHeartbeats 4000000 in
set_option maxRecDepth 100000 in
theorem k_X1_isRouter (l : Launch) (D : va_G) (ad : Nat → Nat) (tt : Nat → ClassId) (R : Nat) (w c k d : Nat → Int32) (wp wr : Int32) (x : Int32) (hR : R ≤ 10) : xMi l yX1_isRouter wsX1_isRouter { frames := 0, cells := 0, slots := 0, locals := 0 } D (tyM tt) [.ref (ad 0), .int x] (mw ad tt R w c k d wp wr) (fun _ : Unit => mw ad tt R w c k d wp wr) (fun v _ => (v = 1 ∧ ix x R) ∨ (v = 0 ∧ ¬ ix x R)) := by
  refine xe_i (cc := cX1_isRouter) (maxL := 2) (ret := (some .boolean)) (lvl := [(0, .ref (ad 0)), (1, .int x)]) (by decide) rfl (Nat.le_of_ble_eq_true rfl) rfl ?_
  intro p e s m below meth cd A ls hx hb hr hlocks hml hown hts hA hP hK hD hS hl
  have hin : ∀ w ∈ wsX10, w ∈ wsX1_isRouter := fun _ h => List.mem_cons_of_mem _ (List.mem_append_right _ h)
  have S0 : CallFix p m cd cX1_isRouter 2 s (([.ref (ad 0), .int x] : List Value).toArray) wsX1_isRouter RX1 := ⟨hx, hb, hml, hown, hts⟩
  obtain ⟨H, hH⟩ : ∃ H, H = s.heap := ⟨_, rfl⟩
  obtain ⟨locs, hlocs⟩ : ∃ q : List Loc, q = [] := ⟨_, rfl⟩
  have hP : va_P D vwCl (mw ad tt R w c k d wp wr) H := by rw [hH]; exact hP
  have hS : va_S A s.heap H locs := by rw [hH, hlocs]; exact hS
  suffices hgo : W p l e (headSpec wsX1_isRouter ({ frames := 0, cells := 0, slots := 0, locals := 0 } : Room)).room s m (([.ref (ad 0), .int x] : List Value).toArray) below meth cd H locs 0 0 (MQ below (va_Qi (fun v _ => (v = 1 ∧ ix x R) ∨ (v = 0 ∧ ¬ ix x R)) (xB D (tyM tt) A (fun _ : Unit => mw ad tt R w c k d wp wr)) A) ([.ref (ad 0), .int x] : List Value).toArray s 0 0 A) (F0 m 0 ls []) by rw [hH, hlocs] at hgo; exact hgo
  clear hH hlocs
  have f_routers := hts (.fieldLink RX1 23 "WireWaysModel" "routers" "I") (by decide +kernel)
  refine lv_iload_n hx hb dX1_isRouter_0 rfl (lv_at hl 1 rfl) ?_
  refine lv_if_lt (tgt := 16) hx hb dX1_isRouter_1 (by decide) (fun c_1 => ?_) (fun c_1 => ?_)
  · have hn := ix_n0 (n := R) (by omega) c_1
    refine lv_iconst (v := 0) hx hb dX1_isRouter_16 (by decide) ?_
    exact xr_z hx hb hr hlocks rfl () (Or.inr ⟨rfl, hn⟩) hP hK hD hS dX1_isRouter_17
  · refine lv_iload_n hx hb dX1_isRouter_4 rfl (lv_at hl 1 rfl) ?_
    refine lv_aload_n hx hb dX1_isRouter_5 rfl (lv_at hl 0 rfl) ?_
    refine x1_get (v := .int (nI R)) S0 hin hK hP 0 (by decide) f_routers rfl rfl dX1_isRouter_6 ?_
    refine lv_icmp_ge (tgt := 16) hx hb dX1_isRouter_9 (by decide) (fun c_2 => ?_) (fun c_2 => ?_)
    · have hn := ix_n1 (n := R) (by omega) c_2
      refine lv_iconst (v := 0) hx hb dX1_isRouter_16 (by decide) ?_
      exact xr_z hx hb hr hlocks rfl () (Or.inr ⟨rfl, hn⟩) hP hK hD hS dX1_isRouter_17
    · refine lv_iconst (v := 1) hx hb dX1_isRouter_12 (by decide) ?_
      refine lv_goto (tgt := 17) hx hb dX1_isRouter_13 (by decide) ?_
      exact xr_z hx hb hr hlocks rfl () (Or.inl ⟨rfl, ix_of (by omega) (by assumption) (by assumption)⟩) hP hK hD hS dX1_isRouter_17
set_option maxHeartbeats 4000000 in
set_option maxRecDepth 100000 in
theorem k_X1_isWire (l : Launch) (D : va_G) (x : Int32) : xMi l yX1_isWire wsX1_isWire { frames := 0, cells := 0, slots := 0, locals := 0 } D [] [.int x] ([]) (fun _ : Unit => []) (fun v _ => (v = 1 ∧ ix x 16) ∨ (v = 0 ∧ ¬ ix x 16)) := by
  refine xe_i (cc := cX1_isWire) (maxL := 1) (ret := (some .boolean)) (lvl := [(0, .int x)]) (by decide) rfl (Nat.le_of_ble_eq_true rfl) rfl ?_
  intro p e s m below meth cd A ls hx hb hr hlocks hml hown hts hA hP hK hD hS hl
  have S0 : CallFix p m cd cX1_isWire 1 s (([.int x] : List Value).toArray) wsX1_isWire RX1 := ⟨hx, hb, hml, hown, hts⟩
  obtain ⟨H, hH⟩ : ∃ H, H = s.heap := ⟨_, rfl⟩
  obtain ⟨locs, hlocs⟩ : ∃ q : List Loc, q = [] := ⟨_, rfl⟩
  have hP : va_P D vwCl ([]) H := by rw [hH]; exact hP
  have hS : va_S A s.heap H locs := by rw [hH, hlocs]; exact hS
  suffices hgo : W p l e (headSpec wsX1_isWire ({ frames := 0, cells := 0, slots := 0, locals := 0 } : Room)).room s m (([.int x] : List Value).toArray) below meth cd H locs 0 0 (MQ below (va_Qi (fun v _ => (v = 1 ∧ ix x 16) ∨ (v = 0 ∧ ¬ ix x 16)) (xB D [] A (fun _ : Unit => [])) A) ([.int x] : List Value).toArray s 0 0 A) (F0 m 0 ls []) by rw [hH, hlocs] at hgo; exact hgo
  clear hH hlocs
  refine lv_iload_n hx hb dX1_isWire_0 rfl (lv_at hl 0 rfl) ?_
  refine lv_if_lt (tgt := 14) hx hb dX1_isWire_1 (by decide) (fun c_1 => ?_) (fun c_1 => ?_)
  · have hn := ix_n0 (n := 16) (by omega) c_1
    refine lv_iconst (v := 0) hx hb dX1_isWire_14 (by decide) ?_
    exact xr_z hx hb hr hlocks rfl () (Or.inr ⟨rfl, hn⟩) hP hK hD hS dX1_isWire_15
  · refine lv_iload_n hx hb dX1_isWire_4 rfl (lv_at hl 0 rfl) ?_
    refine lv_bipush (v := 16) hx hb dX1_isWire_5 (by decide) ?_
    refine lv_icmp_ge (tgt := 14) hx hb dX1_isWire_7 (by decide) (fun c_2 => ?_) (fun c_2 => ?_)
    · have hn := ix_n1 (n := 16) (by omega) c_2
      refine lv_iconst (v := 0) hx hb dX1_isWire_14 (by decide) ?_
      exact xr_z hx hb hr hlocks rfl () (Or.inr ⟨rfl, hn⟩) hP hK hD hS dX1_isWire_15
    · refine lv_iconst (v := 1) hx hb dX1_isWire_10 (by decide) ?_
      refine lv_goto (tgt := 15) hx hb dX1_isWire_11 (by decide) ?_
      exact xr_z hx hb hr hlocks rfl () (Or.inl ⟨rfl, ix_of (by omega) (by assumption) (by assumption)⟩) hP hK hD hS dX1_isWire_15
set_option maxHeartbeats 4000000 in
set_option maxRecDepth 100000 in
theorem k_X0_isCost (l : Launch) (D : va_G) (x : Int32) : xMi l yX0_isCost wsX0_isCost { frames := 0, cells := 0, slots := 0, locals := 0 } D [] [.int x] ([]) (fun _ : Unit => []) (fun v _ => (v = 1 ∧ okc x) ∨ (v = 0 ∧ ¬ okc x)) := by
  refine xe_i (cc := cX0_isCost) (maxL := 1) (ret := (some .boolean)) (lvl := [(0, .int x)]) (by decide) rfl (Nat.le_of_ble_eq_true rfl) rfl ?_
  intro p e s m below meth cd A ls hx hb hr hlocks hml hown hts hA hP hK hD hS hl
  have S0 : CallFix p m cd cX0_isCost 1 s (([.int x] : List Value).toArray) wsX0_isCost RX0 := ⟨hx, hb, hml, hown, hts⟩
  obtain ⟨H, hH⟩ : ∃ H, H = s.heap := ⟨_, rfl⟩
  obtain ⟨locs, hlocs⟩ : ∃ q : List Loc, q = [] := ⟨_, rfl⟩
  have hP : va_P D vwCl ([]) H := by rw [hH]; exact hP
  have hS : va_S A s.heap H locs := by rw [hH, hlocs]; exact hS
  suffices hgo : W p l e (headSpec wsX0_isCost ({ frames := 0, cells := 0, slots := 0, locals := 0 } : Room)).room s m (([.int x] : List Value).toArray) below meth cd H locs 0 0 (MQ below (va_Qi (fun v _ => (v = 1 ∧ okc x) ∨ (v = 0 ∧ ¬ okc x)) (xB D [] A (fun _ : Unit => [])) A) ([.int x] : List Value).toArray s 0 0 A) (F0 m 0 ls []) by rw [hH, hlocs] at hgo; exact hgo
  clear hH hlocs
  refine lv_iload_n hx hb dX0_isCost_0 rfl (lv_at hl 0 rfl) ?_
  refine lv_iconst (v := 1) hx hb dX0_isCost_1 (by decide) ?_
  refine lv_icmp_lt (tgt := 15) hx hb dX0_isCost_2 (by decide) (fun c_1 => ?_) (fun c_1 => ?_)
  · have hn := okc_n0 c_1
    refine lv_iconst (v := 0) hx hb dX0_isCost_15 (by decide) ?_
    exact xr_z hx hb hr hlocks rfl () (Or.inr ⟨rfl, hn⟩) hP hK hD hS dX0_isCost_16
  · refine lv_iload_n hx hb dX0_isCost_5 rfl (lv_at hl 0 rfl) ?_
    refine lv_bipush (v := 9) hx hb dX0_isCost_6 (by decide) ?_
    refine lv_icmp_gt (tgt := 15) hx hb dX0_isCost_8 (by decide) (fun c_2 => ?_) (fun c_2 => ?_)
    · have hn := okc_n1 c_2
      refine lv_iconst (v := 0) hx hb dX0_isCost_15 (by decide) ?_
      exact xr_z hx hb hr hlocks rfl () (Or.inr ⟨rfl, hn⟩) hP hK hD hS dX0_isCost_16
    · refine lv_iconst (v := 1) hx hb dX0_isCost_11 (by decide) ?_
      refine lv_goto (tgt := 16) hx hb dX0_isCost_12 (by decide) ?_
      exact xr_z hx hb hr hlocks rfl () (Or.inl ⟨rfl, okc_of (by assumption) (by assumption)⟩) hP hK hD hS dX0_isCost_16
set_option maxHeartbeats 4000000 in
set_option maxRecDepth 100000 in
theorem k_X0_placeOf (l : Launch) (D : va_G) (x y : Int32) : xMi l yX0_placeOf wsX0_placeOf { frames := 0, cells := 0, slots := 0, locals := 0 } D [] [.int x, .int y] ([]) (fun _ : Unit => []) (fun v _ => v = x * 4 + y) := by
  refine xe_i (cc := cX0_placeOf) (maxL := 2) (ret := (some .int)) (lvl := [(0, .int x), (1, .int y)]) (by decide) rfl (Nat.le_of_ble_eq_true rfl) rfl ?_
  intro p e s m below meth cd A ls hx hb hr hlocks hml hown hts hA hP hK hD hS hl
  have S0 : CallFix p m cd cX0_placeOf 2 s (([.int x, .int y] : List Value).toArray) wsX0_placeOf RX0 := ⟨hx, hb, hml, hown, hts⟩
  obtain ⟨H, hH⟩ : ∃ H, H = s.heap := ⟨_, rfl⟩
  obtain ⟨locs, hlocs⟩ : ∃ q : List Loc, q = [] := ⟨_, rfl⟩
  have hP : va_P D vwCl ([]) H := by rw [hH]; exact hP
  have hS : va_S A s.heap H locs := by rw [hH, hlocs]; exact hS
  suffices hgo : W p l e (headSpec wsX0_placeOf ({ frames := 0, cells := 0, slots := 0, locals := 0 } : Room)).room s m (([.int x, .int y] : List Value).toArray) below meth cd H locs 0 0 (MQ below (va_Qi (fun v _ => v = x * 4 + y) (xB D [] A (fun _ : Unit => [])) A) ([.int x, .int y] : List Value).toArray s 0 0 A) (F0 m 0 ls []) by rw [hH, hlocs] at hgo; exact hgo
  clear hH hlocs
  refine lv_iload_n hx hb dX0_placeOf_0 rfl (lv_at hl 0 rfl) ?_
  refine lv_iconst (v := 4) hx hb dX0_placeOf_1 (by decide) ?_
  refine lv_imul hx hb dX0_placeOf_2 ?_
  refine lv_iload_n hx hb dX0_placeOf_3 rfl (lv_at hl 1 rfl) ?_
  refine lv_iadd hx hb dX0_placeOf_4 ?_
  exact xr_i hx hb hr hlocks () rfl hP hK hD hS dX0_placeOf_5
