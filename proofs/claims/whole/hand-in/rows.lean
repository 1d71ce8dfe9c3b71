section
-- ===== PART A: goes FIRST, ahead of the names: the tables' words, and 'selects' of the private methods out of them =====
/-- a private method of a class that the tables say can be made, by its rows of tables_1 -/
def lw_okq (q : MethodName × Nat) : Prop := (q.1.cls ≠ "java/lang/invoke/MethodHandle" ∧ q.1.cls ≠ "java/lang/invoke/VarHandle") ∧ Cond.instantiable q.1.cls q.2 ∈ tables_1 ∧ Cond.privateMethod q.1 ∈ tables_1 ∧ Cond.instanceMethod q.1 ∈ tables_1
theorem lw_p0 : lw_okq (⟨"WireWays", "isPort", "(II)Z"⟩, 8) := ⟨⟨by decide +kernel, by decide +kernel⟩, List.mem_of_getElem? (i := 5) (by decide +kernel), List.mem_of_getElem? (i := 50) (by decide +kernel), List.mem_of_getElem? (i := 51) (by decide +kernel)⟩
theorem lw_p1 : lw_okq (⟨"WireWays", "isRouter", "(I)Z"⟩, 8) := ⟨⟨by decide +kernel, by decide +kernel⟩, List.mem_of_getElem? (i := 5) (by decide +kernel), List.mem_of_getElem? (i := 54) (by decide +kernel), List.mem_of_getElem? (i := 55) (by decide +kernel)⟩
theorem lw_p2 : lw_okq (⟨"WireWays", "portOn", "(II)I"⟩, 8) := ⟨⟨by decide +kernel, by decide +kernel⟩, List.mem_of_getElem? (i := 5) (by decide +kernel), List.mem_of_getElem? (i := 67) (by decide +kernel), List.mem_of_getElem? (i := 68) (by decide +kernel)⟩
theorem lw_p3 : lw_okq (⟨"WireWays", "isPluggedPort", "(II)Z"⟩, 8) := ⟨⟨by decide +kernel, by decide +kernel⟩, List.mem_of_getElem? (i := 5) (by decide +kernel), List.mem_of_getElem? (i := 75) (by decide +kernel), List.mem_of_getElem? (i := 76) (by decide +kernel)⟩
theorem lw_p4 : lw_okq (⟨"WireWays", "isUp", "(I)Z"⟩, 8) := ⟨⟨by decide +kernel, by decide +kernel⟩, List.mem_of_getElem? (i := 5) (by decide +kernel), List.mem_of_getElem? (i := 87) (by decide +kernel), List.mem_of_getElem? (i := 88) (by decide +kernel)⟩
theorem lw_p5 : lw_okq (⟨"WireWays", "canCome", "(IZI)Z"⟩, 8) := ⟨⟨by decide +kernel, by decide +kernel⟩, List.mem_of_getElem? (i := 5) (by decide +kernel), List.mem_of_getElem? (i := 99) (by decide +kernel), List.mem_of_getElem? (i := 100) (by decide +kernel)⟩
theorem lw_p6 : lw_okq (⟨"WireWays", "isAim", "(ZI)Z"⟩, 8) := ⟨⟨by decide +kernel, by decide +kernel⟩, List.mem_of_getElem? (i := 5) (by decide +kernel), List.mem_of_getElem? (i := 103) (by decide +kernel), List.mem_of_getElem? (i := 104) (by decide +kernel)⟩
theorem lw_p7 : lw_okq (⟨"WireWays", "measure", "(ZI)V"⟩, 8) := ⟨⟨by decide +kernel, by decide +kernel⟩, List.mem_of_getElem? (i := 5) (by decide +kernel), List.mem_of_getElem? (i := 107) (by decide +kernel), List.mem_of_getElem? (i := 108) (by decide +kernel)⟩
theorem lw_p8 : lw_okq (⟨"WireWays", "findNearest", "()V"⟩, 8) := ⟨⟨by decide +kernel, by decide +kernel⟩, List.mem_of_getElem? (i := 5) (by decide +kernel), List.mem_of_getElem? (i := 112) (by decide +kernel), List.mem_of_getElem? (i := 113) (by decide +kernel)⟩
theorem lw_p9 : lw_okq (⟨"WireWays", "shortenDistances", "()Z"⟩, 8) := ⟨⟨by decide +kernel, by decide +kernel⟩, List.mem_of_getElem? (i := 5) (by decide +kernel), List.mem_of_getElem? (i := 116) (by decide +kernel), List.mem_of_getElem? (i := 117) (by decide +kernel)⟩
theorem lw_p10 : lw_okq (⟨"WireWays", "findWay", "(IZI)V"⟩, 8) := ⟨⟨by decide +kernel, by decide +kernel⟩, List.mem_of_getElem? (i := 5) (by decide +kernel), List.mem_of_getElem? (i := 124) (by decide +kernel), List.mem_of_getElem? (i := 125) (by decide +kernel)⟩
theorem lw_p11 : lw_okq (⟨"WireWays", "nearestOther", "(II)I"⟩, 8) := ⟨⟨by decide +kernel, by decide +kernel⟩, List.mem_of_getElem? (i := 5) (by decide +kernel), List.mem_of_getElem? (i := 128) (by decide +kernel), List.mem_of_getElem? (i := 129) (by decide +kernel)⟩
theorem lw_p12 : lw_okq (⟨"WireWays", "pluggedPorts", "()I"⟩, 8) := ⟨⟨by decide +kernel, by decide +kernel⟩, List.mem_of_getElem? (i := 5) (by decide +kernel), List.mem_of_getElem? (i := 148) (by decide +kernel), List.mem_of_getElem? (i := 149) (by decide +kernel)⟩
theorem lw_p13 : lw_okq (⟨"WireWays", "cutWires", "()I"⟩, 8) := ⟨⟨by decide +kernel, by decide +kernel⟩, List.mem_of_getElem? (i := 5) (by decide +kernel), List.mem_of_getElem? (i := 152) (by decide +kernel), List.mem_of_getElem? (i := 153) (by decide +kernel)⟩
theorem lw_p14 : lw_okq (⟨"WireWays", "greatestDistance", "()I"⟩, 8) := ⟨⟨by decide +kernel, by decide +kernel⟩, List.mem_of_getElem? (i := 5) (by decide +kernel), List.mem_of_getElem? (i := 156) (by decide +kernel), List.mem_of_getElem? (i := 157) (by decide +kernel)⟩
theorem lw_p15 : lw_okq (⟨"WireWaysModel", "isPlace", "(II)Z"⟩, 7) := ⟨⟨by decide +kernel, by decide +kernel⟩, List.mem_of_getElem? (i := 163) (by decide +kernel), List.mem_of_getElem? (i := 195) (by decide +kernel), List.mem_of_getElem? (i := 196) (by decide +kernel)⟩
def lw_privs_1 : List (MethodName × Nat) := [(⟨"WireWays", "isPort", "(II)Z"⟩, 8), (⟨"WireWays", "isRouter", "(I)Z"⟩, 8), (⟨"WireWays", "portOn", "(II)I"⟩, 8), (⟨"WireWays", "isPluggedPort", "(II)Z"⟩, 8), (⟨"WireWays", "isUp", "(I)Z"⟩, 8), (⟨"WireWays", "canCome", "(IZI)Z"⟩, 8), (⟨"WireWays", "isAim", "(ZI)Z"⟩, 8), (⟨"WireWays", "measure", "(ZI)V"⟩, 8), (⟨"WireWays", "findNearest", "()V"⟩, 8), (⟨"WireWays", "shortenDistances", "()Z"⟩, 8), (⟨"WireWays", "findWay", "(IZI)V"⟩, 8), (⟨"WireWays", "nearestOther", "(II)I"⟩, 8), (⟨"WireWays", "pluggedPorts", "()I"⟩, 8), (⟨"WireWays", "cutWires", "()I"⟩, 8), (⟨"WireWays", "greatestDistance", "()I"⟩, 8), (⟨"WireWaysModel", "isPlace", "(II)Z"⟩, 7)]
theorem lw_r1 : ∀ q ∈ lw_privs_1, lw_okq q := List.forall_mem_cons.mpr ⟨lw_p0, List.forall_mem_cons.mpr ⟨lw_p1, List.forall_mem_cons.mpr ⟨lw_p2, List.forall_mem_cons.mpr ⟨lw_p3, List.forall_mem_cons.mpr ⟨lw_p4, List.forall_mem_cons.mpr ⟨lw_p5, List.forall_mem_cons.mpr ⟨lw_p6, List.forall_mem_cons.mpr ⟨lw_p7, List.forall_mem_cons.mpr ⟨lw_p8, List.forall_mem_cons.mpr ⟨lw_p9, List.forall_mem_cons.mpr ⟨lw_p10, List.forall_mem_cons.mpr ⟨lw_p11, List.forall_mem_cons.mpr ⟨lw_p12, List.forall_mem_cons.mpr ⟨lw_p13, List.forall_mem_cons.mpr ⟨lw_p14, List.forall_mem_cons.mpr ⟨lw_p15, fun _ h => absurd h List.not_mem_nil⟩⟩⟩⟩⟩⟩⟩⟩⟩⟩⟩⟩⟩⟩⟩⟩
theorem lw_p16 : lw_okq (⟨"WireWaysModel", "isRouter", "(I)Z"⟩, 7) := ⟨⟨by decide +kernel, by decide +kernel⟩, List.mem_of_getElem? (i := 163) (by decide +kernel), List.mem_of_getElem? (i := 199) (by decide +kernel), List.mem_of_getElem? (i := 200) (by decide +kernel)⟩
theorem lw_p17 : lw_okq (⟨"WireWaysModel", "portOn", "(II)I"⟩, 7) := ⟨⟨by decide +kernel, by decide +kernel⟩, List.mem_of_getElem? (i := 163) (by decide +kernel), List.mem_of_getElem? (i := 206) (by decide +kernel), List.mem_of_getElem? (i := 207) (by decide +kernel)⟩
theorem lw_p18 : lw_okq (⟨"WireWaysModel", "isAsked", "(IZI)Z"⟩, 7) := ⟨⟨by decide +kernel, by decide +kernel⟩, List.mem_of_getElem? (i := 163) (by decide +kernel), List.mem_of_getElem? (i := 230) (by decide +kernel), List.mem_of_getElem? (i := 231) (by decide +kernel)⟩
theorem lw_p19 : lw_okq (⟨"WireWaysModel", "reckon", "(ZI)V"⟩, 7) := ⟨⟨by decide +kernel, by decide +kernel⟩, List.mem_of_getElem? (i := 163) (by decide +kernel), List.mem_of_getElem? (i := 234) (by decide +kernel), List.mem_of_getElem? (i := 235) (by decide +kernel)⟩
theorem lw_p20 : lw_okq (⟨"WireWaysModel", "isAt", "(IZI)Z"⟩, 7) := ⟨⟨by decide +kernel, by decide +kernel⟩, List.mem_of_getElem? (i := 163) (by decide +kernel), List.mem_of_getElem? (i := 238) (by decide +kernel), List.mem_of_getElem? (i := 239) (by decide +kernel)⟩
theorem lw_p21 : lw_okq (⟨"WireWaysModel", "by", "(III)I"⟩, 7) := ⟨⟨by decide +kernel, by decide +kernel⟩, List.mem_of_getElem? (i := 163) (by decide +kernel), List.mem_of_getElem? (i := 243) (by decide +kernel), List.mem_of_getElem? (i := 244) (by decide +kernel)⟩
theorem lw_p22 : lw_okq (⟨"WireWaysModel", "choose", "(IZI)V"⟩, 7) := ⟨⟨by decide +kernel, by decide +kernel⟩, List.mem_of_getElem? (i := 163) (by decide +kernel), List.mem_of_getElem? (i := 247) (by decide +kernel), List.mem_of_getElem? (i := 248) (by decide +kernel)⟩
theorem lw_p23 : lw_okq (⟨"WireWaysModel", "greatest", "()I"⟩, 7) := ⟨⟨by decide +kernel, by decide +kernel⟩, List.mem_of_getElem? (i := 163) (by decide +kernel), List.mem_of_getElem? (i := 272) (by decide +kernel), List.mem_of_getElem? (i := 273) (by decide +kernel)⟩
def lw_privs_2 : List (MethodName × Nat) := [(⟨"WireWaysModel", "isRouter", "(I)Z"⟩, 7), (⟨"WireWaysModel", "portOn", "(II)I"⟩, 7), (⟨"WireWaysModel", "isAsked", "(IZI)Z"⟩, 7), (⟨"WireWaysModel", "reckon", "(ZI)V"⟩, 7), (⟨"WireWaysModel", "isAt", "(IZI)Z"⟩, 7), (⟨"WireWaysModel", "by", "(III)I"⟩, 7), (⟨"WireWaysModel", "choose", "(IZI)V"⟩, 7), (⟨"WireWaysModel", "greatest", "()I"⟩, 7)]
theorem lw_r2 : ∀ q ∈ lw_privs_2, lw_okq q := List.forall_mem_cons.mpr ⟨lw_p16, List.forall_mem_cons.mpr ⟨lw_p17, List.forall_mem_cons.mpr ⟨lw_p18, List.forall_mem_cons.mpr ⟨lw_p19, List.forall_mem_cons.mpr ⟨lw_p20, List.forall_mem_cons.mpr ⟨lw_p21, List.forall_mem_cons.mpr ⟨lw_p22, List.forall_mem_cons.mpr ⟨lw_p23, fun _ h => absurd h List.not_mem_nil⟩⟩⟩⟩⟩⟩⟩⟩
def lw_privs : List (MethodName × Nat) := lw_privs_1 ++ (lw_privs_2)
def lw_tbl : List Cond := k2_sels lw_privs ++ tables_1
theorem lw_privs_ok : ∀ q ∈ lw_privs, lw_okq q := by
  show ∀ q ∈ lw_privs_1 ++ (lw_privs_2), lw_okq q
  exact List.forall_mem_append.mpr ⟨lw_r1, lw_r2⟩
/-! ===== BEGIN words of one list among another's, by their places ===== -/
theorem goodIn_r {big : List Cond} (ws : List Cond) (ps : List Nat) (hp : ws = ps.filterMap (fun i => big[i]?)) (h : ws.all goodWord = true) : GoodIn big ws := by
  intro w hw
  have h1 := List.all_eq_true.mp h w hw
  rw [hp] at hw
  obtain ⟨i, -, hi⟩ := List.mem_filterMap.mp hw
  have hm : w ∈ big := by first | exact List.mem_of_getElem? hi | exact List.getElem?_mem hi
  exact ⟨hm, good_of_word h1⟩
theorem goodIn_app {big a b : List Cond} (ha : GoodIn big a) (hb : GoodIn big b) : GoodIn big (a ++ b) := fun w h => (List.mem_append.mp h).elim (ha w) (hb w)
theorem goodIn_ca {big a b : List Cond} {c : Cond} (ha : GoodIn big (c :: a)) (hb : GoodIn big b) : GoodIn big (c :: (a ++ b)) := fun w h => (List.mem_cons.mp h).elim (fun e => ha w (List.mem_cons.mpr (Or.inl e))) (fun h => (List.mem_append.mp h).elim (fun h => ha w (List.mem_cons.mpr (Or.inr h))) (hb w))
theorem goodIn_sub {big ws : List Cond} (hm : ∀ w ∈ ws, w ∈ big) (h : ws.all goodWord = true) : GoodIn big ws := fun w hw => ⟨hm w hw, good_of_word (List.all_eq_true.mp h w hw)⟩
/-! ===== END ===== -/

/-! ===== BEGIN printed: names, fields, word lists, decode rows ===== -/
def RX0 : String := "WireWays"
def TX0 : u_T := fun k => match k with
  | 0 => ("WireWays", "routers", "I", true)
  | 1 => ("WireWays", "wireAt", "[I", true)
  | 2 => ("WireWays", "costAt", "[I", true)
  | 3 => ("WireWays", "isCut", "[Z", true)
  | 4 => ("WireWays", "distance", "[I", true)
  | 5 => ("WireWays", "nearest", "[I", true)
  | 6 => ("WireWays", "wayPort", "I", false)
  | _ => ("WireWays", "wayRouter", "I", false)
def tyX0 : Nat → FieldType := fun k => match k with
  | 0 => .int
  | 1 => .array .int
  | 2 => .array .int
  | 3 => .array .boolean
  | 4 => .array .int
  | 5 => .array .int
  | 6 => .int
  | _ => .int
abbrev wsX00 : List Cond := u_ws RX0 TX0 8
theorem nmX0 : ∀ a, a < 8 → ∀ b, b < 8 → a ≠ b → (TX0 a).2.1 ≠ (TX0 b).2.1 := by decide +kernel
theorem tyX0_ok : ∀ k, k < 8 → parseFieldDescriptor (TX0 k).2.2.1 = some (tyX0 k) := by decide +kernel
abbrev cX0_init : ByteArray := prog_1_method_1_code
def yX0_init : MethodName := ⟨RX0, "<init>", "(I)V"⟩
abbrev cX0_plug : ByteArray := prog_1_method_2_code
def yX0_plug : MethodName := ⟨RX0, "plug", "(IIII)Z"⟩
abbrev cX0_draw : ByteArray := prog_1_method_3_code
def yX0_draw : MethodName := ⟨RX0, "draw", "(II)Z"⟩
abbrev cX0_cost : ByteArray := prog_1_method_4_code
def yX0_cost : MethodName := ⟨RX0, "cost", "(III)I"⟩
abbrev cX0_cut : ByteArray := prog_1_method_5_code
def yX0_cut : MethodName := ⟨RX0, "cut", "(I)Z"⟩
abbrev cX0_mend : ByteArray := prog_1_method_6_code
def yX0_mend : MethodName := ⟨RX0, "mend", "(I)Z"⟩
abbrev cX0_far : ByteArray := prog_1_method_7_code
def yX0_far : MethodName := ⟨RX0, "far", "(IZI)I"⟩
abbrev cX0_port : ByteArray := prog_1_method_8_code
def yX0_port : MethodName := ⟨RX0, "port", "(IZI)I"⟩
abbrev cX0_next : ByteArray := prog_1_method_9_code
def yX0_next : MethodName := ⟨RX0, "next", "(IZI)I"⟩
abbrev cX0_walk : ByteArray := prog_1_method_10_code
def yX0_walk : MethodName := ⟨RX0, "walk", "(IZII)I"⟩
abbrev cX0_reach : ByteArray := prog_1_method_11_code
def yX0_reach : MethodName := ⟨RX0, "reach", "(I)I"⟩
abbrev cX0_count : ByteArray := prog_1_method_12_code
def yX0_count : MethodName := ⟨RX0, "count", "(I)I"⟩
abbrev cX0_isRouter : ByteArray := prog_1_method_13_code
def yX0_isRouter : MethodName := ⟨RX0, "isRouter", "(I)Z"⟩
abbrev cX0_isPort : ByteArray := prog_1_method_14_code
def yX0_isPort : MethodName := ⟨RX0, "isPort", "(II)Z"⟩
abbrev cX0_isPluggedPort : ByteArray := prog_1_method_15_code
def yX0_isPluggedPort : MethodName := ⟨RX0, "isPluggedPort", "(II)Z"⟩
abbrev cX0_isWire : ByteArray := prog_1_method_16_code
def yX0_isWire : MethodName := ⟨RX0, "isWire", "(I)Z"⟩
abbrev cX0_isUp : ByteArray := prog_1_method_17_code
def yX0_isUp : MethodName := ⟨RX0, "isUp", "(I)Z"⟩
abbrev cX0_isCost : ByteArray := prog_1_method_18_code
def yX0_isCost : MethodName := ⟨RX0, "isCost", "(I)Z"⟩
abbrev cX0_isAim : ByteArray := prog_1_method_19_code
def yX0_isAim : MethodName := ⟨RX0, "isAim", "(ZI)Z"⟩
abbrev cX0_placeOf : ByteArray := prog_1_method_20_code
def yX0_placeOf : MethodName := ⟨RX0, "placeOf", "(II)I"⟩
abbrev cX0_portOn : ByteArray := prog_1_method_21_code
def yX0_portOn : MethodName := ⟨RX0, "portOn", "(II)I"⟩
abbrev cX0_canCome : ByteArray := prog_1_method_22_code
def yX0_canCome : MethodName := ⟨RX0, "canCome", "(IZI)Z"⟩
abbrev cX0_measure : ByteArray := prog_1_method_23_code
def yX0_measure : MethodName := ⟨RX0, "measure", "(ZI)V"⟩
abbrev cX0_findNearest : ByteArray := prog_1_method_24_code
def yX0_findNearest : MethodName := ⟨RX0, "findNearest", "()V"⟩
abbrev cX0_shortenDistances : ByteArray := prog_1_method_25_code
def yX0_shortenDistances : MethodName := ⟨RX0, "shortenDistances", "()Z"⟩
abbrev cX0_findWay : ByteArray := prog_1_method_26_code
def yX0_findWay : MethodName := ⟨RX0, "findWay", "(IZI)V"⟩
abbrev cX0_nearestOther : ByteArray := prog_1_method_27_code
def yX0_nearestOther : MethodName := ⟨RX0, "nearestOther", "(II)I"⟩
abbrev cX0_pluggedPorts : ByteArray := prog_1_method_28_code
def yX0_pluggedPorts : MethodName := ⟨RX0, "pluggedPorts", "()I"⟩
abbrev cX0_cutWires : ByteArray := prog_1_method_29_code
def yX0_cutWires : MethodName := ⟨RX0, "cutWires", "()I"⟩
abbrev cX0_greatestDistance : ByteArray := prog_1_method_30_code
def yX0_greatestDistance : MethodName := ⟨RX0, "greatestDistance", "()I"⟩
def RX1 : String := "WireWaysModel"
def TX1 : u_T := fun k => match k with
  | 0 => ("WireWaysModel", "routers", "I", true)
  | 1 => ("WireWaysModel", "wireOf", "[I", true)
  | 2 => ("WireWaysModel", "costOf", "[I", true)
  | 3 => ("WireWaysModel", "isCut", "[Z", true)
  | 4 => ("WireWaysModel", "distance", "[I", true)
  | 5 => ("WireWaysModel", "wayPort", "I", false)
  | _ => ("WireWaysModel", "wayRouter", "I", false)
def tyX1 : Nat → FieldType := fun k => match k with
  | 0 => .int
  | 1 => .array .int
  | 2 => .array .int
  | 3 => .array .boolean
  | 4 => .array .int
  | 5 => .int
  | _ => .int
abbrev wsX10 : List Cond := u_ws RX1 TX1 7
theorem nmX1 : ∀ a, a < 7 → ∀ b, b < 7 → a ≠ b → (TX1 a).2.1 ≠ (TX1 b).2.1 := by decide +kernel
theorem tyX1_ok : ∀ k, k < 7 → parseFieldDescriptor (TX1 k).2.2.1 = some (tyX1 k) := by decide +kernel
abbrev cX1_init : ByteArray := prog_3_method_1_code
def yX1_init : MethodName := ⟨RX1, "<init>", "(I)V"⟩
abbrev cX1_isRouter : ByteArray := prog_3_method_3_code
def yX1_isRouter : MethodName := ⟨RX1, "isRouter", "(I)Z"⟩
abbrev cX1_isWire : ByteArray := prog_3_method_4_code
def yX1_isWire : MethodName := ⟨RX1, "isWire", "(I)Z"⟩
abbrev cX1_isPlace : ByteArray := prog_3_method_5_code
def yX1_isPlace : MethodName := ⟨RX1, "isPlace", "(II)Z"⟩
abbrev cX1_portOn : ByteArray := prog_3_method_6_code
def yX1_portOn : MethodName := ⟨RX1, "portOn", "(II)I"⟩
abbrev cX1_plug : ByteArray := prog_3_method_7_code
def yX1_plug : MethodName := ⟨RX1, "plug", "(IIII)Z"⟩
abbrev cX1_draw : ByteArray := prog_3_method_8_code
def yX1_draw : MethodName := ⟨RX1, "draw", "(II)Z"⟩
abbrev cX1_cost : ByteArray := prog_3_method_9_code
def yX1_cost : MethodName := ⟨RX1, "cost", "(III)I"⟩
abbrev cX1_cut : ByteArray := prog_3_method_10_code
def yX1_cut : MethodName := ⟨RX1, "cut", "(I)Z"⟩
abbrev cX1_mend : ByteArray := prog_3_method_11_code
def yX1_mend : MethodName := ⟨RX1, "mend", "(I)Z"⟩
abbrev cX1_isAt : ByteArray := prog_3_method_12_code
def yX1_isAt : MethodName := ⟨RX1, "isAt", "(IZI)Z"⟩
abbrev cX1_by : ByteArray := prog_3_method_13_code
def yX1_by : MethodName := ⟨RX1, "by", "(III)I"⟩
abbrev cX1_reckon : ByteArray := prog_3_method_14_code
def yX1_reckon : MethodName := ⟨RX1, "reckon", "(ZI)V"⟩
abbrev cX1_choose : ByteArray := prog_3_method_15_code
def yX1_choose : MethodName := ⟨RX1, "choose", "(IZI)V"⟩
abbrev cX1_isAsked : ByteArray := prog_3_method_16_code
def yX1_isAsked : MethodName := ⟨RX1, "isAsked", "(IZI)Z"⟩
abbrev cX1_far : ByteArray := prog_3_method_17_code
def yX1_far : MethodName := ⟨RX1, "far", "(IZI)I"⟩
abbrev cX1_port : ByteArray := prog_3_method_18_code
def yX1_port : MethodName := ⟨RX1, "port", "(IZI)I"⟩
abbrev cX1_next : ByteArray := prog_3_method_19_code
def yX1_next : MethodName := ⟨RX1, "next", "(IZI)I"⟩
abbrev cX1_walk : ByteArray := prog_3_method_20_code
def yX1_walk : MethodName := ⟨RX1, "walk", "(IZII)I"⟩
abbrev cX1_reach : ByteArray := prog_3_method_21_code
def yX1_reach : MethodName := ⟨RX1, "reach", "(I)I"⟩
abbrev cX1_greatest : ByteArray := prog_3_method_22_code
def yX1_greatest : MethodName := ⟨RX1, "greatest", "()I"⟩
abbrev cX1_count : ByteArray := prog_3_method_23_code
def yX1_count : MethodName := ⟨RX1, "count", "(I)I"⟩
def RJ9 : String := "java/lang/Math"
def TJ9 : u_T := fun k => match k with
  | _ => ("", "", "", false)
def tyJ9 : Nat → FieldType := fun k => match k with
  | _ => .int
abbrev wsJ90 : List Cond := u_ws RJ9 TJ9 0
theorem nmJ9 : ∀ a, a < 0 → ∀ b, b < 0 → a ≠ b → (TJ9 a).2.1 ≠ (TJ9 b).2.1 := by decide +kernel
theorem tyJ9_ok : ∀ k, k < 0 → parseFieldDescriptor (TJ9 k).2.2.1 = some (tyJ9 k) := by decide +kernel
abbrev cJ9_max_7cf53 : ByteArray := prog_4_method_65_code
def yJ9_max_7cf53 : MethodName := ⟨RJ9, "max", "(II)I"⟩
abbrev cJ9_min_7cf53 : ByteArray := prog_4_method_69_code
def yJ9_min_7cf53 : MethodName := ⟨RJ9, "min", "(II)I"⟩
def RL : String := "WireWaysLaw"
abbrev cL_cell : ByteArray := method_2_code
def yL_cell : MethodName := ⟨RL, "cell", "([II)I"⟩
abbrev cL_law : ByteArray := code
def yL_law : MethodName := ⟨RL, "law", "([I)Z"⟩
def wsX0_init : List Cond := .code yX0_init cX0_init 3 none :: ([.methodLink RX0 1 objectInit, .instanceMethod objectInit, .code objectInit ⟨#[0xb1]⟩ 1 none, .methodLink RX0 9 Lib.Math.min.name, .static Lib.Math.min.name, .initialized "java/lang/Math", .code Lib.Math.min.name Lib.Math.min.code 2 (some .int), .methodLink RX0 15 Lib.Math.max.name, .static Lib.Math.max.name, .code Lib.Math.max.name Lib.Math.max.code 2 (some .int), .fieldLink RX0 18 "WireWays" "routers" "I", .arrayClass .int, .fieldLink RX0 22 "WireWays" "wireAt" "[I", .fieldLink RX0 26 "WireWays" "costAt" "[I", .arrayClass .boolean, .fieldLink RX0 29 "WireWays" "isCut" "[Z", .fieldLink RX0 33 "WireWays" "distance" "[I", .fieldLink RX0 36 "WireWays" "nearest" "[I", .fieldLink RX0 39 "WireWays" "wayPort" "I", .fieldLink RX0 42 "WireWays" "wayRouter" "I"] ++ wsX00)
def wsX0_isRouter : List Cond := .code yX0_isRouter cX0_isRouter 2 (some .boolean) :: ([.fieldLink RX0 18 "WireWays" "routers" "I"] ++ wsX00)
def wsX0_isPort : List Cond := .code yX0_isPort cX0_isPort 3 (some .boolean) :: ([.methodLink RX0 76 yX0_isRouter, .instanceMethod yX0_isRouter, .selects RX0 yX0_isRouter yX0_isRouter, .initialized RX0, .code yX0_isRouter cX0_isRouter 2 (some .boolean), .fieldLink RX0 18 "WireWays" "routers" "I"] ++ wsX00)
def wsX0_isWire : List Cond := .code yX0_isWire cX0_isWire 1 (some .boolean) :: ([])
def wsX0_isCost : List Cond := .code yX0_isCost cX0_isCost 1 (some .boolean) :: ([])
def wsX0_placeOf : List Cond := .code yX0_placeOf cX0_placeOf 2 (some .int) :: ([])
def wsX0_portOn : List Cond := .code yX0_portOn cX0_portOn 4 (some .int) :: ([.fieldLink RX0 22 "WireWays" "wireAt" "[I", .methodLink RX0 56 yX0_placeOf, .static yX0_placeOf, .initialized RX0, .code yX0_placeOf cX0_placeOf 2 (some .int)] ++ wsX00)
def wsX0_plug_r1 : List Cond := [Cond.fieldLink RX0 22 "WireWays" "wireAt" "[I", Cond.fieldLink RX0 26 "WireWays" "costAt" "[I", Cond.methodLink RX0 45 yX0_isPort, Cond.instanceMethod yX0_isPort, Cond.selects RX0 yX0_isPort yX0_isPort, Cond.initialized RX0, Cond.code yX0_isPort cX0_isPort 3 (some .boolean), Cond.methodLink RX0 76 yX0_isRouter, Cond.instanceMethod yX0_isRouter, Cond.selects RX0 yX0_isRouter yX0_isRouter, Cond.code yX0_isRouter cX0_isRouter 2 (some .boolean), Cond.fieldLink RX0 18 "WireWays" "routers" "I", Cond.methodLink RX0 49 yX0_isWire, Cond.static yX0_isWire, Cond.code yX0_isWire cX0_isWire 1 (some .boolean), Cond.methodLink RX0 53 yX0_isCost, Cond.static yX0_isCost, Cond.code yX0_isCost cX0_isCost 1 (some .boolean), Cond.methodLink RX0 56 yX0_placeOf, Cond.static yX0_placeOf, Cond.code yX0_placeOf cX0_placeOf 2 (some .int), Cond.methodLink RX0 59 yX0_portOn, Cond.instanceMethod yX0_portOn, Cond.selects RX0 yX0_portOn yX0_portOn]
def wsX0_plug_r2 : List Cond := [Cond.code yX0_portOn cX0_portOn 4 (some .int)]
def wsX0_plug : List Cond := .code yX0_plug cX0_plug 6 (some .boolean) :: ((wsX0_plug_r1 ++ wsX0_plug_r2) ++ wsX00)
def wsX0_isPluggedPort : List Cond := .code yX0_isPluggedPort cX0_isPluggedPort 3 (some .boolean) :: ([.fieldLink RX0 22 "WireWays" "wireAt" "[I", .methodLink RX0 45 yX0_isPort, .instanceMethod yX0_isPort, .selects RX0 yX0_isPort yX0_isPort, .initialized RX0, .code yX0_isPort cX0_isPort 3 (some .boolean), .methodLink RX0 76 yX0_isRouter, .instanceMethod yX0_isRouter, .selects RX0 yX0_isRouter yX0_isRouter, .code yX0_isRouter cX0_isRouter 2 (some .boolean), .fieldLink RX0 18 "WireWays" "routers" "I", .methodLink RX0 56 yX0_placeOf, .static yX0_placeOf, .code yX0_placeOf cX0_placeOf 2 (some .int), .methodLink RX0 49 yX0_isWire, .static yX0_isWire, .code yX0_isWire cX0_isWire 1 (some .boolean)] ++ wsX00)
def wsX0_draw : List Cond := .code yX0_draw cX0_draw 3 (some .boolean) :: ([.fieldLink RX0 22 "WireWays" "wireAt" "[I", .methodLink RX0 62 yX0_isPluggedPort, .instanceMethod yX0_isPluggedPort, .selects RX0 yX0_isPluggedPort yX0_isPluggedPort, .initialized RX0, .code yX0_isPluggedPort cX0_isPluggedPort 3 (some .boolean), .methodLink RX0 45 yX0_isPort, .instanceMethod yX0_isPort, .selects RX0 yX0_isPort yX0_isPort, .code yX0_isPort cX0_isPort 3 (some .boolean), .methodLink RX0 76 yX0_isRouter, .instanceMethod yX0_isRouter, .selects RX0 yX0_isRouter yX0_isRouter, .code yX0_isRouter cX0_isRouter 2 (some .boolean), .fieldLink RX0 18 "WireWays" "routers" "I", .methodLink RX0 56 yX0_placeOf, .static yX0_placeOf, .code yX0_placeOf cX0_placeOf 2 (some .int), .methodLink RX0 49 yX0_isWire, .static yX0_isWire, .code yX0_isWire cX0_isWire 1 (some .boolean)] ++ wsX00)
def wsX0_cost_r1 : List Cond := [Cond.fieldLink RX0 26 "WireWays" "costAt" "[I", Cond.methodLink RX0 62 yX0_isPluggedPort, Cond.instanceMethod yX0_isPluggedPort, Cond.selects RX0 yX0_isPluggedPort yX0_isPluggedPort, Cond.initialized RX0, Cond.code yX0_isPluggedPort cX0_isPluggedPort 3 (some .boolean), Cond.fieldLink RX0 22 "WireWays" "wireAt" "[I", Cond.methodLink RX0 45 yX0_isPort, Cond.instanceMethod yX0_isPort, Cond.selects RX0 yX0_isPort yX0_isPort, Cond.code yX0_isPort cX0_isPort 3 (some .boolean), Cond.methodLink RX0 76 yX0_isRouter, Cond.instanceMethod yX0_isRouter, Cond.selects RX0 yX0_isRouter yX0_isRouter, Cond.code yX0_isRouter cX0_isRouter 2 (some .boolean), Cond.fieldLink RX0 18 "WireWays" "routers" "I", Cond.methodLink RX0 56 yX0_placeOf, Cond.static yX0_placeOf, Cond.code yX0_placeOf cX0_placeOf 2 (some .int), Cond.methodLink RX0 49 yX0_isWire, Cond.static yX0_isWire, Cond.code yX0_isWire cX0_isWire 1 (some .boolean), Cond.methodLink RX0 53 yX0_isCost, Cond.static yX0_isCost]
def wsX0_cost_r2 : List Cond := [Cond.code yX0_isCost cX0_isCost 1 (some .boolean)]
def wsX0_cost : List Cond := .code yX0_cost cX0_cost 6 (some .int) :: ((wsX0_cost_r1 ++ wsX0_cost_r2) ++ wsX00)
def wsX0_isUp : List Cond := .code yX0_isUp cX0_isUp 2 (some .boolean) :: ([.fieldLink RX0 29 "WireWays" "isCut" "[Z", .methodLink RX0 49 yX0_isWire, .static yX0_isWire, .initialized RX0, .code yX0_isWire cX0_isWire 1 (some .boolean)] ++ wsX00)
def wsX0_cut : List Cond := .code yX0_cut cX0_cut 2 (some .boolean) :: ([.fieldLink RX0 29 "WireWays" "isCut" "[Z", .methodLink RX0 65 yX0_isUp, .instanceMethod yX0_isUp, .selects RX0 yX0_isUp yX0_isUp, .initialized RX0, .code yX0_isUp cX0_isUp 2 (some .boolean), .methodLink RX0 49 yX0_isWire, .static yX0_isWire, .code yX0_isWire cX0_isWire 1 (some .boolean)] ++ wsX00)
def wsX0_mend : List Cond := .code yX0_mend cX0_mend 2 (some .boolean) :: ([.fieldLink RX0 29 "WireWays" "isCut" "[Z", .methodLink RX0 49 yX0_isWire, .static yX0_isWire, .initialized RX0, .code yX0_isWire cX0_isWire 1 (some .boolean)] ++ wsX00)
def wsX0_isAim : List Cond := .code yX0_isAim cX0_isAim 3 (some .boolean) :: ([.methodLink RX0 65 yX0_isUp, .instanceMethod yX0_isUp, .selects RX0 yX0_isUp yX0_isUp, .initialized RX0, .code yX0_isUp cX0_isUp 2 (some .boolean), .fieldLink RX0 29 "WireWays" "isCut" "[Z", .methodLink RX0 49 yX0_isWire, .static yX0_isWire, .code yX0_isWire cX0_isWire 1 (some .boolean), .methodLink RX0 76 yX0_isRouter, .instanceMethod yX0_isRouter, .selects RX0 yX0_isRouter yX0_isRouter, .code yX0_isRouter cX0_isRouter 2 (some .boolean), .fieldLink RX0 18 "WireWays" "routers" "I"] ++ wsX00)
def wsX0_findNearest : List Cond := .code yX0_findNearest cX0_findNearest 4 none :: ([.fieldLink RX0 36 "WireWays" "nearest" "[I", .constant RX0 83 (1000000), .fieldLink RX0 18 "WireWays" "routers" "I", .fieldLink RX0 22 "WireWays" "wireAt" "[I", .fieldLink RX0 33 "WireWays" "distance" "[I", .methodLink RX0 56 yX0_placeOf, .static yX0_placeOf, .initialized RX0, .code yX0_placeOf cX0_placeOf 2 (some .int), .methodLink RX0 65 yX0_isUp, .instanceMethod yX0_isUp, .selects RX0 yX0_isUp yX0_isUp, .code yX0_isUp cX0_isUp 2 (some .boolean), .fieldLink RX0 29 "WireWays" "isCut" "[Z", .methodLink RX0 49 yX0_isWire, .static yX0_isWire, .code yX0_isWire cX0_isWire 1 (some .boolean)] ++ wsX00)
def wsX0_shortenDistances : List Cond := .code yX0_shortenDistances cX0_shortenDistances 6 (some .boolean) :: ([.fieldLink RX0 18 "WireWays" "routers" "I", .fieldLink RX0 22 "WireWays" "wireAt" "[I", .fieldLink RX0 26 "WireWays" "costAt" "[I", .fieldLink RX0 36 "WireWays" "nearest" "[I", .fieldLink RX0 33 "WireWays" "distance" "[I", .methodLink RX0 56 yX0_placeOf, .static yX0_placeOf, .initialized RX0, .code yX0_placeOf cX0_placeOf 2 (some .int), .methodLink RX0 65 yX0_isUp, .instanceMethod yX0_isUp, .selects RX0 yX0_isUp yX0_isUp, .code yX0_isUp cX0_isUp 2 (some .boolean), .fieldLink RX0 29 "WireWays" "isCut" "[Z", .methodLink RX0 49 yX0_isWire, .static yX0_isWire, .code yX0_isWire cX0_isWire 1 (some .boolean)] ++ wsX00)
def wsX0_measure_r1 : List Cond := [Cond.fieldLink RX0 18 "WireWays" "routers" "I", Cond.fieldLink RX0 33 "WireWays" "distance" "[I", Cond.constant RX0 83 (1000000), Cond.methodLink RX0 59 yX0_portOn, Cond.instanceMethod yX0_portOn, Cond.selects RX0 yX0_portOn yX0_portOn, Cond.initialized RX0, Cond.code yX0_portOn cX0_portOn 4 (some .int), Cond.fieldLink RX0 22 "WireWays" "wireAt" "[I", Cond.methodLink RX0 56 yX0_placeOf, Cond.static yX0_placeOf, Cond.code yX0_placeOf cX0_placeOf 2 (some .int), Cond.methodLink RX0 98 yX0_findNearest, Cond.instanceMethod yX0_findNearest, Cond.selects RX0 yX0_findNearest yX0_findNearest, Cond.code yX0_findNearest cX0_findNearest 4 none, Cond.fieldLink RX0 36 "WireWays" "nearest" "[I", Cond.methodLink RX0 65 yX0_isUp, Cond.instanceMethod yX0_isUp, Cond.selects RX0 yX0_isUp yX0_isUp, Cond.code yX0_isUp cX0_isUp 2 (some .boolean), Cond.fieldLink RX0 29 "WireWays" "isCut" "[Z", Cond.methodLink RX0 49 yX0_isWire, Cond.static yX0_isWire]
def wsX0_measure_r2 : List Cond := [Cond.code yX0_isWire cX0_isWire 1 (some .boolean), Cond.methodLink RX0 101 yX0_shortenDistances, Cond.instanceMethod yX0_shortenDistances, Cond.selects RX0 yX0_shortenDistances yX0_shortenDistances, Cond.code yX0_shortenDistances cX0_shortenDistances 6 (some .boolean), Cond.fieldLink RX0 26 "WireWays" "costAt" "[I"]
def wsX0_measure : List Cond := .code yX0_measure cX0_measure 5 none :: ((wsX0_measure_r1 ++ wsX0_measure_r2) ++ wsX00)
def wsX0_canCome_r1 : List Cond := [Cond.fieldLink RX0 33 "WireWays" "distance" "[I", Cond.constant RX0 83 (1000000), Cond.methodLink RX0 76 yX0_isRouter, Cond.instanceMethod yX0_isRouter, Cond.selects RX0 yX0_isRouter yX0_isRouter, Cond.initialized RX0, Cond.code yX0_isRouter cX0_isRouter 2 (some .boolean), Cond.fieldLink RX0 18 "WireWays" "routers" "I", Cond.methodLink RX0 94 yX0_isAim, Cond.instanceMethod yX0_isAim, Cond.selects RX0 yX0_isAim yX0_isAim, Cond.code yX0_isAim cX0_isAim 3 (some .boolean), Cond.methodLink RX0 65 yX0_isUp, Cond.instanceMethod yX0_isUp, Cond.selects RX0 yX0_isUp yX0_isUp, Cond.code yX0_isUp cX0_isUp 2 (some .boolean), Cond.fieldLink RX0 29 "WireWays" "isCut" "[Z", Cond.methodLink RX0 49 yX0_isWire, Cond.static yX0_isWire, Cond.code yX0_isWire cX0_isWire 1 (some .boolean), Cond.methodLink RX0 79 yX0_measure, Cond.instanceMethod yX0_measure, Cond.selects RX0 yX0_measure yX0_measure, Cond.code yX0_measure cX0_measure 5 none]
def wsX0_canCome_r2 : List Cond := [Cond.methodLink RX0 59 yX0_portOn, Cond.instanceMethod yX0_portOn, Cond.selects RX0 yX0_portOn yX0_portOn, Cond.code yX0_portOn cX0_portOn 4 (some .int), Cond.fieldLink RX0 22 "WireWays" "wireAt" "[I", Cond.methodLink RX0 56 yX0_placeOf, Cond.static yX0_placeOf, Cond.code yX0_placeOf cX0_placeOf 2 (some .int), Cond.methodLink RX0 98 yX0_findNearest, Cond.instanceMethod yX0_findNearest, Cond.selects RX0 yX0_findNearest yX0_findNearest, Cond.code yX0_findNearest cX0_findNearest 4 none, Cond.fieldLink RX0 36 "WireWays" "nearest" "[I", Cond.methodLink RX0 101 yX0_shortenDistances, Cond.instanceMethod yX0_shortenDistances, Cond.selects RX0 yX0_shortenDistances yX0_shortenDistances, Cond.code yX0_shortenDistances cX0_shortenDistances 6 (some .boolean), Cond.fieldLink RX0 26 "WireWays" "costAt" "[I"]
def wsX0_canCome : List Cond := .code yX0_canCome cX0_canCome 4 (some .boolean) :: ((wsX0_canCome_r1 ++ wsX0_canCome_r2) ++ wsX00)
def wsX0_far_r1 : List Cond := [Cond.fieldLink RX0 33 "WireWays" "distance" "[I", Cond.methodLink RX0 68 yX0_canCome, Cond.instanceMethod yX0_canCome, Cond.selects RX0 yX0_canCome yX0_canCome, Cond.initialized RX0, Cond.code yX0_canCome cX0_canCome 4 (some .boolean), Cond.constant RX0 83 (1000000), Cond.methodLink RX0 76 yX0_isRouter, Cond.instanceMethod yX0_isRouter, Cond.selects RX0 yX0_isRouter yX0_isRouter, Cond.code yX0_isRouter cX0_isRouter 2 (some .boolean), Cond.fieldLink RX0 18 "WireWays" "routers" "I", Cond.methodLink RX0 94 yX0_isAim, Cond.instanceMethod yX0_isAim, Cond.selects RX0 yX0_isAim yX0_isAim, Cond.code yX0_isAim cX0_isAim 3 (some .boolean), Cond.methodLink RX0 65 yX0_isUp, Cond.instanceMethod yX0_isUp, Cond.selects RX0 yX0_isUp yX0_isUp, Cond.code yX0_isUp cX0_isUp 2 (some .boolean), Cond.fieldLink RX0 29 "WireWays" "isCut" "[Z", Cond.methodLink RX0 49 yX0_isWire, Cond.static yX0_isWire, Cond.code yX0_isWire cX0_isWire 1 (some .boolean)]
def wsX0_far_r2 : List Cond := [Cond.methodLink RX0 79 yX0_measure, Cond.instanceMethod yX0_measure, Cond.selects RX0 yX0_measure yX0_measure, Cond.code yX0_measure cX0_measure 5 none, Cond.methodLink RX0 59 yX0_portOn, Cond.instanceMethod yX0_portOn, Cond.selects RX0 yX0_portOn yX0_portOn, Cond.code yX0_portOn cX0_portOn 4 (some .int), Cond.fieldLink RX0 22 "WireWays" "wireAt" "[I", Cond.methodLink RX0 56 yX0_placeOf, Cond.static yX0_placeOf, Cond.code yX0_placeOf cX0_placeOf 2 (some .int), Cond.methodLink RX0 98 yX0_findNearest, Cond.instanceMethod yX0_findNearest, Cond.selects RX0 yX0_findNearest yX0_findNearest, Cond.code yX0_findNearest cX0_findNearest 4 none, Cond.fieldLink RX0 36 "WireWays" "nearest" "[I", Cond.methodLink RX0 101 yX0_shortenDistances, Cond.instanceMethod yX0_shortenDistances, Cond.selects RX0 yX0_shortenDistances yX0_shortenDistances, Cond.code yX0_shortenDistances cX0_shortenDistances 6 (some .boolean), Cond.fieldLink RX0 26 "WireWays" "costAt" "[I"]
def wsX0_far : List Cond := .code yX0_far cX0_far 4 (some .int) :: ((wsX0_far_r1 ++ wsX0_far_r2) ++ wsX00)
def wsX0_nearestOther : List Cond := .code yX0_nearestOther cX0_nearestOther 6 (some .int) :: ([.constant RX0 83 (1000000), .fieldLink RX0 18 "WireWays" "routers" "I", .fieldLink RX0 33 "WireWays" "distance" "[I", .methodLink RX0 59 yX0_portOn, .instanceMethod yX0_portOn, .selects RX0 yX0_portOn yX0_portOn, .initialized RX0, .code yX0_portOn cX0_portOn 4 (some .int), .fieldLink RX0 22 "WireWays" "wireAt" "[I", .methodLink RX0 56 yX0_placeOf, .static yX0_placeOf, .code yX0_placeOf cX0_placeOf 2 (some .int)] ++ wsX00)
def wsX0_findWay_r1 : List Cond := [Cond.fieldLink RX0 39 "WireWays" "wayPort" "I", Cond.fieldLink RX0 42 "WireWays" "wayRouter" "I", Cond.fieldLink RX0 33 "WireWays" "distance" "[I", Cond.constant RX0 83 (1000000), Cond.fieldLink RX0 22 "WireWays" "wireAt" "[I", Cond.fieldLink RX0 26 "WireWays" "costAt" "[I", Cond.methodLink RX0 59 yX0_portOn, Cond.instanceMethod yX0_portOn, Cond.selects RX0 yX0_portOn yX0_portOn, Cond.initialized RX0, Cond.code yX0_portOn cX0_portOn 4 (some .int), Cond.methodLink RX0 56 yX0_placeOf, Cond.static yX0_placeOf, Cond.code yX0_placeOf cX0_placeOf 2 (some .int), Cond.methodLink RX0 65 yX0_isUp, Cond.instanceMethod yX0_isUp, Cond.selects RX0 yX0_isUp yX0_isUp, Cond.code yX0_isUp cX0_isUp 2 (some .boolean), Cond.fieldLink RX0 29 "WireWays" "isCut" "[Z", Cond.methodLink RX0 49 yX0_isWire, Cond.static yX0_isWire, Cond.code yX0_isWire cX0_isWire 1 (some .boolean), Cond.methodLink RX0 105 yX0_nearestOther, Cond.instanceMethod yX0_nearestOther]
def wsX0_findWay_r2 : List Cond := [Cond.selects RX0 yX0_nearestOther yX0_nearestOther, Cond.code yX0_nearestOther cX0_nearestOther 6 (some .int), Cond.fieldLink RX0 18 "WireWays" "routers" "I", Cond.methodLink RX0 76 yX0_isRouter, Cond.instanceMethod yX0_isRouter, Cond.selects RX0 yX0_isRouter yX0_isRouter, Cond.code yX0_isRouter cX0_isRouter 2 (some .boolean)]
def wsX0_findWay : List Cond := .code yX0_findWay cX0_findWay 8 none :: ((wsX0_findWay_r1 ++ wsX0_findWay_r2) ++ wsX00)
def wsX0_port_r1 : List Cond := [Cond.fieldLink RX0 39 "WireWays" "wayPort" "I", Cond.methodLink RX0 68 yX0_canCome, Cond.instanceMethod yX0_canCome, Cond.selects RX0 yX0_canCome yX0_canCome, Cond.initialized RX0, Cond.code yX0_canCome cX0_canCome 4 (some .boolean), Cond.fieldLink RX0 33 "WireWays" "distance" "[I", Cond.constant RX0 83 (1000000), Cond.methodLink RX0 76 yX0_isRouter, Cond.instanceMethod yX0_isRouter, Cond.selects RX0 yX0_isRouter yX0_isRouter, Cond.code yX0_isRouter cX0_isRouter 2 (some .boolean), Cond.fieldLink RX0 18 "WireWays" "routers" "I", Cond.methodLink RX0 94 yX0_isAim, Cond.instanceMethod yX0_isAim, Cond.selects RX0 yX0_isAim yX0_isAim, Cond.code yX0_isAim cX0_isAim 3 (some .boolean), Cond.methodLink RX0 65 yX0_isUp, Cond.instanceMethod yX0_isUp, Cond.selects RX0 yX0_isUp yX0_isUp, Cond.code yX0_isUp cX0_isUp 2 (some .boolean), Cond.fieldLink RX0 29 "WireWays" "isCut" "[Z", Cond.methodLink RX0 49 yX0_isWire, Cond.static yX0_isWire]
def wsX0_port_r2 : List Cond := [Cond.code yX0_isWire cX0_isWire 1 (some .boolean), Cond.methodLink RX0 79 yX0_measure, Cond.instanceMethod yX0_measure, Cond.selects RX0 yX0_measure yX0_measure, Cond.code yX0_measure cX0_measure 5 none, Cond.methodLink RX0 59 yX0_portOn, Cond.instanceMethod yX0_portOn, Cond.selects RX0 yX0_portOn yX0_portOn, Cond.code yX0_portOn cX0_portOn 4 (some .int), Cond.fieldLink RX0 22 "WireWays" "wireAt" "[I", Cond.methodLink RX0 56 yX0_placeOf, Cond.static yX0_placeOf, Cond.code yX0_placeOf cX0_placeOf 2 (some .int), Cond.methodLink RX0 98 yX0_findNearest, Cond.instanceMethod yX0_findNearest, Cond.selects RX0 yX0_findNearest yX0_findNearest, Cond.code yX0_findNearest cX0_findNearest 4 none, Cond.fieldLink RX0 36 "WireWays" "nearest" "[I", Cond.methodLink RX0 101 yX0_shortenDistances, Cond.instanceMethod yX0_shortenDistances, Cond.selects RX0 yX0_shortenDistances yX0_shortenDistances, Cond.code yX0_shortenDistances cX0_shortenDistances 6 (some .boolean), Cond.fieldLink RX0 26 "WireWays" "costAt" "[I", Cond.methodLink RX0 72 yX0_findWay]
def wsX0_port_r3 : List Cond := [Cond.instanceMethod yX0_findWay, Cond.selects RX0 yX0_findWay yX0_findWay, Cond.code yX0_findWay cX0_findWay 8 none, Cond.fieldLink RX0 42 "WireWays" "wayRouter" "I", Cond.methodLink RX0 105 yX0_nearestOther, Cond.instanceMethod yX0_nearestOther, Cond.selects RX0 yX0_nearestOther yX0_nearestOther, Cond.code yX0_nearestOther cX0_nearestOther 6 (some .int)]
def wsX0_port : List Cond := .code yX0_port cX0_port 4 (some .int) :: ((wsX0_port_r1 ++ (wsX0_port_r2 ++ wsX0_port_r3)) ++ wsX00)
def wsX0_next_r1 : List Cond := [Cond.fieldLink RX0 42 "WireWays" "wayRouter" "I", Cond.methodLink RX0 68 yX0_canCome, Cond.instanceMethod yX0_canCome, Cond.selects RX0 yX0_canCome yX0_canCome, Cond.initialized RX0, Cond.code yX0_canCome cX0_canCome 4 (some .boolean), Cond.fieldLink RX0 33 "WireWays" "distance" "[I", Cond.constant RX0 83 (1000000), Cond.methodLink RX0 76 yX0_isRouter, Cond.instanceMethod yX0_isRouter, Cond.selects RX0 yX0_isRouter yX0_isRouter, Cond.code yX0_isRouter cX0_isRouter 2 (some .boolean), Cond.fieldLink RX0 18 "WireWays" "routers" "I", Cond.methodLink RX0 94 yX0_isAim, Cond.instanceMethod yX0_isAim, Cond.selects RX0 yX0_isAim yX0_isAim, Cond.code yX0_isAim cX0_isAim 3 (some .boolean), Cond.methodLink RX0 65 yX0_isUp, Cond.instanceMethod yX0_isUp, Cond.selects RX0 yX0_isUp yX0_isUp, Cond.code yX0_isUp cX0_isUp 2 (some .boolean), Cond.fieldLink RX0 29 "WireWays" "isCut" "[Z", Cond.methodLink RX0 49 yX0_isWire, Cond.static yX0_isWire]
def wsX0_next_r2 : List Cond := [Cond.code yX0_isWire cX0_isWire 1 (some .boolean), Cond.methodLink RX0 79 yX0_measure, Cond.instanceMethod yX0_measure, Cond.selects RX0 yX0_measure yX0_measure, Cond.code yX0_measure cX0_measure 5 none, Cond.methodLink RX0 59 yX0_portOn, Cond.instanceMethod yX0_portOn, Cond.selects RX0 yX0_portOn yX0_portOn, Cond.code yX0_portOn cX0_portOn 4 (some .int), Cond.fieldLink RX0 22 "WireWays" "wireAt" "[I", Cond.methodLink RX0 56 yX0_placeOf, Cond.static yX0_placeOf, Cond.code yX0_placeOf cX0_placeOf 2 (some .int), Cond.methodLink RX0 98 yX0_findNearest, Cond.instanceMethod yX0_findNearest, Cond.selects RX0 yX0_findNearest yX0_findNearest, Cond.code yX0_findNearest cX0_findNearest 4 none, Cond.fieldLink RX0 36 "WireWays" "nearest" "[I", Cond.methodLink RX0 101 yX0_shortenDistances, Cond.instanceMethod yX0_shortenDistances, Cond.selects RX0 yX0_shortenDistances yX0_shortenDistances, Cond.code yX0_shortenDistances cX0_shortenDistances 6 (some .boolean), Cond.fieldLink RX0 26 "WireWays" "costAt" "[I", Cond.methodLink RX0 72 yX0_findWay]
def wsX0_next_r3 : List Cond := [Cond.instanceMethod yX0_findWay, Cond.selects RX0 yX0_findWay yX0_findWay, Cond.code yX0_findWay cX0_findWay 8 none, Cond.fieldLink RX0 39 "WireWays" "wayPort" "I", Cond.methodLink RX0 105 yX0_nearestOther, Cond.instanceMethod yX0_nearestOther, Cond.selects RX0 yX0_nearestOther yX0_nearestOther, Cond.code yX0_nearestOther cX0_nearestOther 6 (some .int)]
def wsX0_next : List Cond := .code yX0_next cX0_next 4 (some .int) :: ((wsX0_next_r1 ++ (wsX0_next_r2 ++ wsX0_next_r3)) ++ wsX00)
def wsX0_walk_r1 : List Cond := [Cond.fieldLink RX0 18 "WireWays" "routers" "I", Cond.fieldLink RX0 42 "WireWays" "wayRouter" "I", Cond.methodLink RX0 68 yX0_canCome, Cond.instanceMethod yX0_canCome, Cond.selects RX0 yX0_canCome yX0_canCome, Cond.initialized RX0, Cond.code yX0_canCome cX0_canCome 4 (some .boolean), Cond.fieldLink RX0 33 "WireWays" "distance" "[I", Cond.constant RX0 83 (1000000), Cond.methodLink RX0 76 yX0_isRouter, Cond.instanceMethod yX0_isRouter, Cond.selects RX0 yX0_isRouter yX0_isRouter, Cond.code yX0_isRouter cX0_isRouter 2 (some .boolean), Cond.methodLink RX0 94 yX0_isAim, Cond.instanceMethod yX0_isAim, Cond.selects RX0 yX0_isAim yX0_isAim, Cond.code yX0_isAim cX0_isAim 3 (some .boolean), Cond.methodLink RX0 65 yX0_isUp, Cond.instanceMethod yX0_isUp, Cond.selects RX0 yX0_isUp yX0_isUp, Cond.code yX0_isUp cX0_isUp 2 (some .boolean), Cond.fieldLink RX0 29 "WireWays" "isCut" "[Z", Cond.methodLink RX0 49 yX0_isWire, Cond.static yX0_isWire]
def wsX0_walk_r2 : List Cond := [Cond.code yX0_isWire cX0_isWire 1 (some .boolean), Cond.methodLink RX0 79 yX0_measure, Cond.instanceMethod yX0_measure, Cond.selects RX0 yX0_measure yX0_measure, Cond.code yX0_measure cX0_measure 5 none, Cond.methodLink RX0 59 yX0_portOn, Cond.instanceMethod yX0_portOn, Cond.selects RX0 yX0_portOn yX0_portOn, Cond.code yX0_portOn cX0_portOn 4 (some .int), Cond.fieldLink RX0 22 "WireWays" "wireAt" "[I", Cond.methodLink RX0 56 yX0_placeOf, Cond.static yX0_placeOf, Cond.code yX0_placeOf cX0_placeOf 2 (some .int), Cond.methodLink RX0 98 yX0_findNearest, Cond.instanceMethod yX0_findNearest, Cond.selects RX0 yX0_findNearest yX0_findNearest, Cond.code yX0_findNearest cX0_findNearest 4 none, Cond.fieldLink RX0 36 "WireWays" "nearest" "[I", Cond.methodLink RX0 101 yX0_shortenDistances, Cond.instanceMethod yX0_shortenDistances, Cond.selects RX0 yX0_shortenDistances yX0_shortenDistances, Cond.code yX0_shortenDistances cX0_shortenDistances 6 (some .boolean), Cond.fieldLink RX0 26 "WireWays" "costAt" "[I", Cond.methodLink RX0 72 yX0_findWay]
def wsX0_walk_r3 : List Cond := [Cond.instanceMethod yX0_findWay, Cond.selects RX0 yX0_findWay yX0_findWay, Cond.code yX0_findWay cX0_findWay 8 none, Cond.fieldLink RX0 39 "WireWays" "wayPort" "I", Cond.methodLink RX0 105 yX0_nearestOther, Cond.instanceMethod yX0_nearestOther, Cond.selects RX0 yX0_nearestOther yX0_nearestOther, Cond.code yX0_nearestOther cX0_nearestOther 6 (some .int)]
def wsX0_walk : List Cond := .code yX0_walk cX0_walk 7 (some .int) :: ((wsX0_walk_r1 ++ (wsX0_walk_r2 ++ wsX0_walk_r3)) ++ wsX00)
def wsX0_reach_r1 : List Cond := [Cond.fieldLink RX0 18 "WireWays" "routers" "I", Cond.fieldLink RX0 33 "WireWays" "distance" "[I", Cond.constant RX0 83 (1000000), Cond.methodLink RX0 76 yX0_isRouter, Cond.instanceMethod yX0_isRouter, Cond.selects RX0 yX0_isRouter yX0_isRouter, Cond.initialized RX0, Cond.code yX0_isRouter cX0_isRouter 2 (some .boolean), Cond.methodLink RX0 79 yX0_measure, Cond.instanceMethod yX0_measure, Cond.selects RX0 yX0_measure yX0_measure, Cond.code yX0_measure cX0_measure 5 none, Cond.methodLink RX0 59 yX0_portOn, Cond.instanceMethod yX0_portOn, Cond.selects RX0 yX0_portOn yX0_portOn, Cond.code yX0_portOn cX0_portOn 4 (some .int), Cond.fieldLink RX0 22 "WireWays" "wireAt" "[I", Cond.methodLink RX0 56 yX0_placeOf, Cond.static yX0_placeOf, Cond.code yX0_placeOf cX0_placeOf 2 (some .int), Cond.methodLink RX0 98 yX0_findNearest, Cond.instanceMethod yX0_findNearest, Cond.selects RX0 yX0_findNearest yX0_findNearest, Cond.code yX0_findNearest cX0_findNearest 4 none]
def wsX0_reach_r2 : List Cond := [Cond.fieldLink RX0 36 "WireWays" "nearest" "[I", Cond.methodLink RX0 65 yX0_isUp, Cond.instanceMethod yX0_isUp, Cond.selects RX0 yX0_isUp yX0_isUp, Cond.code yX0_isUp cX0_isUp 2 (some .boolean), Cond.fieldLink RX0 29 "WireWays" "isCut" "[Z", Cond.methodLink RX0 49 yX0_isWire, Cond.static yX0_isWire, Cond.code yX0_isWire cX0_isWire 1 (some .boolean), Cond.methodLink RX0 101 yX0_shortenDistances, Cond.instanceMethod yX0_shortenDistances, Cond.selects RX0 yX0_shortenDistances yX0_shortenDistances, Cond.code yX0_shortenDistances cX0_shortenDistances 6 (some .boolean), Cond.fieldLink RX0 26 "WireWays" "costAt" "[I"]
def wsX0_reach : List Cond := .code yX0_reach cX0_reach 4 (some .int) :: ((wsX0_reach_r1 ++ wsX0_reach_r2) ++ wsX00)
def wsX0_pluggedPorts : List Cond := .code yX0_pluggedPorts cX0_pluggedPorts 3 (some .int) :: ([.fieldLink RX0 22 "WireWays" "wireAt" "[I", .methodLink RX0 49 yX0_isWire, .static yX0_isWire, .initialized RX0, .code yX0_isWire cX0_isWire 1 (some .boolean)] ++ wsX00)
def wsX0_cutWires : List Cond := .code yX0_cutWires cX0_cutWires 3 (some .int) :: ([.fieldLink RX0 29 "WireWays" "isCut" "[Z"] ++ wsX00)
def wsX0_greatestDistance_r1 : List Cond := [Cond.fieldLink RX0 18 "WireWays" "routers" "I", Cond.fieldLink RX0 33 "WireWays" "distance" "[I", Cond.constant RX0 83 (1000000), Cond.methodLink RX0 79 yX0_measure, Cond.instanceMethod yX0_measure, Cond.selects RX0 yX0_measure yX0_measure, Cond.initialized RX0, Cond.code yX0_measure cX0_measure 5 none, Cond.methodLink RX0 59 yX0_portOn, Cond.instanceMethod yX0_portOn, Cond.selects RX0 yX0_portOn yX0_portOn, Cond.code yX0_portOn cX0_portOn 4 (some .int), Cond.fieldLink RX0 22 "WireWays" "wireAt" "[I", Cond.methodLink RX0 56 yX0_placeOf, Cond.static yX0_placeOf, Cond.code yX0_placeOf cX0_placeOf 2 (some .int), Cond.methodLink RX0 98 yX0_findNearest, Cond.instanceMethod yX0_findNearest, Cond.selects RX0 yX0_findNearest yX0_findNearest, Cond.code yX0_findNearest cX0_findNearest 4 none, Cond.fieldLink RX0 36 "WireWays" "nearest" "[I", Cond.methodLink RX0 65 yX0_isUp, Cond.instanceMethod yX0_isUp, Cond.selects RX0 yX0_isUp yX0_isUp]
def wsX0_greatestDistance_r2 : List Cond := [Cond.code yX0_isUp cX0_isUp 2 (some .boolean), Cond.fieldLink RX0 29 "WireWays" "isCut" "[Z", Cond.methodLink RX0 49 yX0_isWire, Cond.static yX0_isWire, Cond.code yX0_isWire cX0_isWire 1 (some .boolean), Cond.methodLink RX0 101 yX0_shortenDistances, Cond.instanceMethod yX0_shortenDistances, Cond.selects RX0 yX0_shortenDistances yX0_shortenDistances, Cond.code yX0_shortenDistances cX0_shortenDistances 6 (some .boolean), Cond.fieldLink RX0 26 "WireWays" "costAt" "[I"]
def wsX0_greatestDistance : List Cond := .code yX0_greatestDistance cX0_greatestDistance 4 (some .int) :: ((wsX0_greatestDistance_r1 ++ wsX0_greatestDistance_r2) ++ wsX00)
def wsX0_count_r1 : List Cond := [Cond.fieldLink RX0 18 "WireWays" "routers" "I", Cond.methodLink RX0 84 yX0_pluggedPorts, Cond.instanceMethod yX0_pluggedPorts, Cond.selects RX0 yX0_pluggedPorts yX0_pluggedPorts, Cond.initialized RX0, Cond.code yX0_pluggedPorts cX0_pluggedPorts 3 (some .int), Cond.fieldLink RX0 22 "WireWays" "wireAt" "[I", Cond.methodLink RX0 49 yX0_isWire, Cond.static yX0_isWire, Cond.code yX0_isWire cX0_isWire 1 (some .boolean), Cond.methodLink RX0 88 yX0_cutWires, Cond.instanceMethod yX0_cutWires, Cond.selects RX0 yX0_cutWires yX0_cutWires, Cond.code yX0_cutWires cX0_cutWires 3 (some .int), Cond.fieldLink RX0 29 "WireWays" "isCut" "[Z", Cond.methodLink RX0 91 yX0_greatestDistance, Cond.instanceMethod yX0_greatestDistance, Cond.selects RX0 yX0_greatestDistance yX0_greatestDistance, Cond.code yX0_greatestDistance cX0_greatestDistance 4 (some .int), Cond.fieldLink RX0 33 "WireWays" "distance" "[I", Cond.constant RX0 83 (1000000), Cond.methodLink RX0 79 yX0_measure, Cond.instanceMethod yX0_measure, Cond.selects RX0 yX0_measure yX0_measure]
def wsX0_count_r2 : List Cond := [Cond.code yX0_measure cX0_measure 5 none, Cond.methodLink RX0 59 yX0_portOn, Cond.instanceMethod yX0_portOn, Cond.selects RX0 yX0_portOn yX0_portOn, Cond.code yX0_portOn cX0_portOn 4 (some .int), Cond.methodLink RX0 56 yX0_placeOf, Cond.static yX0_placeOf, Cond.code yX0_placeOf cX0_placeOf 2 (some .int), Cond.methodLink RX0 98 yX0_findNearest, Cond.instanceMethod yX0_findNearest, Cond.selects RX0 yX0_findNearest yX0_findNearest, Cond.code yX0_findNearest cX0_findNearest 4 none, Cond.fieldLink RX0 36 "WireWays" "nearest" "[I", Cond.methodLink RX0 65 yX0_isUp, Cond.instanceMethod yX0_isUp, Cond.selects RX0 yX0_isUp yX0_isUp, Cond.code yX0_isUp cX0_isUp 2 (some .boolean), Cond.methodLink RX0 101 yX0_shortenDistances, Cond.instanceMethod yX0_shortenDistances, Cond.selects RX0 yX0_shortenDistances yX0_shortenDistances, Cond.code yX0_shortenDistances cX0_shortenDistances 6 (some .boolean), Cond.fieldLink RX0 26 "WireWays" "costAt" "[I"]
def wsX0_count : List Cond := .code yX0_count cX0_count 2 (some .int) :: ((wsX0_count_r1 ++ wsX0_count_r2) ++ wsX00)
def wsX1_init : List Cond := .code yX1_init cX1_init 3 none :: ([.methodLink RX1 1 objectInit, .instanceMethod objectInit, .code objectInit ⟨#[0xb1]⟩ 1 none, .arrayClass .int, .fieldLink RX1 7 "WireWaysModel" "wireOf" "[I", .fieldLink RX1 13 "WireWaysModel" "costOf" "[I", .arrayClass .boolean, .fieldLink RX1 16 "WireWaysModel" "isCut" "[Z", .fieldLink RX1 20 "WireWaysModel" "distance" "[I", .fieldLink RX1 23 "WireWaysModel" "routers" "I"] ++ wsX10)
def wsX1_isRouter : List Cond := .code yX1_isRouter cX1_isRouter 2 (some .boolean) :: ([.fieldLink RX1 23 "WireWaysModel" "routers" "I"] ++ wsX10)
def wsX1_isWire : List Cond := .code yX1_isWire cX1_isWire 1 (some .boolean) :: ([])
def wsX1_isPlace : List Cond := .code yX1_isPlace cX1_isPlace 3 (some .boolean) :: ([.methodLink RX1 27 yX1_isRouter, .instanceMethod yX1_isRouter, .selects RX1 yX1_isRouter yX1_isRouter, .initialized RX1, .code yX1_isRouter cX1_isRouter 2 (some .boolean), .fieldLink RX1 23 "WireWaysModel" "routers" "I"] ++ wsX10)
def wsX1_portOn : List Cond := .code yX1_portOn cX1_portOn 4 (some .int) :: ([.fieldLink RX1 7 "WireWaysModel" "wireOf" "[I"] ++ wsX10)
def wsX1_plug : List Cond := .code yX1_plug cX1_plug 5 (some .boolean) :: ([.fieldLink RX1 7 "WireWaysModel" "wireOf" "[I", .fieldLink RX1 13 "WireWaysModel" "costOf" "[I", .methodLink RX1 31 yX1_isPlace, .instanceMethod yX1_isPlace, .selects RX1 yX1_isPlace yX1_isPlace, .initialized RX1, .code yX1_isPlace cX1_isPlace 3 (some .boolean), .methodLink RX1 27 yX1_isRouter, .instanceMethod yX1_isRouter, .selects RX1 yX1_isRouter yX1_isRouter, .code yX1_isRouter cX1_isRouter 2 (some .boolean), .fieldLink RX1 23 "WireWaysModel" "routers" "I", .methodLink RX1 35 yX1_isWire, .static yX1_isWire, .code yX1_isWire cX1_isWire 1 (some .boolean), .methodLink RX1 38 yX1_portOn, .instanceMethod yX1_portOn, .selects RX1 yX1_portOn yX1_portOn, .code yX1_portOn cX1_portOn 4 (some .int)] ++ wsX10)
def wsX1_draw : List Cond := .code yX1_draw cX1_draw 3 (some .boolean) :: ([.fieldLink RX1 7 "WireWaysModel" "wireOf" "[I", .methodLink RX1 31 yX1_isPlace, .instanceMethod yX1_isPlace, .selects RX1 yX1_isPlace yX1_isPlace, .initialized RX1, .code yX1_isPlace cX1_isPlace 3 (some .boolean), .methodLink RX1 27 yX1_isRouter, .instanceMethod yX1_isRouter, .selects RX1 yX1_isRouter yX1_isRouter, .code yX1_isRouter cX1_isRouter 2 (some .boolean), .fieldLink RX1 23 "WireWaysModel" "routers" "I"] ++ wsX10)
def wsX1_cost : List Cond := .code yX1_cost cX1_cost 5 (some .int) :: ([.fieldLink RX1 7 "WireWaysModel" "wireOf" "[I", .fieldLink RX1 13 "WireWaysModel" "costOf" "[I", .methodLink RX1 31 yX1_isPlace, .instanceMethod yX1_isPlace, .selects RX1 yX1_isPlace yX1_isPlace, .initialized RX1, .code yX1_isPlace cX1_isPlace 3 (some .boolean), .methodLink RX1 27 yX1_isRouter, .instanceMethod yX1_isRouter, .selects RX1 yX1_isRouter yX1_isRouter, .code yX1_isRouter cX1_isRouter 2 (some .boolean), .fieldLink RX1 23 "WireWaysModel" "routers" "I"] ++ wsX10)
def wsX1_cut : List Cond := .code yX1_cut cX1_cut 2 (some .boolean) :: ([.fieldLink RX1 16 "WireWaysModel" "isCut" "[Z", .methodLink RX1 35 yX1_isWire, .static yX1_isWire, .initialized RX1, .code yX1_isWire cX1_isWire 1 (some .boolean)] ++ wsX10)
def wsX1_mend : List Cond := .code yX1_mend cX1_mend 2 (some .boolean) :: ([.fieldLink RX1 16 "WireWaysModel" "isCut" "[Z", .methodLink RX1 35 yX1_isWire, .static yX1_isWire, .initialized RX1, .code yX1_isWire cX1_isWire 1 (some .boolean)] ++ wsX10)
def wsX1_isAt : List Cond := .code yX1_isAt cX1_isAt 4 (some .boolean) :: ([.fieldLink RX1 16 "WireWaysModel" "isCut" "[Z", .methodLink RX1 38 yX1_portOn, .instanceMethod yX1_portOn, .selects RX1 yX1_portOn yX1_portOn, .initialized RX1, .code yX1_portOn cX1_portOn 4 (some .int), .fieldLink RX1 7 "WireWaysModel" "wireOf" "[I"] ++ wsX10)
def wsX1_by : List Cond := .code yX1_by cX1_by 5 (some .int) :: ([.fieldLink RX1 7 "WireWaysModel" "wireOf" "[I", .fieldLink RX1 16 "WireWaysModel" "isCut" "[Z", .constant RX1 42 (100000), .fieldLink RX1 20 "WireWaysModel" "distance" "[I", .fieldLink RX1 13 "WireWaysModel" "costOf" "[I", .methodLink RX1 38 yX1_portOn, .instanceMethod yX1_portOn, .selects RX1 yX1_portOn yX1_portOn, .initialized RX1, .code yX1_portOn cX1_portOn 4 (some .int)] ++ wsX10)
def wsX1_reckon : List Cond := .code yX1_reckon cX1_reckon 7 none :: ([.fieldLink RX1 23 "WireWaysModel" "routers" "I", .fieldLink RX1 20 "WireWaysModel" "distance" "[I", .constant RX1 42 (100000), .methodLink RX1 43 yX1_isAt, .instanceMethod yX1_isAt, .selects RX1 yX1_isAt yX1_isAt, .initialized RX1, .code yX1_isAt cX1_isAt 4 (some .boolean), .fieldLink RX1 16 "WireWaysModel" "isCut" "[Z", .methodLink RX1 38 yX1_portOn, .instanceMethod yX1_portOn, .selects RX1 yX1_portOn yX1_portOn, .code yX1_portOn cX1_portOn 4 (some .int), .fieldLink RX1 7 "WireWaysModel" "wireOf" "[I", .methodLink RX1 47 yX1_by, .instanceMethod yX1_by, .selects RX1 yX1_by yX1_by, .code yX1_by cX1_by 5 (some .int), .fieldLink RX1 13 "WireWaysModel" "costOf" "[I"] ++ wsX10)
def wsX1_choose : List Cond := .code yX1_choose cX1_choose 7 none :: ([.fieldLink RX1 51 "WireWaysModel" "wayPort" "I", .fieldLink RX1 54 "WireWaysModel" "wayRouter" "I", .fieldLink RX1 20 "WireWaysModel" "distance" "[I", .constant RX1 42 (100000), .fieldLink RX1 23 "WireWaysModel" "routers" "I", .methodLink RX1 43 yX1_isAt, .instanceMethod yX1_isAt, .selects RX1 yX1_isAt yX1_isAt, .initialized RX1, .code yX1_isAt cX1_isAt 4 (some .boolean), .fieldLink RX1 16 "WireWaysModel" "isCut" "[Z", .methodLink RX1 38 yX1_portOn, .instanceMethod yX1_portOn, .selects RX1 yX1_portOn yX1_portOn, .code yX1_portOn cX1_portOn 4 (some .int), .fieldLink RX1 7 "WireWaysModel" "wireOf" "[I", .methodLink RX1 47 yX1_by, .instanceMethod yX1_by, .selects RX1 yX1_by yX1_by, .code yX1_by cX1_by 5 (some .int), .fieldLink RX1 13 "WireWaysModel" "costOf" "[I"] ++ wsX10)
def wsX1_isAsked_r1 : List Cond := [Cond.methodLink RX1 27 yX1_isRouter, Cond.instanceMethod yX1_isRouter, Cond.selects RX1 yX1_isRouter yX1_isRouter, Cond.initialized RX1, Cond.code yX1_isRouter cX1_isRouter 2 (some .boolean), Cond.fieldLink RX1 23 "WireWaysModel" "routers" "I", Cond.methodLink RX1 35 yX1_isWire, Cond.static yX1_isWire, Cond.code yX1_isWire cX1_isWire 1 (some .boolean), Cond.methodLink RX1 57 yX1_reckon, Cond.instanceMethod yX1_reckon, Cond.selects RX1 yX1_reckon yX1_reckon, Cond.code yX1_reckon cX1_reckon 7 none, Cond.fieldLink RX1 20 "WireWaysModel" "distance" "[I", Cond.constant RX1 42 (100000), Cond.methodLink RX1 43 yX1_isAt, Cond.instanceMethod yX1_isAt, Cond.selects RX1 yX1_isAt yX1_isAt, Cond.code yX1_isAt cX1_isAt 4 (some .boolean), Cond.fieldLink RX1 16 "WireWaysModel" "isCut" "[Z", Cond.methodLink RX1 38 yX1_portOn, Cond.instanceMethod yX1_portOn, Cond.selects RX1 yX1_portOn yX1_portOn, Cond.code yX1_portOn cX1_portOn 4 (some .int)]
def wsX1_isAsked_r2 : List Cond := [Cond.fieldLink RX1 7 "WireWaysModel" "wireOf" "[I", Cond.methodLink RX1 47 yX1_by, Cond.instanceMethod yX1_by, Cond.selects RX1 yX1_by yX1_by, Cond.code yX1_by cX1_by 5 (some .int), Cond.fieldLink RX1 13 "WireWaysModel" "costOf" "[I", Cond.methodLink RX1 61 yX1_choose, Cond.instanceMethod yX1_choose, Cond.selects RX1 yX1_choose yX1_choose, Cond.code yX1_choose cX1_choose 7 none, Cond.fieldLink RX1 51 "WireWaysModel" "wayPort" "I", Cond.fieldLink RX1 54 "WireWaysModel" "wayRouter" "I"]
def wsX1_isAsked : List Cond := .code yX1_isAsked cX1_isAsked 4 (some .boolean) :: ((wsX1_isAsked_r1 ++ wsX1_isAsked_r2) ++ wsX10)
def wsX1_far_r1 : List Cond := [Cond.fieldLink RX1 20 "WireWaysModel" "distance" "[I", Cond.constant RX1 42 (100000), Cond.methodLink RX1 65 yX1_isAsked, Cond.instanceMethod yX1_isAsked, Cond.selects RX1 yX1_isAsked yX1_isAsked, Cond.initialized RX1, Cond.code yX1_isAsked cX1_isAsked 4 (some .boolean), Cond.methodLink RX1 27 yX1_isRouter, Cond.instanceMethod yX1_isRouter, Cond.selects RX1 yX1_isRouter yX1_isRouter, Cond.code yX1_isRouter cX1_isRouter 2 (some .boolean), Cond.fieldLink RX1 23 "WireWaysModel" "routers" "I", Cond.methodLink RX1 35 yX1_isWire, Cond.static yX1_isWire, Cond.code yX1_isWire cX1_isWire 1 (some .boolean), Cond.methodLink RX1 57 yX1_reckon, Cond.instanceMethod yX1_reckon, Cond.selects RX1 yX1_reckon yX1_reckon, Cond.code yX1_reckon cX1_reckon 7 none, Cond.methodLink RX1 43 yX1_isAt, Cond.instanceMethod yX1_isAt, Cond.selects RX1 yX1_isAt yX1_isAt, Cond.code yX1_isAt cX1_isAt 4 (some .boolean), Cond.fieldLink RX1 16 "WireWaysModel" "isCut" "[Z"]
def wsX1_far_r2 : List Cond := [Cond.methodLink RX1 38 yX1_portOn, Cond.instanceMethod yX1_portOn, Cond.selects RX1 yX1_portOn yX1_portOn, Cond.code yX1_portOn cX1_portOn 4 (some .int), Cond.fieldLink RX1 7 "WireWaysModel" "wireOf" "[I", Cond.methodLink RX1 47 yX1_by, Cond.instanceMethod yX1_by, Cond.selects RX1 yX1_by yX1_by, Cond.code yX1_by cX1_by 5 (some .int), Cond.fieldLink RX1 13 "WireWaysModel" "costOf" "[I", Cond.methodLink RX1 61 yX1_choose, Cond.instanceMethod yX1_choose, Cond.selects RX1 yX1_choose yX1_choose, Cond.code yX1_choose cX1_choose 7 none, Cond.fieldLink RX1 51 "WireWaysModel" "wayPort" "I", Cond.fieldLink RX1 54 "WireWaysModel" "wayRouter" "I"]
def wsX1_far : List Cond := .code yX1_far cX1_far 4 (some .int) :: ((wsX1_far_r1 ++ wsX1_far_r2) ++ wsX10)
def wsX1_port_r1 : List Cond := [Cond.fieldLink RX1 51 "WireWaysModel" "wayPort" "I", Cond.methodLink RX1 65 yX1_isAsked, Cond.instanceMethod yX1_isAsked, Cond.selects RX1 yX1_isAsked yX1_isAsked, Cond.initialized RX1, Cond.code yX1_isAsked cX1_isAsked 4 (some .boolean), Cond.methodLink RX1 27 yX1_isRouter, Cond.instanceMethod yX1_isRouter, Cond.selects RX1 yX1_isRouter yX1_isRouter, Cond.code yX1_isRouter cX1_isRouter 2 (some .boolean), Cond.fieldLink RX1 23 "WireWaysModel" "routers" "I", Cond.methodLink RX1 35 yX1_isWire, Cond.static yX1_isWire, Cond.code yX1_isWire cX1_isWire 1 (some .boolean), Cond.methodLink RX1 57 yX1_reckon, Cond.instanceMethod yX1_reckon, Cond.selects RX1 yX1_reckon yX1_reckon, Cond.code yX1_reckon cX1_reckon 7 none, Cond.fieldLink RX1 20 "WireWaysModel" "distance" "[I", Cond.constant RX1 42 (100000), Cond.methodLink RX1 43 yX1_isAt, Cond.instanceMethod yX1_isAt, Cond.selects RX1 yX1_isAt yX1_isAt, Cond.code yX1_isAt cX1_isAt 4 (some .boolean)]
def wsX1_port_r2 : List Cond := [Cond.fieldLink RX1 16 "WireWaysModel" "isCut" "[Z", Cond.methodLink RX1 38 yX1_portOn, Cond.instanceMethod yX1_portOn, Cond.selects RX1 yX1_portOn yX1_portOn, Cond.code yX1_portOn cX1_portOn 4 (some .int), Cond.fieldLink RX1 7 "WireWaysModel" "wireOf" "[I", Cond.methodLink RX1 47 yX1_by, Cond.instanceMethod yX1_by, Cond.selects RX1 yX1_by yX1_by, Cond.code yX1_by cX1_by 5 (some .int), Cond.fieldLink RX1 13 "WireWaysModel" "costOf" "[I", Cond.methodLink RX1 61 yX1_choose, Cond.instanceMethod yX1_choose, Cond.selects RX1 yX1_choose yX1_choose, Cond.code yX1_choose cX1_choose 7 none, Cond.fieldLink RX1 54 "WireWaysModel" "wayRouter" "I"]
def wsX1_port : List Cond := .code yX1_port cX1_port 4 (some .int) :: ((wsX1_port_r1 ++ wsX1_port_r2) ++ wsX10)
def wsX1_next_r1 : List Cond := [Cond.fieldLink RX1 54 "WireWaysModel" "wayRouter" "I", Cond.methodLink RX1 65 yX1_isAsked, Cond.instanceMethod yX1_isAsked, Cond.selects RX1 yX1_isAsked yX1_isAsked, Cond.initialized RX1, Cond.code yX1_isAsked cX1_isAsked 4 (some .boolean), Cond.methodLink RX1 27 yX1_isRouter, Cond.instanceMethod yX1_isRouter, Cond.selects RX1 yX1_isRouter yX1_isRouter, Cond.code yX1_isRouter cX1_isRouter 2 (some .boolean), Cond.fieldLink RX1 23 "WireWaysModel" "routers" "I", Cond.methodLink RX1 35 yX1_isWire, Cond.static yX1_isWire, Cond.code yX1_isWire cX1_isWire 1 (some .boolean), Cond.methodLink RX1 57 yX1_reckon, Cond.instanceMethod yX1_reckon, Cond.selects RX1 yX1_reckon yX1_reckon, Cond.code yX1_reckon cX1_reckon 7 none, Cond.fieldLink RX1 20 "WireWaysModel" "distance" "[I", Cond.constant RX1 42 (100000), Cond.methodLink RX1 43 yX1_isAt, Cond.instanceMethod yX1_isAt, Cond.selects RX1 yX1_isAt yX1_isAt, Cond.code yX1_isAt cX1_isAt 4 (some .boolean)]
def wsX1_next_r2 : List Cond := [Cond.fieldLink RX1 16 "WireWaysModel" "isCut" "[Z", Cond.methodLink RX1 38 yX1_portOn, Cond.instanceMethod yX1_portOn, Cond.selects RX1 yX1_portOn yX1_portOn, Cond.code yX1_portOn cX1_portOn 4 (some .int), Cond.fieldLink RX1 7 "WireWaysModel" "wireOf" "[I", Cond.methodLink RX1 47 yX1_by, Cond.instanceMethod yX1_by, Cond.selects RX1 yX1_by yX1_by, Cond.code yX1_by cX1_by 5 (some .int), Cond.fieldLink RX1 13 "WireWaysModel" "costOf" "[I", Cond.methodLink RX1 61 yX1_choose, Cond.instanceMethod yX1_choose, Cond.selects RX1 yX1_choose yX1_choose, Cond.code yX1_choose cX1_choose 7 none, Cond.fieldLink RX1 51 "WireWaysModel" "wayPort" "I"]
def wsX1_next : List Cond := .code yX1_next cX1_next 4 (some .int) :: ((wsX1_next_r1 ++ wsX1_next_r2) ++ wsX10)
def wsX1_walk_r1 : List Cond := [Cond.fieldLink RX1 54 "WireWaysModel" "wayRouter" "I", Cond.methodLink RX1 68 yX1_far, Cond.instanceMethod yX1_far, Cond.selects RX1 yX1_far yX1_far, Cond.initialized RX1, Cond.code yX1_far cX1_far 4 (some .int), Cond.fieldLink RX1 20 "WireWaysModel" "distance" "[I", Cond.constant RX1 42 (100000), Cond.methodLink RX1 65 yX1_isAsked, Cond.instanceMethod yX1_isAsked, Cond.selects RX1 yX1_isAsked yX1_isAsked, Cond.code yX1_isAsked cX1_isAsked 4 (some .boolean), Cond.methodLink RX1 27 yX1_isRouter, Cond.instanceMethod yX1_isRouter, Cond.selects RX1 yX1_isRouter yX1_isRouter, Cond.code yX1_isRouter cX1_isRouter 2 (some .boolean), Cond.fieldLink RX1 23 "WireWaysModel" "routers" "I", Cond.methodLink RX1 35 yX1_isWire, Cond.static yX1_isWire, Cond.code yX1_isWire cX1_isWire 1 (some .boolean), Cond.methodLink RX1 57 yX1_reckon, Cond.instanceMethod yX1_reckon, Cond.selects RX1 yX1_reckon yX1_reckon, Cond.code yX1_reckon cX1_reckon 7 none]
def wsX1_walk_r2 : List Cond := [Cond.methodLink RX1 43 yX1_isAt, Cond.instanceMethod yX1_isAt, Cond.selects RX1 yX1_isAt yX1_isAt, Cond.code yX1_isAt cX1_isAt 4 (some .boolean), Cond.fieldLink RX1 16 "WireWaysModel" "isCut" "[Z", Cond.methodLink RX1 38 yX1_portOn, Cond.instanceMethod yX1_portOn, Cond.selects RX1 yX1_portOn yX1_portOn, Cond.code yX1_portOn cX1_portOn 4 (some .int), Cond.fieldLink RX1 7 "WireWaysModel" "wireOf" "[I", Cond.methodLink RX1 47 yX1_by, Cond.instanceMethod yX1_by, Cond.selects RX1 yX1_by yX1_by, Cond.code yX1_by cX1_by 5 (some .int), Cond.fieldLink RX1 13 "WireWaysModel" "costOf" "[I", Cond.methodLink RX1 61 yX1_choose, Cond.instanceMethod yX1_choose, Cond.selects RX1 yX1_choose yX1_choose, Cond.code yX1_choose cX1_choose 7 none, Cond.fieldLink RX1 51 "WireWaysModel" "wayPort" "I"]
def wsX1_walk : List Cond := .code yX1_walk cX1_walk 7 (some .int) :: ((wsX1_walk_r1 ++ wsX1_walk_r2) ++ wsX10)
def wsX1_reach_r1 : List Cond := [Cond.fieldLink RX1 23 "WireWaysModel" "routers" "I", Cond.methodLink RX1 27 yX1_isRouter, Cond.instanceMethod yX1_isRouter, Cond.selects RX1 yX1_isRouter yX1_isRouter, Cond.initialized RX1, Cond.code yX1_isRouter cX1_isRouter 2 (some .boolean), Cond.methodLink RX1 68 yX1_far, Cond.instanceMethod yX1_far, Cond.selects RX1 yX1_far yX1_far, Cond.code yX1_far cX1_far 4 (some .int), Cond.fieldLink RX1 20 "WireWaysModel" "distance" "[I", Cond.constant RX1 42 (100000), Cond.methodLink RX1 65 yX1_isAsked, Cond.instanceMethod yX1_isAsked, Cond.selects RX1 yX1_isAsked yX1_isAsked, Cond.code yX1_isAsked cX1_isAsked 4 (some .boolean), Cond.methodLink RX1 35 yX1_isWire, Cond.static yX1_isWire, Cond.code yX1_isWire cX1_isWire 1 (some .boolean), Cond.methodLink RX1 57 yX1_reckon, Cond.instanceMethod yX1_reckon, Cond.selects RX1 yX1_reckon yX1_reckon, Cond.code yX1_reckon cX1_reckon 7 none, Cond.methodLink RX1 43 yX1_isAt]
def wsX1_reach_r2 : List Cond := [Cond.instanceMethod yX1_isAt, Cond.selects RX1 yX1_isAt yX1_isAt, Cond.code yX1_isAt cX1_isAt 4 (some .boolean), Cond.fieldLink RX1 16 "WireWaysModel" "isCut" "[Z", Cond.methodLink RX1 38 yX1_portOn, Cond.instanceMethod yX1_portOn, Cond.selects RX1 yX1_portOn yX1_portOn, Cond.code yX1_portOn cX1_portOn 4 (some .int), Cond.fieldLink RX1 7 "WireWaysModel" "wireOf" "[I", Cond.methodLink RX1 47 yX1_by, Cond.instanceMethod yX1_by, Cond.selects RX1 yX1_by yX1_by, Cond.code yX1_by cX1_by 5 (some .int), Cond.fieldLink RX1 13 "WireWaysModel" "costOf" "[I", Cond.methodLink RX1 61 yX1_choose, Cond.instanceMethod yX1_choose, Cond.selects RX1 yX1_choose yX1_choose, Cond.code yX1_choose cX1_choose 7 none, Cond.fieldLink RX1 51 "WireWaysModel" "wayPort" "I", Cond.fieldLink RX1 54 "WireWaysModel" "wayRouter" "I"]
def wsX1_reach : List Cond := .code yX1_reach cX1_reach 4 (some .int) :: ((wsX1_reach_r1 ++ wsX1_reach_r2) ++ wsX10)
def wsX1_greatest : List Cond := .code yX1_greatest cX1_greatest 4 (some .int) :: ([.fieldLink RX1 23 "WireWaysModel" "routers" "I", .fieldLink RX1 20 "WireWaysModel" "distance" "[I", .constant RX1 42 (100000), .methodLink RX1 57 yX1_reckon, .instanceMethod yX1_reckon, .selects RX1 yX1_reckon yX1_reckon, .initialized RX1, .code yX1_reckon cX1_reckon 7 none, .methodLink RX1 43 yX1_isAt, .instanceMethod yX1_isAt, .selects RX1 yX1_isAt yX1_isAt, .code yX1_isAt cX1_isAt 4 (some .boolean), .fieldLink RX1 16 "WireWaysModel" "isCut" "[Z", .methodLink RX1 38 yX1_portOn, .instanceMethod yX1_portOn, .selects RX1 yX1_portOn yX1_portOn, .code yX1_portOn cX1_portOn 4 (some .int), .fieldLink RX1 7 "WireWaysModel" "wireOf" "[I", .methodLink RX1 47 yX1_by, .instanceMethod yX1_by, .selects RX1 yX1_by yX1_by, .code yX1_by cX1_by 5 (some .int), .fieldLink RX1 13 "WireWaysModel" "costOf" "[I"] ++ wsX10)
def wsX1_count_r1 : List Cond := [Cond.fieldLink RX1 23 "WireWaysModel" "routers" "I", Cond.fieldLink RX1 7 "WireWaysModel" "wireOf" "[I", Cond.fieldLink RX1 16 "WireWaysModel" "isCut" "[Z", Cond.methodLink RX1 72 yX1_greatest, Cond.instanceMethod yX1_greatest, Cond.selects RX1 yX1_greatest yX1_greatest, Cond.initialized RX1, Cond.code yX1_greatest cX1_greatest 4 (some .int), Cond.fieldLink RX1 20 "WireWaysModel" "distance" "[I", Cond.constant RX1 42 (100000), Cond.methodLink RX1 57 yX1_reckon, Cond.instanceMethod yX1_reckon, Cond.selects RX1 yX1_reckon yX1_reckon, Cond.code yX1_reckon cX1_reckon 7 none, Cond.methodLink RX1 43 yX1_isAt, Cond.instanceMethod yX1_isAt, Cond.selects RX1 yX1_isAt yX1_isAt, Cond.code yX1_isAt cX1_isAt 4 (some .boolean), Cond.methodLink RX1 38 yX1_portOn, Cond.instanceMethod yX1_portOn, Cond.selects RX1 yX1_portOn yX1_portOn, Cond.code yX1_portOn cX1_portOn 4 (some .int), Cond.methodLink RX1 47 yX1_by, Cond.instanceMethod yX1_by]
def wsX1_count_r2 : List Cond := [Cond.selects RX1 yX1_by yX1_by, Cond.code yX1_by cX1_by 5 (some .int), Cond.fieldLink RX1 13 "WireWaysModel" "costOf" "[I"]
def wsX1_count : List Cond := .code yX1_count cX1_count 4 (some .int) :: ((wsX1_count_r1 ++ wsX1_count_r2) ++ wsX10)
def wsJ9_max_7cf53 : List Cond := .code yJ9_max_7cf53 cJ9_max_7cf53 2 (some .int) :: ([])
def wsJ9_min_7cf53 : List Cond := .code yJ9_min_7cf53 cJ9_min_7cf53 2 (some .int) :: ([])
def wsL_cell : List Cond := .code yL_cell cL_cell 2 (some .int) :: ([])
def wsL_law_r1 : List Cond := [Cond.classLink RL 7 RX0, Cond.instantiable RX0 8, Cond.initialized RX0, Cond.classLink RL 18 RX1, Cond.instantiable RX1 7, Cond.initialized RX1, Cond.methodLink RL 9 yL_cell, Cond.static yL_cell, Cond.initialized RL, Cond.code yL_cell cL_cell 2 (some .int), Cond.methodLink RL 15 yX0_init, Cond.instanceMethod yX0_init, Cond.code yX0_init cX0_init 3 none, Cond.methodLink RX0 1 objectInit, Cond.instanceMethod objectInit, Cond.code objectInit ⟨#[0xb1]⟩ 1 none, Cond.methodLink RX0 9 Lib.Math.min.name, Cond.static Lib.Math.min.name, Cond.initialized "java/lang/Math", Cond.code Lib.Math.min.name Lib.Math.min.code 2 (some .int), Cond.methodLink RX0 15 Lib.Math.max.name, Cond.static Lib.Math.max.name, Cond.code Lib.Math.max.name Lib.Math.max.code 2 (some .int), Cond.fieldLink RX0 18 "WireWays" "routers" "I"]
def wsL_law_r2 : List Cond := [Cond.arrayClass .int, Cond.fieldLink RX0 22 "WireWays" "wireAt" "[I", Cond.fieldLink RX0 26 "WireWays" "costAt" "[I", Cond.arrayClass .boolean, Cond.fieldLink RX0 29 "WireWays" "isCut" "[Z", Cond.fieldLink RX0 33 "WireWays" "distance" "[I", Cond.fieldLink RX0 36 "WireWays" "nearest" "[I", Cond.fieldLink RX0 39 "WireWays" "wayPort" "I", Cond.fieldLink RX0 42 "WireWays" "wayRouter" "I", Cond.methodLink RL 20 yX1_init, Cond.instanceMethod yX1_init, Cond.code yX1_init cX1_init 3 none, Cond.methodLink RX1 1 objectInit, Cond.fieldLink RX1 7 "WireWaysModel" "wireOf" "[I", Cond.fieldLink RX1 13 "WireWaysModel" "costOf" "[I", Cond.fieldLink RX1 16 "WireWaysModel" "isCut" "[Z", Cond.fieldLink RX1 20 "WireWaysModel" "distance" "[I", Cond.fieldLink RX1 23 "WireWaysModel" "routers" "I", Cond.methodLink RL 21 yX0_plug, Cond.instanceMethod yX0_plug, Cond.selects RX0 yX0_plug yX0_plug, Cond.code yX0_plug cX0_plug 6 (some .boolean), Cond.methodLink RX0 45 yX0_isPort, Cond.instanceMethod yX0_isPort]
def wsL_law_r3 : List Cond := [Cond.selects RX0 yX0_isPort yX0_isPort, Cond.code yX0_isPort cX0_isPort 3 (some .boolean), Cond.methodLink RX0 76 yX0_isRouter, Cond.instanceMethod yX0_isRouter, Cond.selects RX0 yX0_isRouter yX0_isRouter, Cond.code yX0_isRouter cX0_isRouter 2 (some .boolean), Cond.methodLink RX0 49 yX0_isWire, Cond.static yX0_isWire, Cond.code yX0_isWire cX0_isWire 1 (some .boolean), Cond.methodLink RX0 53 yX0_isCost, Cond.static yX0_isCost, Cond.code yX0_isCost cX0_isCost 1 (some .boolean), Cond.methodLink RX0 56 yX0_placeOf, Cond.static yX0_placeOf, Cond.code yX0_placeOf cX0_placeOf 2 (some .int), Cond.methodLink RX0 59 yX0_portOn, Cond.instanceMethod yX0_portOn, Cond.selects RX0 yX0_portOn yX0_portOn, Cond.code yX0_portOn cX0_portOn 4 (some .int), Cond.methodLink RL 25 yX1_plug, Cond.instanceMethod yX1_plug, Cond.selects RX1 yX1_plug yX1_plug, Cond.code yX1_plug cX1_plug 5 (some .boolean), Cond.methodLink RX1 31 yX1_isPlace]
def wsL_law_r4 : List Cond := [Cond.instanceMethod yX1_isPlace, Cond.selects RX1 yX1_isPlace yX1_isPlace, Cond.code yX1_isPlace cX1_isPlace 3 (some .boolean), Cond.methodLink RX1 27 yX1_isRouter, Cond.instanceMethod yX1_isRouter, Cond.selects RX1 yX1_isRouter yX1_isRouter, Cond.code yX1_isRouter cX1_isRouter 2 (some .boolean), Cond.methodLink RX1 35 yX1_isWire, Cond.static yX1_isWire, Cond.code yX1_isWire cX1_isWire 1 (some .boolean), Cond.methodLink RX1 38 yX1_portOn, Cond.instanceMethod yX1_portOn, Cond.selects RX1 yX1_portOn yX1_portOn, Cond.code yX1_portOn cX1_portOn 4 (some .int), Cond.methodLink RL 26 yX0_draw, Cond.instanceMethod yX0_draw, Cond.selects RX0 yX0_draw yX0_draw, Cond.code yX0_draw cX0_draw 3 (some .boolean), Cond.methodLink RX0 62 yX0_isPluggedPort, Cond.instanceMethod yX0_isPluggedPort, Cond.selects RX0 yX0_isPluggedPort yX0_isPluggedPort, Cond.code yX0_isPluggedPort cX0_isPluggedPort 3 (some .boolean), Cond.methodLink RL 30 yX1_draw, Cond.instanceMethod yX1_draw]
def wsL_law_r5 : List Cond := [Cond.selects RX1 yX1_draw yX1_draw, Cond.code yX1_draw cX1_draw 3 (some .boolean), Cond.methodLink RL 31 yX0_cost, Cond.instanceMethod yX0_cost, Cond.selects RX0 yX0_cost yX0_cost, Cond.code yX0_cost cX0_cost 6 (some .int), Cond.methodLink RL 35 yX1_cost, Cond.instanceMethod yX1_cost, Cond.selects RX1 yX1_cost yX1_cost, Cond.code yX1_cost cX1_cost 5 (some .int), Cond.methodLink RL 36 yX0_cut, Cond.instanceMethod yX0_cut, Cond.selects RX0 yX0_cut yX0_cut, Cond.code yX0_cut cX0_cut 2 (some .boolean), Cond.methodLink RX0 65 yX0_isUp, Cond.instanceMethod yX0_isUp, Cond.selects RX0 yX0_isUp yX0_isUp, Cond.code yX0_isUp cX0_isUp 2 (some .boolean), Cond.methodLink RL 40 yX1_cut, Cond.instanceMethod yX1_cut, Cond.selects RX1 yX1_cut yX1_cut, Cond.code yX1_cut cX1_cut 2 (some .boolean), Cond.methodLink RL 41 yX0_mend, Cond.instanceMethod yX0_mend]
def wsL_law_r6 : List Cond := [Cond.selects RX0 yX0_mend yX0_mend, Cond.code yX0_mend cX0_mend 2 (some .boolean), Cond.methodLink RL 44 yX1_mend, Cond.instanceMethod yX1_mend, Cond.selects RX1 yX1_mend yX1_mend, Cond.code yX1_mend cX1_mend 2 (some .boolean), Cond.methodLink RL 45 yX0_far, Cond.instanceMethod yX0_far, Cond.selects RX0 yX0_far yX0_far, Cond.code yX0_far cX0_far 4 (some .int), Cond.methodLink RX0 68 yX0_canCome, Cond.instanceMethod yX0_canCome, Cond.selects RX0 yX0_canCome yX0_canCome, Cond.code yX0_canCome cX0_canCome 4 (some .boolean), Cond.constant RX0 83 (1000000), Cond.methodLink RX0 94 yX0_isAim, Cond.instanceMethod yX0_isAim, Cond.selects RX0 yX0_isAim yX0_isAim, Cond.code yX0_isAim cX0_isAim 3 (some .boolean), Cond.methodLink RX0 79 yX0_measure, Cond.instanceMethod yX0_measure, Cond.selects RX0 yX0_measure yX0_measure, Cond.code yX0_measure cX0_measure 5 none, Cond.methodLink RX0 98 yX0_findNearest]
def wsL_law_r7 : List Cond := [Cond.instanceMethod yX0_findNearest, Cond.selects RX0 yX0_findNearest yX0_findNearest, Cond.code yX0_findNearest cX0_findNearest 4 none, Cond.methodLink RX0 101 yX0_shortenDistances, Cond.instanceMethod yX0_shortenDistances, Cond.selects RX0 yX0_shortenDistances yX0_shortenDistances, Cond.code yX0_shortenDistances cX0_shortenDistances 6 (some .boolean), Cond.methodLink RL 49 yX1_far, Cond.instanceMethod yX1_far, Cond.selects RX1 yX1_far yX1_far, Cond.code yX1_far cX1_far 4 (some .int), Cond.constant RX1 42 (100000), Cond.methodLink RX1 65 yX1_isAsked, Cond.instanceMethod yX1_isAsked, Cond.selects RX1 yX1_isAsked yX1_isAsked, Cond.code yX1_isAsked cX1_isAsked 4 (some .boolean), Cond.methodLink RX1 57 yX1_reckon, Cond.instanceMethod yX1_reckon, Cond.selects RX1 yX1_reckon yX1_reckon, Cond.code yX1_reckon cX1_reckon 7 none, Cond.methodLink RX1 43 yX1_isAt, Cond.instanceMethod yX1_isAt, Cond.selects RX1 yX1_isAt yX1_isAt, Cond.code yX1_isAt cX1_isAt 4 (some .boolean)]
def wsL_law_r8 : List Cond := [Cond.methodLink RX1 47 yX1_by, Cond.instanceMethod yX1_by, Cond.selects RX1 yX1_by yX1_by, Cond.code yX1_by cX1_by 5 (some .int), Cond.methodLink RX1 61 yX1_choose, Cond.instanceMethod yX1_choose, Cond.selects RX1 yX1_choose yX1_choose, Cond.code yX1_choose cX1_choose 7 none, Cond.fieldLink RX1 51 "WireWaysModel" "wayPort" "I", Cond.fieldLink RX1 54 "WireWaysModel" "wayRouter" "I", Cond.methodLink RL 50 yX0_port, Cond.instanceMethod yX0_port, Cond.selects RX0 yX0_port yX0_port, Cond.code yX0_port cX0_port 4 (some .int), Cond.methodLink RX0 72 yX0_findWay, Cond.instanceMethod yX0_findWay, Cond.selects RX0 yX0_findWay yX0_findWay, Cond.code yX0_findWay cX0_findWay 8 none, Cond.methodLink RX0 105 yX0_nearestOther, Cond.instanceMethod yX0_nearestOther, Cond.selects RX0 yX0_nearestOther yX0_nearestOther, Cond.code yX0_nearestOther cX0_nearestOther 6 (some .int), Cond.methodLink RL 53 yX1_port, Cond.instanceMethod yX1_port]
def wsL_law_r9 : List Cond := [Cond.selects RX1 yX1_port yX1_port, Cond.code yX1_port cX1_port 4 (some .int), Cond.methodLink RL 54 yX0_next, Cond.instanceMethod yX0_next, Cond.selects RX0 yX0_next yX0_next, Cond.code yX0_next cX0_next 4 (some .int), Cond.methodLink RL 57 yX1_next, Cond.instanceMethod yX1_next, Cond.selects RX1 yX1_next yX1_next, Cond.code yX1_next cX1_next 4 (some .int), Cond.methodLink RL 58 yX0_walk, Cond.instanceMethod yX0_walk, Cond.selects RX0 yX0_walk yX0_walk, Cond.code yX0_walk cX0_walk 7 (some .int), Cond.methodLink RL 62 yX1_walk, Cond.instanceMethod yX1_walk, Cond.selects RX1 yX1_walk yX1_walk, Cond.code yX1_walk cX1_walk 7 (some .int), Cond.methodLink RX1 68 yX1_far, Cond.methodLink RL 63 yX0_reach, Cond.instanceMethod yX0_reach, Cond.selects RX0 yX0_reach yX0_reach, Cond.code yX0_reach cX0_reach 4 (some .int), Cond.methodLink RL 67 yX1_reach]
def wsL_law_r10 : List Cond := [Cond.instanceMethod yX1_reach, Cond.selects RX1 yX1_reach yX1_reach, Cond.code yX1_reach cX1_reach 4 (some .int), Cond.methodLink RL 68 yX0_count, Cond.instanceMethod yX0_count, Cond.selects RX0 yX0_count yX0_count, Cond.code yX0_count cX0_count 2 (some .int), Cond.methodLink RX0 84 yX0_pluggedPorts, Cond.instanceMethod yX0_pluggedPorts, Cond.selects RX0 yX0_pluggedPorts yX0_pluggedPorts, Cond.code yX0_pluggedPorts cX0_pluggedPorts 3 (some .int), Cond.methodLink RX0 88 yX0_cutWires, Cond.instanceMethod yX0_cutWires, Cond.selects RX0 yX0_cutWires yX0_cutWires, Cond.code yX0_cutWires cX0_cutWires 3 (some .int), Cond.methodLink RX0 91 yX0_greatestDistance, Cond.instanceMethod yX0_greatestDistance, Cond.selects RX0 yX0_greatestDistance yX0_greatestDistance, Cond.code yX0_greatestDistance cX0_greatestDistance 4 (some .int), Cond.methodLink RL 71 yX1_count, Cond.instanceMethod yX1_count, Cond.selects RX1 yX1_count yX1_count, Cond.code yX1_count cX1_count 4 (some .int), Cond.methodLink RX1 72 yX1_greatest]
def wsL_law_r11 : List Cond := [Cond.instanceMethod yX1_greatest, Cond.selects RX1 yX1_greatest yX1_greatest, Cond.code yX1_greatest cX1_greatest 4 (some .int)]
def wsL_law : List Cond := (wsL_law_r1 ++ (wsL_law_r2 ++ (wsL_law_r3 ++ (wsL_law_r4 ++ (wsL_law_r5 ++ (wsL_law_r6 ++ (wsL_law_r7 ++ (wsL_law_r8 ++ (wsL_law_r9 ++ (wsL_law_r10 ++ wsL_law_r11)))))))))) ++ wsX00 ++ wsX10 ++ ([] : List Cond)
set_option maxRecDepth 20000 in
theorem wsL_law_in : ∀ w ∈ wsL_law, w ∈ lw_tbl := fun w h => (goodIn_p wsL_law [185, 32, 35, 38, 41, 190, 72, 76, 80, 83, 86, 89, 93, 217, 221, 225, 228, 232, 97, 101, 236, 105, 240, 109, 113, 244, 117, 248, 121, 125, 129, 133, 138, 142, 252, 256, 260, 264, 269, 273, 146, 150, 154, 277, 158, 281, 162, 285, 166, 290, 170, 174, 178, 182, 294, 298] (by decide +kernel) (by decide +kernel) w h).1
theorem inlX0 : ∀ w ∈ wsX00, w ∈ wsL_law := fun _ h => List.mem_append_left _ (List.mem_append_left _ (List.mem_append_right _ h))
theorem inX0 : ∀ w ∈ wsX00, w ∈ lw_tbl := fun w h => wsL_law_in w (inlX0 w h)
theorem inlX1 : ∀ w ∈ wsX10, w ∈ wsL_law := fun _ h => List.mem_append_left _ (List.mem_append_right _ h)
theorem inX1 : ∀ w ∈ wsX10, w ∈ lw_tbl := fun w h => wsL_law_in w (inlX1 w h)
theorem inJ9 : ∀ w ∈ wsJ90, w ∈ lw_tbl := by decide +kernel
theorem dX0_init_0 : decode cX0_init 0 = .ok (.aload_n 0, 1) := by decide +kernel
theorem dX0_init_1 : decode cX0_init 1 = .ok (.invokespecial 1, 3) := by decide +kernel
theorem dX0_init_4 : decode cX0_init 4 = .ok (.aload_n 0, 1) := by decide +kernel
theorem dX0_init_5 : decode cX0_init 5 = .ok (.iconst 1, 1) := by decide +kernel
theorem dX0_init_6 : decode cX0_init 6 = .ok (.bipush 10, 2) := by decide +kernel
theorem dX0_init_8 : decode cX0_init 8 = .ok (.iload_n 1, 1) := by decide +kernel
theorem dX0_init_9 : decode cX0_init 9 = .ok (.invokestatic 9, 3) := by decide +kernel
theorem dX0_init_12 : decode cX0_init 12 = .ok (.invokestatic 15, 3) := by decide +kernel
theorem dX0_init_15 : decode cX0_init 15 = .ok (.putfield 18, 3) := by decide +kernel
theorem dX0_init_18 : decode cX0_init 18 = .ok (.aload_n 0, 1) := by decide +kernel
theorem dX0_init_19 : decode cX0_init 19 = .ok (.bipush 40, 2) := by decide +kernel
theorem dX0_init_21 : decode cX0_init 21 = .ok (.newarray .int, 2) := by decide +kernel
theorem dX0_init_23 : decode cX0_init 23 = .ok (.putfield 22, 3) := by decide +kernel
theorem dX0_init_26 : decode cX0_init 26 = .ok (.aload_n 0, 1) := by decide +kernel
theorem dX0_init_27 : decode cX0_init 27 = .ok (.bipush 40, 2) := by decide +kernel
theorem dX0_init_29 : decode cX0_init 29 = .ok (.newarray .int, 2) := by decide +kernel
theorem dX0_init_31 : decode cX0_init 31 = .ok (.putfield 26, 3) := by decide +kernel
theorem dX0_init_34 : decode cX0_init 34 = .ok (.aload_n 0, 1) := by decide +kernel
theorem dX0_init_35 : decode cX0_init 35 = .ok (.bipush 16, 2) := by decide +kernel
theorem dX0_init_37 : decode cX0_init 37 = .ok (.newarray .boolean, 2) := by decide +kernel
theorem dX0_init_39 : decode cX0_init 39 = .ok (.putfield 29, 3) := by decide +kernel
theorem dX0_init_42 : decode cX0_init 42 = .ok (.aload_n 0, 1) := by decide +kernel
theorem dX0_init_43 : decode cX0_init 43 = .ok (.bipush 10, 2) := by decide +kernel
theorem dX0_init_45 : decode cX0_init 45 = .ok (.newarray .int, 2) := by decide +kernel
theorem dX0_init_47 : decode cX0_init 47 = .ok (.putfield 33, 3) := by decide +kernel
theorem dX0_init_50 : decode cX0_init 50 = .ok (.aload_n 0, 1) := by decide +kernel
theorem dX0_init_51 : decode cX0_init 51 = .ok (.bipush 16, 2) := by decide +kernel
theorem dX0_init_53 : decode cX0_init 53 = .ok (.newarray .int, 2) := by decide +kernel
theorem dX0_init_55 : decode cX0_init 55 = .ok (.putfield 36, 3) := by decide +kernel
theorem dX0_init_58 : decode cX0_init 58 = .ok (.aload_n 0, 1) := by decide +kernel
theorem dX0_init_59 : decode cX0_init 59 = .ok (.iconst (-1), 1) := by decide +kernel
theorem dX0_init_60 : decode cX0_init 60 = .ok (.putfield 39, 3) := by decide +kernel
theorem dX0_init_63 : decode cX0_init 63 = .ok (.aload_n 0, 1) := by decide +kernel
theorem dX0_init_64 : decode cX0_init 64 = .ok (.iconst (-1), 1) := by decide +kernel
theorem dX0_init_65 : decode cX0_init 65 = .ok (.putfield 42, 3) := by decide +kernel
theorem dX0_init_68 : decode cX0_init 68 = .ok (.iconst 0, 1) := by decide +kernel
theorem dX0_init_69 : decode cX0_init 69 = .ok (.istore_n 2, 1) := by decide +kernel
theorem dX0_init_70 : decode cX0_init 70 = .ok (.iload_n 2, 1) := by decide +kernel
theorem dX0_init_71 : decode cX0_init 71 = .ok (.aload_n 0, 1) := by decide +kernel
theorem dX0_init_72 : decode cX0_init 72 = .ok (.getfield 22, 3) := by decide +kernel
theorem dX0_init_75 : decode cX0_init 75 = .ok (.arraylength, 1) := by decide +kernel
theorem dX0_init_76 : decode cX0_init 76 = .ok (.if_icmp .ge 16, 3) := by decide +kernel
theorem dX0_init_79 : decode cX0_init 79 = .ok (.aload_n 0, 1) := by decide +kernel
theorem dX0_init_80 : decode cX0_init 80 = .ok (.getfield 22, 3) := by decide +kernel
theorem dX0_init_83 : decode cX0_init 83 = .ok (.iload_n 2, 1) := by decide +kernel
theorem dX0_init_84 : decode cX0_init 84 = .ok (.iconst (-1), 1) := by decide +kernel
theorem dX0_init_85 : decode cX0_init 85 = .ok (.iastore, 1) := by decide +kernel
theorem dX0_init_86 : decode cX0_init 86 = .ok (.iinc 2 1, 3) := by decide +kernel
theorem dX0_init_89 : decode cX0_init 89 = .ok (.goto (-19), 3) := by decide +kernel
theorem dX0_init_92 : decode cX0_init 92 = .ok (.return_, 1) := by decide +kernel
set_option maxRecDepth 20000 in
theorem ggX0_plug_X0_isPort : GoodIn wsX0_plug wsX0_isPort := goodIn_r _ [7, 8, 9, 10, 6, 11, 12, 26, 27, 28, 29, 30, 31, 32, 33] (by decide +kernel) (by decide +kernel)
set_option maxRecDepth 20000 in
theorem gX0_plug_X0_isPort : GoodIn wsX0_plug (wsV RX0 45 RX0 yX0_isPort wsX0_isPort) := goodIn_app (goodIn_of _ (by decide +kernel)) ggX0_plug_X0_isPort
set_option maxRecDepth 20000 in
theorem ggX0_plug_X0_isWire : GoodIn wsX0_plug wsX0_isWire := goodIn_r _ [15] (by decide +kernel) (by decide +kernel)
set_option maxRecDepth 20000 in
theorem gX0_plug_X0_isWire : GoodIn wsX0_plug (va_wsS RX0 49 yX0_isWire wsX0_isWire) := goodIn_app (goodIn_of _ (by decide +kernel)) ggX0_plug_X0_isWire
set_option maxRecDepth 20000 in
theorem ggX0_plug_X0_isCost : GoodIn wsX0_plug wsX0_isCost := goodIn_r _ [18] (by decide +kernel) (by decide +kernel)
set_option maxRecDepth 20000 in
theorem gX0_plug_X0_isCost : GoodIn wsX0_plug (va_wsS RX0 53 yX0_isCost wsX0_isCost) := goodIn_app (goodIn_of _ (by decide +kernel)) ggX0_plug_X0_isCost
set_option maxRecDepth 20000 in
theorem ggX0_plug_X0_placeOf : GoodIn wsX0_plug wsX0_placeOf := goodIn_r _ [21] (by decide +kernel) (by decide +kernel)
set_option maxRecDepth 20000 in
theorem gX0_plug_X0_placeOf : GoodIn wsX0_plug (va_wsS RX0 56 yX0_placeOf wsX0_placeOf) := goodIn_app (goodIn_of _ (by decide +kernel)) ggX0_plug_X0_placeOf
set_option maxRecDepth 20000 in
theorem ggX0_plug_X0_portOn : GoodIn wsX0_plug wsX0_portOn := goodIn_r _ [25, 1, 19, 20, 6, 21, 26, 27, 28, 29, 30, 31, 32, 33] (by decide +kernel) (by decide +kernel)
set_option maxRecDepth 20000 in
theorem gX0_plug_X0_portOn : GoodIn wsX0_plug (wsV RX0 59 RX0 yX0_portOn wsX0_portOn) := goodIn_app (goodIn_of _ (by decide +kernel)) ggX0_plug_X0_portOn
theorem dX0_plug_0 : decode cX0_plug 0 = .ok (.aload_n 0, 1) := by decide +kernel
theorem dX0_plug_1 : decode cX0_plug 1 = .ok (.iload_n 1, 1) := by decide +kernel
theorem dX0_plug_2 : decode cX0_plug 2 = .ok (.iload_n 2, 1) := by decide +kernel
theorem dX0_plug_3 : decode cX0_plug 3 = .ok (.invokevirtual 45, 3) := by decide +kernel
theorem dX0_plug_6 : decode cX0_plug 6 = .ok (.ifCond .eq 18, 3) := by decide +kernel
theorem dX0_plug_9 : decode cX0_plug 9 = .ok (.iload_n 3, 1) := by decide +kernel
theorem dX0_plug_10 : decode cX0_plug 10 = .ok (.invokestatic 49, 3) := by decide +kernel
theorem dX0_plug_13 : decode cX0_plug 13 = .ok (.ifCond .eq 11, 3) := by decide +kernel
theorem dX0_plug_16 : decode cX0_plug 16 = .ok (.iload 4, 2) := by decide +kernel
theorem dX0_plug_18 : decode cX0_plug 18 = .ok (.invokestatic 53, 3) := by decide +kernel
theorem dX0_plug_21 : decode cX0_plug 21 = .ok (.ifCond .ne 5, 3) := by decide +kernel
theorem dX0_plug_24 : decode cX0_plug 24 = .ok (.iconst 0, 1) := by decide +kernel
theorem dX0_plug_25 : decode cX0_plug 25 = .ok (.ireturn, 1) := by decide +kernel
theorem dX0_plug_26 : decode cX0_plug 26 = .ok (.iload_n 1, 1) := by decide +kernel
theorem dX0_plug_27 : decode cX0_plug 27 = .ok (.iload_n 2, 1) := by decide +kernel
theorem dX0_plug_28 : decode cX0_plug 28 = .ok (.invokestatic 56, 3) := by decide +kernel
theorem dX0_plug_31 : decode cX0_plug 31 = .ok (.istore 5, 2) := by decide +kernel
theorem dX0_plug_33 : decode cX0_plug 33 = .ok (.aload_n 0, 1) := by decide +kernel
theorem dX0_plug_34 : decode cX0_plug 34 = .ok (.getfield 22, 3) := by decide +kernel
theorem dX0_plug_37 : decode cX0_plug 37 = .ok (.iload 5, 2) := by decide +kernel
theorem dX0_plug_39 : decode cX0_plug 39 = .ok (.iaload, 1) := by decide +kernel
theorem dX0_plug_40 : decode cX0_plug 40 = .ok (.invokestatic 49, 3) := by decide +kernel
theorem dX0_plug_43 : decode cX0_plug 43 = .ok (.ifCond .ne 13, 3) := by decide +kernel
theorem dX0_plug_46 : decode cX0_plug 46 = .ok (.aload_n 0, 1) := by decide +kernel
theorem dX0_plug_47 : decode cX0_plug 47 = .ok (.iload_n 1, 1) := by decide +kernel
theorem dX0_plug_48 : decode cX0_plug 48 = .ok (.iload_n 3, 1) := by decide +kernel
theorem dX0_plug_49 : decode cX0_plug 49 = .ok (.invokevirtual 59, 3) := by decide +kernel
theorem dX0_plug_52 : decode cX0_plug 52 = .ok (.iconst (-1), 1) := by decide +kernel
theorem dX0_plug_53 : decode cX0_plug 53 = .ok (.if_icmp .eq 5, 3) := by decide +kernel
theorem dX0_plug_56 : decode cX0_plug 56 = .ok (.iconst 0, 1) := by decide +kernel
theorem dX0_plug_57 : decode cX0_plug 57 = .ok (.ireturn, 1) := by decide +kernel
theorem dX0_plug_58 : decode cX0_plug 58 = .ok (.aload_n 0, 1) := by decide +kernel
theorem dX0_plug_59 : decode cX0_plug 59 = .ok (.getfield 22, 3) := by decide +kernel
theorem dX0_plug_62 : decode cX0_plug 62 = .ok (.iload 5, 2) := by decide +kernel
theorem dX0_plug_64 : decode cX0_plug 64 = .ok (.iload_n 3, 1) := by decide +kernel
theorem dX0_plug_65 : decode cX0_plug 65 = .ok (.iastore, 1) := by decide +kernel
theorem dX0_plug_66 : decode cX0_plug 66 = .ok (.aload_n 0, 1) := by decide +kernel
theorem dX0_plug_67 : decode cX0_plug 67 = .ok (.getfield 26, 3) := by decide +kernel
theorem dX0_plug_70 : decode cX0_plug 70 = .ok (.iload 5, 2) := by decide +kernel
theorem dX0_plug_72 : decode cX0_plug 72 = .ok (.iload 4, 2) := by decide +kernel
theorem dX0_plug_74 : decode cX0_plug 74 = .ok (.iastore, 1) := by decide +kernel
theorem dX0_plug_75 : decode cX0_plug 75 = .ok (.iconst 1, 1) := by decide +kernel
theorem dX0_plug_76 : decode cX0_plug 76 = .ok (.ireturn, 1) := by decide +kernel
set_option maxRecDepth 20000 in
theorem ggX0_draw_X0_isPluggedPort : GoodIn wsX0_draw wsX0_isPluggedPort := goodIn_r _ [6, 1, 7, 8, 9, 5, 10, 11, 12, 13, 14, 15, 16, 17, 18, 19, 20, 21, 22, 23, 24, 25, 26, 27, 28, 29] (by decide +kernel) (by decide +kernel)
set_option maxRecDepth 20000 in
theorem gX0_draw_X0_isPluggedPort : GoodIn wsX0_draw (wsV RX0 62 RX0 yX0_isPluggedPort wsX0_isPluggedPort) := goodIn_app (goodIn_of _ (by decide +kernel)) ggX0_draw_X0_isPluggedPort
set_option maxRecDepth 20000 in
theorem ggX0_draw_X0_placeOf : GoodIn wsX0_draw wsX0_placeOf := goodIn_r _ [18] (by decide +kernel) (by decide +kernel)
set_option maxRecDepth 20000 in
theorem gX0_draw_X0_placeOf : GoodIn wsX0_draw (va_wsS RX0 56 yX0_placeOf wsX0_placeOf) := goodIn_app (goodIn_of _ (by decide +kernel)) ggX0_draw_X0_placeOf
theorem dX0_draw_0 : decode cX0_draw 0 = .ok (.aload_n 0, 1) := by decide +kernel
theorem dX0_draw_1 : decode cX0_draw 1 = .ok (.iload_n 1, 1) := by decide +kernel
theorem dX0_draw_2 : decode cX0_draw 2 = .ok (.iload_n 2, 1) := by decide +kernel
theorem dX0_draw_3 : decode cX0_draw 3 = .ok (.invokevirtual 62, 3) := by decide +kernel
theorem dX0_draw_6 : decode cX0_draw 6 = .ok (.ifCond .ne 5, 3) := by decide +kernel
theorem dX0_draw_9 : decode cX0_draw 9 = .ok (.iconst 0, 1) := by decide +kernel
theorem dX0_draw_10 : decode cX0_draw 10 = .ok (.ireturn, 1) := by decide +kernel
theorem dX0_draw_11 : decode cX0_draw 11 = .ok (.aload_n 0, 1) := by decide +kernel
theorem dX0_draw_12 : decode cX0_draw 12 = .ok (.getfield 22, 3) := by decide +kernel
theorem dX0_draw_15 : decode cX0_draw 15 = .ok (.iload_n 1, 1) := by decide +kernel
theorem dX0_draw_16 : decode cX0_draw 16 = .ok (.iload_n 2, 1) := by decide +kernel
theorem dX0_draw_17 : decode cX0_draw 17 = .ok (.invokestatic 56, 3) := by decide +kernel
theorem dX0_draw_20 : decode cX0_draw 20 = .ok (.iconst (-1), 1) := by decide +kernel
theorem dX0_draw_21 : decode cX0_draw 21 = .ok (.iastore, 1) := by decide +kernel
theorem dX0_draw_22 : decode cX0_draw 22 = .ok (.iconst 1, 1) := by decide +kernel
theorem dX0_draw_23 : decode cX0_draw 23 = .ok (.ireturn, 1) := by decide +kernel
set_option maxRecDepth 20000 in
theorem ggX0_cost_X0_isPluggedPort : GoodIn wsX0_cost wsX0_isPluggedPort := goodIn_r _ [6, 7, 8, 9, 10, 5, 11, 12, 13, 14, 15, 16, 17, 18, 19, 20, 21, 22, 26, 27, 28, 29, 30, 31, 32, 33] (by decide +kernel) (by decide +kernel)
set_option maxRecDepth 20000 in
theorem gX0_cost_X0_isPluggedPort : GoodIn wsX0_cost (wsV RX0 62 RX0 yX0_isPluggedPort wsX0_isPluggedPort) := goodIn_app (goodIn_of _ (by decide +kernel)) ggX0_cost_X0_isPluggedPort
set_option maxRecDepth 20000 in
theorem ggX0_cost_X0_isCost : GoodIn wsX0_cost wsX0_isCost := goodIn_r _ [25] (by decide +kernel) (by decide +kernel)
set_option maxRecDepth 20000 in
theorem gX0_cost_X0_isCost : GoodIn wsX0_cost (va_wsS RX0 53 yX0_isCost wsX0_isCost) := goodIn_app (goodIn_of _ (by decide +kernel)) ggX0_cost_X0_isCost
set_option maxRecDepth 20000 in
theorem ggX0_cost_X0_placeOf : GoodIn wsX0_cost wsX0_placeOf := goodIn_r _ [19] (by decide +kernel) (by decide +kernel)
set_option maxRecDepth 20000 in
theorem gX0_cost_X0_placeOf : GoodIn wsX0_cost (va_wsS RX0 56 yX0_placeOf wsX0_placeOf) := goodIn_app (goodIn_of _ (by decide +kernel)) ggX0_cost_X0_placeOf
theorem dX0_cost_0 : decode cX0_cost 0 = .ok (.aload_n 0, 1) := by decide +kernel
theorem dX0_cost_1 : decode cX0_cost 1 = .ok (.iload_n 1, 1) := by decide +kernel
theorem dX0_cost_2 : decode cX0_cost 2 = .ok (.iload_n 2, 1) := by decide +kernel
theorem dX0_cost_3 : decode cX0_cost 3 = .ok (.invokevirtual 62, 3) := by decide +kernel
theorem dX0_cost_6 : decode cX0_cost 6 = .ok (.ifCond .eq 10, 3) := by decide +kernel
theorem dX0_cost_9 : decode cX0_cost 9 = .ok (.iload_n 3, 1) := by decide +kernel
theorem dX0_cost_10 : decode cX0_cost 10 = .ok (.invokestatic 53, 3) := by decide +kernel
theorem dX0_cost_13 : decode cX0_cost 13 = .ok (.ifCond .ne 5, 3) := by decide +kernel
theorem dX0_cost_16 : decode cX0_cost 16 = .ok (.iconst (-1), 1) := by decide +kernel
theorem dX0_cost_17 : decode cX0_cost 17 = .ok (.ireturn, 1) := by decide +kernel
theorem dX0_cost_18 : decode cX0_cost 18 = .ok (.iload_n 1, 1) := by decide +kernel
theorem dX0_cost_19 : decode cX0_cost 19 = .ok (.iload_n 2, 1) := by decide +kernel
theorem dX0_cost_20 : decode cX0_cost 20 = .ok (.invokestatic 56, 3) := by decide +kernel
theorem dX0_cost_23 : decode cX0_cost 23 = .ok (.istore 4, 2) := by decide +kernel
theorem dX0_cost_25 : decode cX0_cost 25 = .ok (.aload_n 0, 1) := by decide +kernel
theorem dX0_cost_26 : decode cX0_cost 26 = .ok (.getfield 26, 3) := by decide +kernel
theorem dX0_cost_29 : decode cX0_cost 29 = .ok (.iload 4, 2) := by decide +kernel
theorem dX0_cost_31 : decode cX0_cost 31 = .ok (.iaload, 1) := by decide +kernel
theorem dX0_cost_32 : decode cX0_cost 32 = .ok (.istore 5, 2) := by decide +kernel
theorem dX0_cost_34 : decode cX0_cost 34 = .ok (.aload_n 0, 1) := by decide +kernel
theorem dX0_cost_35 : decode cX0_cost 35 = .ok (.getfield 26, 3) := by decide +kernel
theorem dX0_cost_38 : decode cX0_cost 38 = .ok (.iload 4, 2) := by decide +kernel
theorem dX0_cost_40 : decode cX0_cost 40 = .ok (.iload_n 3, 1) := by decide +kernel
theorem dX0_cost_41 : decode cX0_cost 41 = .ok (.iastore, 1) := by decide +kernel
theorem dX0_cost_42 : decode cX0_cost 42 = .ok (.iload 5, 2) := by decide +kernel
theorem dX0_cost_44 : decode cX0_cost 44 = .ok (.ireturn, 1) := by decide +kernel
set_option maxRecDepth 20000 in
theorem ggX0_cut_X0_isUp : GoodIn wsX0_cut wsX0_isUp := goodIn_r _ [6, 1, 7, 8, 5, 9, 10, 11, 12, 13, 14, 15, 16, 17] (by decide +kernel) (by decide +kernel)
set_option maxRecDepth 20000 in
theorem gX0_cut_X0_isUp : GoodIn wsX0_cut (wsV RX0 65 RX0 yX0_isUp wsX0_isUp) := goodIn_app (goodIn_of _ (by decide +kernel)) ggX0_cut_X0_isUp
theorem dX0_cut_0 : decode cX0_cut 0 = .ok (.aload_n 0, 1) := by decide +kernel
theorem dX0_cut_1 : decode cX0_cut 1 = .ok (.iload_n 1, 1) := by decide +kernel
theorem dX0_cut_2 : decode cX0_cut 2 = .ok (.invokevirtual 65, 3) := by decide +kernel
theorem dX0_cut_5 : decode cX0_cut 5 = .ok (.ifCond .ne 5, 3) := by decide +kernel
theorem dX0_cut_8 : decode cX0_cut 8 = .ok (.iconst 0, 1) := by decide +kernel
theorem dX0_cut_9 : decode cX0_cut 9 = .ok (.ireturn, 1) := by decide +kernel
theorem dX0_cut_10 : decode cX0_cut 10 = .ok (.aload_n 0, 1) := by decide +kernel
theorem dX0_cut_11 : decode cX0_cut 11 = .ok (.getfield 29, 3) := by decide +kernel
theorem dX0_cut_14 : decode cX0_cut 14 = .ok (.iload_n 1, 1) := by decide +kernel
theorem dX0_cut_15 : decode cX0_cut 15 = .ok (.iconst 1, 1) := by decide +kernel
theorem dX0_cut_16 : decode cX0_cut 16 = .ok (.bastore, 1) := by decide +kernel
theorem dX0_cut_17 : decode cX0_cut 17 = .ok (.iconst 1, 1) := by decide +kernel
theorem dX0_cut_18 : decode cX0_cut 18 = .ok (.ireturn, 1) := by decide +kernel
set_option maxRecDepth 20000 in
theorem ggX0_mend_X0_isWire : GoodIn wsX0_mend wsX0_isWire := goodIn_r _ [5] (by decide +kernel) (by decide +kernel)
set_option maxRecDepth 20000 in
theorem gX0_mend_X0_isWire : GoodIn wsX0_mend (va_wsS RX0 49 yX0_isWire wsX0_isWire) := goodIn_app (goodIn_of _ (by decide +kernel)) ggX0_mend_X0_isWire
theorem dX0_mend_0 : decode cX0_mend 0 = .ok (.iload_n 1, 1) := by decide +kernel
theorem dX0_mend_1 : decode cX0_mend 1 = .ok (.invokestatic 49, 3) := by decide +kernel
theorem dX0_mend_4 : decode cX0_mend 4 = .ok (.ifCond .eq 12, 3) := by decide +kernel
theorem dX0_mend_7 : decode cX0_mend 7 = .ok (.aload_n 0, 1) := by decide +kernel
theorem dX0_mend_8 : decode cX0_mend 8 = .ok (.getfield 29, 3) := by decide +kernel
theorem dX0_mend_11 : decode cX0_mend 11 = .ok (.iload_n 1, 1) := by decide +kernel
theorem dX0_mend_12 : decode cX0_mend 12 = .ok (.baload, 1) := by decide +kernel
theorem dX0_mend_13 : decode cX0_mend 13 = .ok (.ifCond .ne 5, 3) := by decide +kernel
theorem dX0_mend_16 : decode cX0_mend 16 = .ok (.iconst 0, 1) := by decide +kernel
theorem dX0_mend_17 : decode cX0_mend 17 = .ok (.ireturn, 1) := by decide +kernel
theorem dX0_mend_18 : decode cX0_mend 18 = .ok (.aload_n 0, 1) := by decide +kernel
theorem dX0_mend_19 : decode cX0_mend 19 = .ok (.getfield 29, 3) := by decide +kernel
theorem dX0_mend_22 : decode cX0_mend 22 = .ok (.iload_n 1, 1) := by decide +kernel
theorem dX0_mend_23 : decode cX0_mend 23 = .ok (.iconst 0, 1) := by decide +kernel
theorem dX0_mend_24 : decode cX0_mend 24 = .ok (.bastore, 1) := by decide +kernel
theorem dX0_mend_25 : decode cX0_mend 25 = .ok (.iconst 1, 1) := by decide +kernel
theorem dX0_mend_26 : decode cX0_mend 26 = .ok (.ireturn, 1) := by decide +kernel
set_option maxRecDepth 20000 in
theorem ggX0_far_X0_canCome : GoodIn wsX0_far wsX0_canCome := goodIn_r _ [6, 1, 7, 8, 9, 10, 5, 11, 12, 13, 14, 15, 16, 17, 18, 19, 20, 21, 22, 23, 24, 25, 26, 27, 28, 29, 30, 31, 32, 33, 34, 35, 36, 37, 38, 39, 40, 41, 42, 43, 44, 45, 46, 47, 48, 49, 50, 51, 52, 53, 54] (by decide +kernel) (by decide +kernel)
set_option maxRecDepth 20000 in
theorem gX0_far_X0_canCome : GoodIn wsX0_far (wsV RX0 68 RX0 yX0_canCome wsX0_canCome) := goodIn_app (goodIn_of _ (by decide +kernel)) ggX0_far_X0_canCome
theorem dX0_far_0 : decode cX0_far 0 = .ok (.aload_n 0, 1) := by decide +kernel
theorem dX0_far_1 : decode cX0_far 1 = .ok (.iload_n 1, 1) := by decide +kernel
theorem dX0_far_2 : decode cX0_far 2 = .ok (.iload_n 2, 1) := by decide +kernel
theorem dX0_far_3 : decode cX0_far 3 = .ok (.iload_n 3, 1) := by decide +kernel
theorem dX0_far_4 : decode cX0_far 4 = .ok (.invokevirtual 68, 3) := by decide +kernel
theorem dX0_far_7 : decode cX0_far 7 = .ok (.ifCond .eq 12, 3) := by decide +kernel
theorem dX0_far_10 : decode cX0_far 10 = .ok (.aload_n 0, 1) := by decide +kernel
theorem dX0_far_11 : decode cX0_far 11 = .ok (.getfield 33, 3) := by decide +kernel
theorem dX0_far_14 : decode cX0_far 14 = .ok (.iload_n 1, 1) := by decide +kernel
theorem dX0_far_15 : decode cX0_far 15 = .ok (.iaload, 1) := by decide +kernel
theorem dX0_far_16 : decode cX0_far 16 = .ok (.goto 4, 3) := by decide +kernel
theorem dX0_far_19 : decode cX0_far 19 = .ok (.iconst (-1), 1) := by decide +kernel
theorem dX0_far_20 : decode cX0_far 20 = .ok (.ireturn, 1) := by decide +kernel
set_option maxRecDepth 20000 in
theorem ggX0_port_X0_canCome : GoodIn wsX0_port wsX0_canCome := goodIn_r _ [6, 7, 8, 9, 10, 11, 5, 12, 13, 14, 15, 16, 17, 18, 19, 20, 21, 22, 23, 24, 25, 26, 27, 28, 29, 30, 31, 32, 33, 34, 35, 36, 37, 38, 39, 40, 41, 42, 43, 44, 45, 46, 47, 57, 58, 59, 60, 61, 62, 63, 64] (by decide +kernel) (by decide +kernel)
set_option maxRecDepth 20000 in
theorem gX0_port_X0_canCome : GoodIn wsX0_port (wsV RX0 68 RX0 yX0_canCome wsX0_canCome) := goodIn_app (goodIn_of _ (by decide +kernel)) ggX0_port_X0_canCome
set_option maxRecDepth 20000 in
theorem ggX0_port_X0_findWay : GoodIn wsX0_port wsX0_findWay := goodIn_r _ [51, 1, 52, 7, 8, 34, 47, 30, 31, 32, 5, 33, 35, 36, 37, 18, 19, 20, 21, 22, 23, 24, 25, 53, 54, 55, 56, 13, 9, 10, 11, 12, 57, 58, 59, 60, 61, 62, 63, 64] (by decide +kernel) (by decide +kernel)
set_option maxRecDepth 20000 in
theorem gX0_port_X0_findWay : GoodIn wsX0_port (wsV RX0 72 RX0 yX0_findWay wsX0_findWay) := goodIn_app (goodIn_of _ (by decide +kernel)) ggX0_port_X0_findWay
theorem dX0_port_0 : decode cX0_port 0 = .ok (.aload_n 0, 1) := by decide +kernel
theorem dX0_port_1 : decode cX0_port 1 = .ok (.iload_n 1, 1) := by decide +kernel
theorem dX0_port_2 : decode cX0_port 2 = .ok (.iload_n 2, 1) := by decide +kernel
theorem dX0_port_3 : decode cX0_port 3 = .ok (.iload_n 3, 1) := by decide +kernel
theorem dX0_port_4 : decode cX0_port 4 = .ok (.invokevirtual 68, 3) := by decide +kernel
theorem dX0_port_7 : decode cX0_port 7 = .ok (.ifCond .ne 5, 3) := by decide +kernel
theorem dX0_port_10 : decode cX0_port 10 = .ok (.iconst (-1), 1) := by decide +kernel
theorem dX0_port_11 : decode cX0_port 11 = .ok (.ireturn, 1) := by decide +kernel
theorem dX0_port_12 : decode cX0_port 12 = .ok (.aload_n 0, 1) := by decide +kernel
theorem dX0_port_13 : decode cX0_port 13 = .ok (.iload_n 1, 1) := by decide +kernel
theorem dX0_port_14 : decode cX0_port 14 = .ok (.iload_n 2, 1) := by decide +kernel
theorem dX0_port_15 : decode cX0_port 15 = .ok (.iload_n 3, 1) := by decide +kernel
theorem dX0_port_16 : decode cX0_port 16 = .ok (.invokevirtual 72, 3) := by decide +kernel
theorem dX0_port_19 : decode cX0_port 19 = .ok (.aload_n 0, 1) := by decide +kernel
theorem dX0_port_20 : decode cX0_port 20 = .ok (.getfield 39, 3) := by decide +kernel
theorem dX0_port_23 : decode cX0_port 23 = .ok (.ireturn, 1) := by decide +kernel
set_option maxRecDepth 20000 in
theorem ggX0_next_X0_canCome : GoodIn wsX0_next wsX0_canCome := goodIn_r _ [6, 7, 8, 9, 10, 11, 5, 12, 13, 14, 15, 16, 17, 18, 19, 20, 21, 22, 23, 24, 25, 26, 27, 28, 29, 30, 31, 32, 33, 34, 35, 36, 37, 38, 39, 40, 41, 42, 43, 44, 45, 46, 47, 57, 58, 59, 60, 61, 62, 63, 64] (by decide +kernel) (by decide +kernel)
set_option maxRecDepth 20000 in
theorem gX0_next_X0_canCome : GoodIn wsX0_next (wsV RX0 68 RX0 yX0_canCome wsX0_canCome) := goodIn_app (goodIn_of _ (by decide +kernel)) ggX0_next_X0_canCome
set_option maxRecDepth 20000 in
theorem ggX0_next_X0_findWay : GoodIn wsX0_next wsX0_findWay := goodIn_r _ [51, 52, 1, 7, 8, 34, 47, 30, 31, 32, 5, 33, 35, 36, 37, 18, 19, 20, 21, 22, 23, 24, 25, 53, 54, 55, 56, 13, 9, 10, 11, 12, 57, 58, 59, 60, 61, 62, 63, 64] (by decide +kernel) (by decide +kernel)
set_option maxRecDepth 20000 in
theorem gX0_next_X0_findWay : GoodIn wsX0_next (wsV RX0 72 RX0 yX0_findWay wsX0_findWay) := goodIn_app (goodIn_of _ (by decide +kernel)) ggX0_next_X0_findWay
theorem dX0_next_0 : decode cX0_next 0 = .ok (.aload_n 0, 1) := by decide +kernel
theorem dX0_next_1 : decode cX0_next 1 = .ok (.iload_n 1, 1) := by decide +kernel
theorem dX0_next_2 : decode cX0_next 2 = .ok (.iload_n 2, 1) := by decide +kernel
theorem dX0_next_3 : decode cX0_next 3 = .ok (.iload_n 3, 1) := by decide +kernel
theorem dX0_next_4 : decode cX0_next 4 = .ok (.invokevirtual 68, 3) := by decide +kernel
theorem dX0_next_7 : decode cX0_next 7 = .ok (.ifCond .ne 5, 3) := by decide +kernel
theorem dX0_next_10 : decode cX0_next 10 = .ok (.iconst (-1), 1) := by decide +kernel
theorem dX0_next_11 : decode cX0_next 11 = .ok (.ireturn, 1) := by decide +kernel
theorem dX0_next_12 : decode cX0_next 12 = .ok (.aload_n 0, 1) := by decide +kernel
theorem dX0_next_13 : decode cX0_next 13 = .ok (.iload_n 1, 1) := by decide +kernel
theorem dX0_next_14 : decode cX0_next 14 = .ok (.iload_n 2, 1) := by decide +kernel
theorem dX0_next_15 : decode cX0_next 15 = .ok (.iload_n 3, 1) := by decide +kernel
theorem dX0_next_16 : decode cX0_next 16 = .ok (.invokevirtual 72, 3) := by decide +kernel
theorem dX0_next_19 : decode cX0_next 19 = .ok (.aload_n 0, 1) := by decide +kernel
theorem dX0_next_20 : decode cX0_next 20 = .ok (.getfield 42, 3) := by decide +kernel
theorem dX0_next_23 : decode cX0_next 23 = .ok (.ireturn, 1) := by decide +kernel
set_option maxRecDepth 20000 in
theorem ggX0_walk_X0_canCome : GoodIn wsX0_walk wsX0_canCome := goodIn_r _ [7, 8, 9, 10, 11, 12, 6, 13, 1, 14, 15, 16, 17, 18, 19, 20, 21, 22, 23, 24, 25, 26, 27, 28, 29, 30, 31, 32, 33, 34, 35, 36, 37, 38, 39, 40, 41, 42, 43, 44, 45, 46, 47, 57, 58, 59, 60, 61, 62, 63, 64] (by decide +kernel) (by decide +kernel)
set_option maxRecDepth 20000 in
theorem gX0_walk_X0_canCome : GoodIn wsX0_walk (wsV RX0 68 RX0 yX0_canCome wsX0_canCome) := goodIn_app (goodIn_of _ (by decide +kernel)) ggX0_walk_X0_canCome
set_option maxRecDepth 20000 in
theorem ggX0_walk_X0_findWay : GoodIn wsX0_walk wsX0_findWay := goodIn_r _ [51, 52, 2, 8, 9, 34, 47, 30, 31, 32, 6, 33, 35, 36, 37, 18, 19, 20, 21, 22, 23, 24, 25, 53, 54, 55, 56, 1, 10, 11, 12, 13, 57, 58, 59, 60, 61, 62, 63, 64] (by decide +kernel) (by decide +kernel)
set_option maxRecDepth 20000 in
theorem gX0_walk_X0_findWay : GoodIn wsX0_walk (wsV RX0 72 RX0 yX0_findWay wsX0_findWay) := goodIn_app (goodIn_of _ (by decide +kernel)) ggX0_walk_X0_findWay
set_option maxRecDepth 20000 in
theorem ggX0_walk_X0_isRouter : GoodIn wsX0_walk wsX0_isRouter := goodIn_r _ [13, 1, 57, 58, 59, 60, 61, 62, 63, 64] (by decide +kernel) (by decide +kernel)
set_option maxRecDepth 20000 in
theorem gX0_walk_X0_isRouter : GoodIn wsX0_walk (wsV RX0 76 RX0 yX0_isRouter wsX0_isRouter) := goodIn_app (goodIn_of _ (by decide +kernel)) ggX0_walk_X0_isRouter
theorem dX0_walk_0 : decode cX0_walk 0 = .ok (.iload 4, 2) := by decide +kernel
theorem dX0_walk_2 : decode cX0_walk 2 = .ok (.ifCond .lt 22, 3) := by decide +kernel
theorem dX0_walk_5 : decode cX0_walk 5 = .ok (.iload 4, 2) := by decide +kernel
theorem dX0_walk_7 : decode cX0_walk 7 = .ok (.aload_n 0, 1) := by decide +kernel
theorem dX0_walk_8 : decode cX0_walk 8 = .ok (.getfield 18, 3) := by decide +kernel
theorem dX0_walk_11 : decode cX0_walk 11 = .ok (.if_icmp .ge 13, 3) := by decide +kernel
theorem dX0_walk_14 : decode cX0_walk 14 = .ok (.aload_n 0, 1) := by decide +kernel
theorem dX0_walk_15 : decode cX0_walk 15 = .ok (.iload_n 1, 1) := by decide +kernel
theorem dX0_walk_16 : decode cX0_walk 16 = .ok (.iload_n 2, 1) := by decide +kernel
theorem dX0_walk_17 : decode cX0_walk 17 = .ok (.iload_n 3, 1) := by decide +kernel
theorem dX0_walk_18 : decode cX0_walk 18 = .ok (.invokevirtual 68, 3) := by decide +kernel
theorem dX0_walk_21 : decode cX0_walk 21 = .ok (.ifCond .ne 5, 3) := by decide +kernel
theorem dX0_walk_24 : decode cX0_walk 24 = .ok (.iconst (-1), 1) := by decide +kernel
theorem dX0_walk_25 : decode cX0_walk 25 = .ok (.ireturn, 1) := by decide +kernel
theorem dX0_walk_26 : decode cX0_walk 26 = .ok (.iload_n 1, 1) := by decide +kernel
theorem dX0_walk_27 : decode cX0_walk 27 = .ok (.istore 5, 2) := by decide +kernel
theorem dX0_walk_29 : decode cX0_walk 29 = .ok (.iconst 0, 1) := by decide +kernel
theorem dX0_walk_30 : decode cX0_walk 30 = .ok (.istore 6, 2) := by decide +kernel
theorem dX0_walk_32 : decode cX0_walk 32 = .ok (.iload 6, 2) := by decide +kernel
theorem dX0_walk_34 : decode cX0_walk 34 = .ok (.iload 4, 2) := by decide +kernel
theorem dX0_walk_36 : decode cX0_walk 36 = .ok (.if_icmp .ge 36, 3) := by decide +kernel
theorem dX0_walk_39 : decode cX0_walk 39 = .ok (.aload_n 0, 1) := by decide +kernel
theorem dX0_walk_40 : decode cX0_walk 40 = .ok (.iload 5, 2) := by decide +kernel
theorem dX0_walk_42 : decode cX0_walk 42 = .ok (.iload_n 2, 1) := by decide +kernel
theorem dX0_walk_43 : decode cX0_walk 43 = .ok (.iload_n 3, 1) := by decide +kernel
theorem dX0_walk_44 : decode cX0_walk 44 = .ok (.invokevirtual 72, 3) := by decide +kernel
theorem dX0_walk_47 : decode cX0_walk 47 = .ok (.aload_n 0, 1) := by decide +kernel
theorem dX0_walk_48 : decode cX0_walk 48 = .ok (.aload_n 0, 1) := by decide +kernel
theorem dX0_walk_49 : decode cX0_walk 49 = .ok (.getfield 42, 3) := by decide +kernel
theorem dX0_walk_52 : decode cX0_walk 52 = .ok (.invokevirtual 76, 3) := by decide +kernel
theorem dX0_walk_55 : decode cX0_walk 55 = .ok (.ifCond .ne 5, 3) := by decide +kernel
theorem dX0_walk_58 : decode cX0_walk 58 = .ok (.iconst (-1), 1) := by decide +kernel
theorem dX0_walk_59 : decode cX0_walk 59 = .ok (.ireturn, 1) := by decide +kernel
theorem dX0_walk_60 : decode cX0_walk 60 = .ok (.aload_n 0, 1) := by decide +kernel
theorem dX0_walk_61 : decode cX0_walk 61 = .ok (.getfield 42, 3) := by decide +kernel
theorem dX0_walk_64 : decode cX0_walk 64 = .ok (.istore 5, 2) := by decide +kernel
theorem dX0_walk_66 : decode cX0_walk 66 = .ok (.iinc 6 1, 3) := by decide +kernel
theorem dX0_walk_69 : decode cX0_walk 69 = .ok (.goto (-37), 3) := by decide +kernel
theorem dX0_walk_72 : decode cX0_walk 72 = .ok (.iload 5, 2) := by decide +kernel
theorem dX0_walk_74 : decode cX0_walk 74 = .ok (.ireturn, 1) := by decide +kernel
set_option maxRecDepth 20000 in
theorem ggX0_reach_X0_isRouter : GoodIn wsX0_reach wsX0_isRouter := goodIn_r _ [8, 1, 39, 40, 41, 42, 43, 44, 45, 46] (by decide +kernel) (by decide +kernel)
set_option maxRecDepth 20000 in
theorem gX0_reach_X0_isRouter : GoodIn wsX0_reach (wsV RX0 76 RX0 yX0_isRouter wsX0_isRouter) := goodIn_app (goodIn_of _ (by decide +kernel)) ggX0_reach_X0_isRouter
set_option maxRecDepth 20000 in
theorem ggX0_reach_X0_measure : GoodIn wsX0_reach wsX0_measure := goodIn_r _ [12, 1, 2, 3, 13, 14, 15, 7, 16, 17, 18, 19, 20, 21, 22, 23, 24, 25, 26, 27, 28, 29, 30, 31, 32, 33, 34, 35, 36, 37, 38, 39, 40, 41, 42, 43, 44, 45, 46] (by decide +kernel) (by decide +kernel)
set_option maxRecDepth 20000 in
theorem gX0_reach_X0_measure : GoodIn wsX0_reach (wsV RX0 79 RX0 yX0_measure wsX0_measure) := goodIn_app (goodIn_of _ (by decide +kernel)) ggX0_reach_X0_measure
theorem dX0_reach_0 : decode cX0_reach 0 = .ok (.aload_n 0, 1) := by decide +kernel
theorem dX0_reach_1 : decode cX0_reach 1 = .ok (.iload_n 1, 1) := by decide +kernel
theorem dX0_reach_2 : decode cX0_reach 2 = .ok (.invokevirtual 76, 3) := by decide +kernel
theorem dX0_reach_5 : decode cX0_reach 5 = .ok (.ifCond .ne 5, 3) := by decide +kernel
theorem dX0_reach_8 : decode cX0_reach 8 = .ok (.iconst (-1), 1) := by decide +kernel
theorem dX0_reach_9 : decode cX0_reach 9 = .ok (.ireturn, 1) := by decide +kernel
theorem dX0_reach_10 : decode cX0_reach 10 = .ok (.aload_n 0, 1) := by decide +kernel
theorem dX0_reach_11 : decode cX0_reach 11 = .ok (.iconst 0, 1) := by decide +kernel
theorem dX0_reach_12 : decode cX0_reach 12 = .ok (.iload_n 1, 1) := by decide +kernel
theorem dX0_reach_13 : decode cX0_reach 13 = .ok (.invokevirtual 79, 3) := by decide +kernel
theorem dX0_reach_16 : decode cX0_reach 16 = .ok (.iconst 0, 1) := by decide +kernel
theorem dX0_reach_17 : decode cX0_reach 17 = .ok (.istore_n 2, 1) := by decide +kernel
theorem dX0_reach_18 : decode cX0_reach 18 = .ok (.iconst 0, 1) := by decide +kernel
theorem dX0_reach_19 : decode cX0_reach 19 = .ok (.istore_n 3, 1) := by decide +kernel
theorem dX0_reach_20 : decode cX0_reach 20 = .ok (.iload_n 3, 1) := by decide +kernel
theorem dX0_reach_21 : decode cX0_reach 21 = .ok (.aload_n 0, 1) := by decide +kernel
theorem dX0_reach_22 : decode cX0_reach 22 = .ok (.getfield 18, 3) := by decide +kernel
theorem dX0_reach_25 : decode cX0_reach 25 = .ok (.if_icmp .ge 23, 3) := by decide +kernel
theorem dX0_reach_28 : decode cX0_reach 28 = .ok (.aload_n 0, 1) := by decide +kernel
theorem dX0_reach_29 : decode cX0_reach 29 = .ok (.getfield 33, 3) := by decide +kernel
theorem dX0_reach_32 : decode cX0_reach 32 = .ok (.iload_n 3, 1) := by decide +kernel
theorem dX0_reach_33 : decode cX0_reach 33 = .ok (.iaload, 1) := by decide +kernel
theorem dX0_reach_34 : decode cX0_reach 34 = .ok (.ldc 83, 2) := by decide +kernel
theorem dX0_reach_36 : decode cX0_reach 36 = .ok (.if_icmp .ge 6, 3) := by decide +kernel
theorem dX0_reach_39 : decode cX0_reach 39 = .ok (.iinc 2 1, 3) := by decide +kernel
theorem dX0_reach_42 : decode cX0_reach 42 = .ok (.iinc 3 1, 3) := by decide +kernel
theorem dX0_reach_45 : decode cX0_reach 45 = .ok (.goto (-25), 3) := by decide +kernel
theorem dX0_reach_48 : decode cX0_reach 48 = .ok (.iload_n 2, 1) := by decide +kernel
theorem dX0_reach_49 : decode cX0_reach 49 = .ok (.ireturn, 1) := by decide +kernel
set_option maxRecDepth 20000 in
theorem ggX0_count_X0_pluggedPorts : GoodIn wsX0_count wsX0_pluggedPorts := goodIn_r _ [6, 7, 8, 9, 5, 10, 47, 48, 49, 50, 51, 52, 53, 54] (by decide +kernel) (by decide +kernel)
set_option maxRecDepth 20000 in
theorem gX0_count_X0_pluggedPorts : GoodIn wsX0_count (wsV RX0 84 RX0 yX0_pluggedPorts wsX0_pluggedPorts) := goodIn_app (goodIn_of _ (by decide +kernel)) ggX0_count_X0_pluggedPorts
set_option maxRecDepth 20000 in
theorem ggX0_count_X0_cutWires : GoodIn wsX0_count wsX0_cutWires := goodIn_r _ [14, 15, 47, 48, 49, 50, 51, 52, 53, 54] (by decide +kernel) (by decide +kernel)
set_option maxRecDepth 20000 in
theorem gX0_count_X0_cutWires : GoodIn wsX0_count (wsV RX0 88 RX0 yX0_cutWires wsX0_cutWires) := goodIn_app (goodIn_of _ (by decide +kernel)) ggX0_count_X0_cutWires
set_option maxRecDepth 20000 in
theorem ggX0_count_X0_greatestDistance : GoodIn wsX0_count wsX0_greatestDistance := goodIn_r _ [19, 1, 20, 21, 22, 23, 24, 5, 25, 26, 27, 28, 29, 7, 30, 31, 32, 33, 34, 35, 36, 37, 38, 39, 40, 41, 15, 8, 9, 10, 42, 43, 44, 45, 46, 47, 48, 49, 50, 51, 52, 53, 54] (by decide +kernel) (by decide +kernel)
set_option maxRecDepth 20000 in
theorem gX0_count_X0_greatestDistance : GoodIn wsX0_count (wsV RX0 91 RX0 yX0_greatestDistance wsX0_greatestDistance) := goodIn_app (goodIn_of _ (by decide +kernel)) ggX0_count_X0_greatestDistance
theorem dX0_count_0 : decode cX0_count 0 = .ok (.iload_n 1, 1) := by decide +kernel
theorem dX0_count_1 : decode cX0_count 1 = .ok (.tableswitch 51 0 3 #[31, 36, 41, 46], 31) := by decide +kernel
theorem dX0_count_32 : decode cX0_count 32 = .ok (.aload_n 0, 1) := by decide +kernel
theorem dX0_count_33 : decode cX0_count 33 = .ok (.getfield 18, 3) := by decide +kernel
theorem dX0_count_36 : decode cX0_count 36 = .ok (.ireturn, 1) := by decide +kernel
theorem dX0_count_37 : decode cX0_count 37 = .ok (.aload_n 0, 1) := by decide +kernel
theorem dX0_count_38 : decode cX0_count 38 = .ok (.invokevirtual 84, 3) := by decide +kernel
theorem dX0_count_41 : decode cX0_count 41 = .ok (.ireturn, 1) := by decide +kernel
theorem dX0_count_42 : decode cX0_count 42 = .ok (.aload_n 0, 1) := by decide +kernel
theorem dX0_count_43 : decode cX0_count 43 = .ok (.invokevirtual 88, 3) := by decide +kernel
theorem dX0_count_46 : decode cX0_count 46 = .ok (.ireturn, 1) := by decide +kernel
theorem dX0_count_47 : decode cX0_count 47 = .ok (.aload_n 0, 1) := by decide +kernel
theorem dX0_count_48 : decode cX0_count 48 = .ok (.invokevirtual 91, 3) := by decide +kernel
theorem dX0_count_51 : decode cX0_count 51 = .ok (.ireturn, 1) := by decide +kernel
theorem dX0_count_52 : decode cX0_count 52 = .ok (.iconst (-1), 1) := by decide +kernel
theorem dX0_count_53 : decode cX0_count 53 = .ok (.ireturn, 1) := by decide +kernel
theorem dX0_isRouter_0 : decode cX0_isRouter 0 = .ok (.iload_n 1, 1) := by decide +kernel
theorem dX0_isRouter_1 : decode cX0_isRouter 1 = .ok (.ifCond .lt 15, 3) := by decide +kernel
theorem dX0_isRouter_4 : decode cX0_isRouter 4 = .ok (.iload_n 1, 1) := by decide +kernel
theorem dX0_isRouter_5 : decode cX0_isRouter 5 = .ok (.aload_n 0, 1) := by decide +kernel
theorem dX0_isRouter_6 : decode cX0_isRouter 6 = .ok (.getfield 18, 3) := by decide +kernel
theorem dX0_isRouter_9 : decode cX0_isRouter 9 = .ok (.if_icmp .ge 7, 3) := by decide +kernel
theorem dX0_isRouter_12 : decode cX0_isRouter 12 = .ok (.iconst 1, 1) := by decide +kernel
theorem dX0_isRouter_13 : decode cX0_isRouter 13 = .ok (.goto 4, 3) := by decide +kernel
theorem dX0_isRouter_16 : decode cX0_isRouter 16 = .ok (.iconst 0, 1) := by decide +kernel
theorem dX0_isRouter_17 : decode cX0_isRouter 17 = .ok (.ireturn, 1) := by decide +kernel
set_option maxRecDepth 20000 in
theorem ggX0_isPort_X0_isRouter : GoodIn wsX0_isPort wsX0_isRouter := goodIn_r _ [5, 6, 7, 8, 9, 10, 11, 12, 13, 14] (by decide +kernel) (by decide +kernel)
set_option maxRecDepth 20000 in
theorem gX0_isPort_X0_isRouter : GoodIn wsX0_isPort (wsV RX0 76 RX0 yX0_isRouter wsX0_isRouter) := goodIn_app (goodIn_of _ (by decide +kernel)) ggX0_isPort_X0_isRouter
theorem dX0_isPort_0 : decode cX0_isPort 0 = .ok (.aload_n 0, 1) := by decide +kernel
theorem dX0_isPort_1 : decode cX0_isPort 1 = .ok (.iload_n 1, 1) := by decide +kernel
theorem dX0_isPort_2 : decode cX0_isPort 2 = .ok (.invokevirtual 76, 3) := by decide +kernel
theorem dX0_isPort_5 : decode cX0_isPort 5 = .ok (.ifCond .eq 16, 3) := by decide +kernel
theorem dX0_isPort_8 : decode cX0_isPort 8 = .ok (.iload_n 2, 1) := by decide +kernel
theorem dX0_isPort_9 : decode cX0_isPort 9 = .ok (.ifCond .lt 12, 3) := by decide +kernel
theorem dX0_isPort_12 : decode cX0_isPort 12 = .ok (.iload_n 2, 1) := by decide +kernel
theorem dX0_isPort_13 : decode cX0_isPort 13 = .ok (.iconst 4, 1) := by decide +kernel
theorem dX0_isPort_14 : decode cX0_isPort 14 = .ok (.if_icmp .ge 7, 3) := by decide +kernel
theorem dX0_isPort_17 : decode cX0_isPort 17 = .ok (.iconst 1, 1) := by decide +kernel
theorem dX0_isPort_18 : decode cX0_isPort 18 = .ok (.goto 4, 3) := by decide +kernel
theorem dX0_isPort_21 : decode cX0_isPort 21 = .ok (.iconst 0, 1) := by decide +kernel
theorem dX0_isPort_22 : decode cX0_isPort 22 = .ok (.ireturn, 1) := by decide +kernel
set_option maxRecDepth 20000 in
theorem ggX0_isPluggedPort_X0_isPort : GoodIn wsX0_isPluggedPort wsX0_isPort := goodIn_r _ [6, 7, 8, 9, 5, 10, 11, 18, 19, 20, 21, 22, 23, 24, 25] (by decide +kernel) (by decide +kernel)
set_option maxRecDepth 20000 in
theorem gX0_isPluggedPort_X0_isPort : GoodIn wsX0_isPluggedPort (wsV RX0 45 RX0 yX0_isPort wsX0_isPort) := goodIn_app (goodIn_of _ (by decide +kernel)) ggX0_isPluggedPort_X0_isPort
set_option maxRecDepth 20000 in
theorem ggX0_isPluggedPort_X0_placeOf : GoodIn wsX0_isPluggedPort wsX0_placeOf := goodIn_r _ [14] (by decide +kernel) (by decide +kernel)
set_option maxRecDepth 20000 in
theorem gX0_isPluggedPort_X0_placeOf : GoodIn wsX0_isPluggedPort (va_wsS RX0 56 yX0_placeOf wsX0_placeOf) := goodIn_app (goodIn_of _ (by decide +kernel)) ggX0_isPluggedPort_X0_placeOf
set_option maxRecDepth 20000 in
theorem ggX0_isPluggedPort_X0_isWire : GoodIn wsX0_isPluggedPort wsX0_isWire := goodIn_r _ [17] (by decide +kernel) (by decide +kernel)
set_option maxRecDepth 20000 in
theorem gX0_isPluggedPort_X0_isWire : GoodIn wsX0_isPluggedPort (va_wsS RX0 49 yX0_isWire wsX0_isWire) := goodIn_app (goodIn_of _ (by decide +kernel)) ggX0_isPluggedPort_X0_isWire
theorem dX0_isPluggedPort_0 : decode cX0_isPluggedPort 0 = .ok (.aload_n 0, 1) := by decide +kernel
theorem dX0_isPluggedPort_1 : decode cX0_isPluggedPort 1 = .ok (.iload_n 1, 1) := by decide +kernel
theorem dX0_isPluggedPort_2 : decode cX0_isPluggedPort 2 = .ok (.iload_n 2, 1) := by decide +kernel
theorem dX0_isPluggedPort_3 : decode cX0_isPluggedPort 3 = .ok (.invokevirtual 45, 3) := by decide +kernel
theorem dX0_isPluggedPort_6 : decode cX0_isPluggedPort 6 = .ok (.ifCond .eq 23, 3) := by decide +kernel
theorem dX0_isPluggedPort_9 : decode cX0_isPluggedPort 9 = .ok (.aload_n 0, 1) := by decide +kernel
theorem dX0_isPluggedPort_10 : decode cX0_isPluggedPort 10 = .ok (.getfield 22, 3) := by decide +kernel
theorem dX0_isPluggedPort_13 : decode cX0_isPluggedPort 13 = .ok (.iload_n 1, 1) := by decide +kernel
theorem dX0_isPluggedPort_14 : decode cX0_isPluggedPort 14 = .ok (.iload_n 2, 1) := by decide +kernel
theorem dX0_isPluggedPort_15 : decode cX0_isPluggedPort 15 = .ok (.invokestatic 56, 3) := by decide +kernel
theorem dX0_isPluggedPort_18 : decode cX0_isPluggedPort 18 = .ok (.iaload, 1) := by decide +kernel
theorem dX0_isPluggedPort_19 : decode cX0_isPluggedPort 19 = .ok (.invokestatic 49, 3) := by decide +kernel
theorem dX0_isPluggedPort_22 : decode cX0_isPluggedPort 22 = .ok (.ifCond .eq 7, 3) := by decide +kernel
theorem dX0_isPluggedPort_25 : decode cX0_isPluggedPort 25 = .ok (.iconst 1, 1) := by decide +kernel
theorem dX0_isPluggedPort_26 : decode cX0_isPluggedPort 26 = .ok (.goto 4, 3) := by decide +kernel
theorem dX0_isPluggedPort_29 : decode cX0_isPluggedPort 29 = .ok (.iconst 0, 1) := by decide +kernel
theorem dX0_isPluggedPort_30 : decode cX0_isPluggedPort 30 = .ok (.ireturn, 1) := by decide +kernel
theorem dX0_isWire_0 : decode cX0_isWire 0 = .ok (.iload_n 0, 1) := by decide +kernel
theorem dX0_isWire_1 : decode cX0_isWire 1 = .ok (.ifCond .lt 13, 3) := by decide +kernel
theorem dX0_isWire_4 : decode cX0_isWire 4 = .ok (.iload_n 0, 1) := by decide +kernel
theorem dX0_isWire_5 : decode cX0_isWire 5 = .ok (.bipush 16, 2) := by decide +kernel
theorem dX0_isWire_7 : decode cX0_isWire 7 = .ok (.if_icmp .ge 7, 3) := by decide +kernel
theorem dX0_isWire_10 : decode cX0_isWire 10 = .ok (.iconst 1, 1) := by decide +kernel
theorem dX0_isWire_11 : decode cX0_isWire 11 = .ok (.goto 4, 3) := by decide +kernel
theorem dX0_isWire_14 : decode cX0_isWire 14 = .ok (.iconst 0, 1) := by decide +kernel
theorem dX0_isWire_15 : decode cX0_isWire 15 = .ok (.ireturn, 1) := by decide +kernel
set_option maxRecDepth 20000 in
theorem ggX0_isUp_X0_isWire : GoodIn wsX0_isUp wsX0_isWire := goodIn_r _ [5] (by decide +kernel) (by decide +kernel)
set_option maxRecDepth 20000 in
theorem gX0_isUp_X0_isWire : GoodIn wsX0_isUp (va_wsS RX0 49 yX0_isWire wsX0_isWire) := goodIn_app (goodIn_of _ (by decide +kernel)) ggX0_isUp_X0_isWire
theorem dX0_isUp_0 : decode cX0_isUp 0 = .ok (.iload_n 1, 1) := by decide +kernel
theorem dX0_isUp_1 : decode cX0_isUp 1 = .ok (.invokestatic 49, 3) := by decide +kernel
theorem dX0_isUp_4 : decode cX0_isUp 4 = .ok (.ifCond .eq 16, 3) := by decide +kernel
theorem dX0_isUp_7 : decode cX0_isUp 7 = .ok (.aload_n 0, 1) := by decide +kernel
theorem dX0_isUp_8 : decode cX0_isUp 8 = .ok (.getfield 29, 3) := by decide +kernel
theorem dX0_isUp_11 : decode cX0_isUp 11 = .ok (.iload_n 1, 1) := by decide +kernel
theorem dX0_isUp_12 : decode cX0_isUp 12 = .ok (.baload, 1) := by decide +kernel
theorem dX0_isUp_13 : decode cX0_isUp 13 = .ok (.ifCond .ne 7, 3) := by decide +kernel
theorem dX0_isUp_16 : decode cX0_isUp 16 = .ok (.iconst 1, 1) := by decide +kernel
theorem dX0_isUp_17 : decode cX0_isUp 17 = .ok (.goto 4, 3) := by decide +kernel
theorem dX0_isUp_20 : decode cX0_isUp 20 = .ok (.iconst 0, 1) := by decide +kernel
theorem dX0_isUp_21 : decode cX0_isUp 21 = .ok (.ireturn, 1) := by decide +kernel
theorem dX0_isCost_0 : decode cX0_isCost 0 = .ok (.iload_n 0, 1) := by decide +kernel
theorem dX0_isCost_1 : decode cX0_isCost 1 = .ok (.iconst 1, 1) := by decide +kernel
theorem dX0_isCost_2 : decode cX0_isCost 2 = .ok (.if_icmp .lt 13, 3) := by decide +kernel
theorem dX0_isCost_5 : decode cX0_isCost 5 = .ok (.iload_n 0, 1) := by decide +kernel
theorem dX0_isCost_6 : decode cX0_isCost 6 = .ok (.bipush 9, 2) := by decide +kernel
theorem dX0_isCost_8 : decode cX0_isCost 8 = .ok (.if_icmp .gt 7, 3) := by decide +kernel
theorem dX0_isCost_11 : decode cX0_isCost 11 = .ok (.iconst 1, 1) := by decide +kernel
theorem dX0_isCost_12 : decode cX0_isCost 12 = .ok (.goto 4, 3) := by decide +kernel
theorem dX0_isCost_15 : decode cX0_isCost 15 = .ok (.iconst 0, 1) := by decide +kernel
theorem dX0_isCost_16 : decode cX0_isCost 16 = .ok (.ireturn, 1) := by decide +kernel
set_option maxRecDepth 20000 in
theorem ggX0_isAim_X0_isUp : GoodIn wsX0_isAim wsX0_isUp := goodIn_r _ [5, 6, 7, 8, 4, 9, 15, 16, 17, 18, 19, 20, 21, 22] (by decide +kernel) (by decide +kernel)
set_option maxRecDepth 20000 in
theorem gX0_isAim_X0_isUp : GoodIn wsX0_isAim (wsV RX0 65 RX0 yX0_isUp wsX0_isUp) := goodIn_app (goodIn_of _ (by decide +kernel)) ggX0_isAim_X0_isUp
set_option maxRecDepth 20000 in
theorem ggX0_isAim_X0_isRouter : GoodIn wsX0_isAim wsX0_isRouter := goodIn_r _ [13, 14, 15, 16, 17, 18, 19, 20, 21, 22] (by decide +kernel) (by decide +kernel)
set_option maxRecDepth 20000 in
theorem gX0_isAim_X0_isRouter : GoodIn wsX0_isAim (wsV RX0 76 RX0 yX0_isRouter wsX0_isRouter) := goodIn_app (goodIn_of _ (by decide +kernel)) ggX0_isAim_X0_isRouter
theorem dX0_isAim_0 : decode cX0_isAim 0 = .ok (.iload_n 1, 1) := by decide +kernel
theorem dX0_isAim_1 : decode cX0_isAim 1 = .ok (.ifCond .eq 11, 3) := by decide +kernel
theorem dX0_isAim_4 : decode cX0_isAim 4 = .ok (.aload_n 0, 1) := by decide +kernel
theorem dX0_isAim_5 : decode cX0_isAim 5 = .ok (.iload_n 2, 1) := by decide +kernel
theorem dX0_isAim_6 : decode cX0_isAim 6 = .ok (.invokevirtual 65, 3) := by decide +kernel
theorem dX0_isAim_9 : decode cX0_isAim 9 = .ok (.goto 8, 3) := by decide +kernel
theorem dX0_isAim_12 : decode cX0_isAim 12 = .ok (.aload_n 0, 1) := by decide +kernel
theorem dX0_isAim_13 : decode cX0_isAim 13 = .ok (.iload_n 2, 1) := by decide +kernel
theorem dX0_isAim_14 : decode cX0_isAim 14 = .ok (.invokevirtual 76, 3) := by decide +kernel
theorem dX0_isAim_17 : decode cX0_isAim 17 = .ok (.ireturn, 1) := by decide +kernel
theorem dX0_placeOf_0 : decode cX0_placeOf 0 = .ok (.iload_n 0, 1) := by decide +kernel
theorem dX0_placeOf_1 : decode cX0_placeOf 1 = .ok (.iconst 4, 1) := by decide +kernel
theorem dX0_placeOf_2 : decode cX0_placeOf 2 = .ok (.imul, 1) := by decide +kernel
theorem dX0_placeOf_3 : decode cX0_placeOf 3 = .ok (.iload_n 1, 1) := by decide +kernel
theorem dX0_placeOf_4 : decode cX0_placeOf 4 = .ok (.iadd, 1) := by decide +kernel
theorem dX0_placeOf_5 : decode cX0_placeOf 5 = .ok (.ireturn, 1) := by decide +kernel
set_option maxRecDepth 20000 in
theorem ggX0_portOn_X0_placeOf : GoodIn wsX0_portOn wsX0_placeOf := goodIn_r _ [5] (by decide +kernel) (by decide +kernel)
set_option maxRecDepth 20000 in
theorem gX0_portOn_X0_placeOf : GoodIn wsX0_portOn (va_wsS RX0 56 yX0_placeOf wsX0_placeOf) := goodIn_app (goodIn_of _ (by decide +kernel)) ggX0_portOn_X0_placeOf
theorem dX0_portOn_0 : decode cX0_portOn 0 = .ok (.iconst 0, 1) := by decide +kernel
theorem dX0_portOn_1 : decode cX0_portOn 1 = .ok (.istore_n 3, 1) := by decide +kernel
theorem dX0_portOn_2 : decode cX0_portOn 2 = .ok (.iload_n 3, 1) := by decide +kernel
theorem dX0_portOn_3 : decode cX0_portOn 3 = .ok (.iconst 4, 1) := by decide +kernel
theorem dX0_portOn_4 : decode cX0_portOn 4 = .ok (.if_icmp .ge 25, 3) := by decide +kernel
theorem dX0_portOn_7 : decode cX0_portOn 7 = .ok (.aload_n 0, 1) := by decide +kernel
theorem dX0_portOn_8 : decode cX0_portOn 8 = .ok (.getfield 22, 3) := by decide +kernel
theorem dX0_portOn_11 : decode cX0_portOn 11 = .ok (.iload_n 1, 1) := by decide +kernel
theorem dX0_portOn_12 : decode cX0_portOn 12 = .ok (.iload_n 3, 1) := by decide +kernel
theorem dX0_portOn_13 : decode cX0_portOn 13 = .ok (.invokestatic 56, 3) := by decide +kernel
theorem dX0_portOn_16 : decode cX0_portOn 16 = .ok (.iaload, 1) := by decide +kernel
theorem dX0_portOn_17 : decode cX0_portOn 17 = .ok (.iload_n 2, 1) := by decide +kernel
theorem dX0_portOn_18 : decode cX0_portOn 18 = .ok (.if_icmp .ne 5, 3) := by decide +kernel
theorem dX0_portOn_21 : decode cX0_portOn 21 = .ok (.iload_n 3, 1) := by decide +kernel
theorem dX0_portOn_22 : decode cX0_portOn 22 = .ok (.ireturn, 1) := by decide +kernel
theorem dX0_portOn_23 : decode cX0_portOn 23 = .ok (.iinc 3 1, 3) := by decide +kernel
theorem dX0_portOn_26 : decode cX0_portOn 26 = .ok (.goto (-24), 3) := by decide +kernel
theorem dX0_portOn_29 : decode cX0_portOn 29 = .ok (.iconst (-1), 1) := by decide +kernel
theorem dX0_portOn_30 : decode cX0_portOn 30 = .ok (.ireturn, 1) := by decide +kernel
set_option maxRecDepth 20000 in
theorem ggX0_canCome_X0_isRouter : GoodIn wsX0_canCome wsX0_isRouter := goodIn_r _ [7, 8, 43, 44, 45, 46, 47, 48, 49, 50] (by decide +kernel) (by decide +kernel)
set_option maxRecDepth 20000 in
theorem gX0_canCome_X0_isRouter : GoodIn wsX0_canCome (wsV RX0 76 RX0 yX0_isRouter wsX0_isRouter) := goodIn_app (goodIn_of _ (by decide +kernel)) ggX0_canCome_X0_isRouter
set_option maxRecDepth 20000 in
theorem ggX0_canCome_X0_isAim : GoodIn wsX0_canCome wsX0_isAim := goodIn_r _ [12, 13, 14, 15, 6, 16, 17, 18, 19, 20, 3, 4, 5, 7, 8, 43, 44, 45, 46, 47, 48, 49, 50] (by decide +kernel) (by decide +kernel)
set_option maxRecDepth 20000 in
theorem gX0_canCome_X0_isAim : GoodIn wsX0_canCome (wsV RX0 94 RX0 yX0_isAim wsX0_isAim) := goodIn_app (goodIn_of _ (by decide +kernel)) ggX0_canCome_X0_isAim
set_option maxRecDepth 20000 in
theorem ggX0_canCome_X0_measure : GoodIn wsX0_canCome wsX0_measure := goodIn_r _ [24, 8, 1, 2, 25, 26, 27, 6, 28, 29, 30, 31, 32, 33, 34, 35, 36, 37, 13, 14, 15, 16, 17, 18, 19, 20, 38, 39, 40, 41, 42, 43, 44, 45, 46, 47, 48, 49, 50] (by decide +kernel) (by decide +kernel)
set_option maxRecDepth 20000 in
theorem gX0_canCome_X0_measure : GoodIn wsX0_canCome (wsV RX0 79 RX0 yX0_measure wsX0_measure) := goodIn_app (goodIn_of _ (by decide +kernel)) ggX0_canCome_X0_measure
theorem dX0_canCome_0 : decode cX0_canCome 0 = .ok (.aload_n 0, 1) := by decide +kernel
theorem dX0_canCome_1 : decode cX0_canCome 1 = .ok (.iload_n 1, 1) := by decide +kernel
theorem dX0_canCome_2 : decode cX0_canCome 2 = .ok (.invokevirtual 76, 3) := by decide +kernel
theorem dX0_canCome_5 : decode cX0_canCome 5 = .ok (.ifCond .eq 12, 3) := by decide +kernel
theorem dX0_canCome_8 : decode cX0_canCome 8 = .ok (.aload_n 0, 1) := by decide +kernel
theorem dX0_canCome_9 : decode cX0_canCome 9 = .ok (.iload_n 2, 1) := by decide +kernel
theorem dX0_canCome_10 : decode cX0_canCome 10 = .ok (.iload_n 3, 1) := by decide +kernel
theorem dX0_canCome_11 : decode cX0_canCome 11 = .ok (.invokevirtual 94, 3) := by decide +kernel
theorem dX0_canCome_14 : decode cX0_canCome 14 = .ok (.ifCond .ne 5, 3) := by decide +kernel
theorem dX0_canCome_17 : decode cX0_canCome 17 = .ok (.iconst 0, 1) := by decide +kernel
theorem dX0_canCome_18 : decode cX0_canCome 18 = .ok (.ireturn, 1) := by decide +kernel
theorem dX0_canCome_19 : decode cX0_canCome 19 = .ok (.aload_n 0, 1) := by decide +kernel
theorem dX0_canCome_20 : decode cX0_canCome 20 = .ok (.iload_n 2, 1) := by decide +kernel
theorem dX0_canCome_21 : decode cX0_canCome 21 = .ok (.iload_n 3, 1) := by decide +kernel
theorem dX0_canCome_22 : decode cX0_canCome 22 = .ok (.invokevirtual 79, 3) := by decide +kernel
theorem dX0_canCome_25 : decode cX0_canCome 25 = .ok (.aload_n 0, 1) := by decide +kernel
theorem dX0_canCome_26 : decode cX0_canCome 26 = .ok (.getfield 33, 3) := by decide +kernel
theorem dX0_canCome_29 : decode cX0_canCome 29 = .ok (.iload_n 1, 1) := by decide +kernel
theorem dX0_canCome_30 : decode cX0_canCome 30 = .ok (.iaload, 1) := by decide +kernel
theorem dX0_canCome_31 : decode cX0_canCome 31 = .ok (.ldc 83, 2) := by decide +kernel
theorem dX0_canCome_33 : decode cX0_canCome 33 = .ok (.if_icmp .ge 7, 3) := by decide +kernel
theorem dX0_canCome_36 : decode cX0_canCome 36 = .ok (.iconst 1, 1) := by decide +kernel
theorem dX0_canCome_37 : decode cX0_canCome 37 = .ok (.goto 4, 3) := by decide +kernel
theorem dX0_canCome_40 : decode cX0_canCome 40 = .ok (.iconst 0, 1) := by decide +kernel
theorem dX0_canCome_41 : decode cX0_canCome 41 = .ok (.ireturn, 1) := by decide +kernel
set_option maxRecDepth 20000 in
theorem ggX0_measure_X0_portOn : GoodIn wsX0_measure wsX0_portOn := goodIn_r _ [8, 9, 10, 11, 7, 12, 31, 32, 33, 34, 35, 36, 37, 38] (by decide +kernel) (by decide +kernel)
set_option maxRecDepth 20000 in
theorem gX0_measure_X0_portOn : GoodIn wsX0_measure (wsV RX0 59 RX0 yX0_portOn wsX0_portOn) := goodIn_app (goodIn_of _ (by decide +kernel)) ggX0_measure_X0_portOn
set_option maxRecDepth 20000 in
theorem ggX0_measure_X0_findNearest : GoodIn wsX0_measure wsX0_findNearest := goodIn_r _ [16, 17, 3, 1, 9, 2, 10, 11, 7, 12, 18, 19, 20, 21, 22, 23, 24, 25, 31, 32, 33, 34, 35, 36, 37, 38] (by decide +kernel) (by decide +kernel)
set_option maxRecDepth 20000 in
theorem gX0_measure_X0_findNearest : GoodIn wsX0_measure (wsV RX0 98 RX0 yX0_findNearest wsX0_findNearest) := goodIn_app (goodIn_of _ (by decide +kernel)) ggX0_measure_X0_findNearest
set_option maxRecDepth 20000 in
theorem ggX0_measure_X0_shortenDistances : GoodIn wsX0_measure wsX0_shortenDistances := goodIn_r _ [29, 1, 9, 30, 17, 2, 10, 11, 7, 12, 18, 19, 20, 21, 22, 23, 24, 25, 31, 32, 33, 34, 35, 36, 37, 38] (by decide +kernel) (by decide +kernel)
set_option maxRecDepth 20000 in
theorem gX0_measure_X0_shortenDistances : GoodIn wsX0_measure (wsV RX0 101 RX0 yX0_shortenDistances wsX0_shortenDistances) := goodIn_app (goodIn_of _ (by decide +kernel)) ggX0_measure_X0_shortenDistances
theorem dX0_measure_0 : decode cX0_measure 0 = .ok (.iconst 0, 1) := by decide +kernel
theorem dX0_measure_1 : decode cX0_measure 1 = .ok (.istore_n 3, 1) := by decide +kernel
theorem dX0_measure_2 : decode cX0_measure 2 = .ok (.iload_n 3, 1) := by decide +kernel
theorem dX0_measure_3 : decode cX0_measure 3 = .ok (.aload_n 0, 1) := by decide +kernel
theorem dX0_measure_4 : decode cX0_measure 4 = .ok (.getfield 18, 3) := by decide +kernel
theorem dX0_measure_7 : decode cX0_measure 7 = .ok (.if_icmp .ge 60, 3) := by decide +kernel
theorem dX0_measure_10 : decode cX0_measure 10 = .ok (.iload_n 1, 1) := by decide +kernel
theorem dX0_measure_11 : decode cX0_measure 11 = .ok (.ifCond .eq 21, 3) := by decide +kernel
theorem dX0_measure_14 : decode cX0_measure 14 = .ok (.aload_n 0, 1) := by decide +kernel
theorem dX0_measure_15 : decode cX0_measure 15 = .ok (.iload_n 3, 1) := by decide +kernel
theorem dX0_measure_16 : decode cX0_measure 16 = .ok (.iload_n 2, 1) := by decide +kernel
theorem dX0_measure_17 : decode cX0_measure 17 = .ok (.invokevirtual 59, 3) := by decide +kernel
theorem dX0_measure_20 : decode cX0_measure 20 = .ok (.iconst (-1), 1) := by decide +kernel
theorem dX0_measure_21 : decode cX0_measure 21 = .ok (.if_icmp .eq 7, 3) := by decide +kernel
theorem dX0_measure_24 : decode cX0_measure 24 = .ok (.iconst 1, 1) := by decide +kernel
theorem dX0_measure_25 : decode cX0_measure 25 = .ok (.goto 17, 3) := by decide +kernel
theorem dX0_measure_28 : decode cX0_measure 28 = .ok (.iconst 0, 1) := by decide +kernel
theorem dX0_measure_29 : decode cX0_measure 29 = .ok (.goto 13, 3) := by decide +kernel
theorem dX0_measure_32 : decode cX0_measure 32 = .ok (.iload_n 3, 1) := by decide +kernel
theorem dX0_measure_33 : decode cX0_measure 33 = .ok (.iload_n 2, 1) := by decide +kernel
theorem dX0_measure_34 : decode cX0_measure 34 = .ok (.if_icmp .ne 7, 3) := by decide +kernel
theorem dX0_measure_37 : decode cX0_measure 37 = .ok (.iconst 1, 1) := by decide +kernel
theorem dX0_measure_38 : decode cX0_measure 38 = .ok (.goto 4, 3) := by decide +kernel
theorem dX0_measure_41 : decode cX0_measure 41 = .ok (.iconst 0, 1) := by decide +kernel
theorem dX0_measure_42 : decode cX0_measure 42 = .ok (.istore 4, 2) := by decide +kernel
theorem dX0_measure_44 : decode cX0_measure 44 = .ok (.aload_n 0, 1) := by decide +kernel
theorem dX0_measure_45 : decode cX0_measure 45 = .ok (.getfield 33, 3) := by decide +kernel
theorem dX0_measure_48 : decode cX0_measure 48 = .ok (.iload_n 3, 1) := by decide +kernel
theorem dX0_measure_49 : decode cX0_measure 49 = .ok (.iload 4, 2) := by decide +kernel
theorem dX0_measure_51 : decode cX0_measure 51 = .ok (.ifCond .eq 7, 3) := by decide +kernel
theorem dX0_measure_54 : decode cX0_measure 54 = .ok (.iconst 0, 1) := by decide +kernel
theorem dX0_measure_55 : decode cX0_measure 55 = .ok (.goto 5, 3) := by decide +kernel
theorem dX0_measure_58 : decode cX0_measure 58 = .ok (.ldc 83, 2) := by decide +kernel
theorem dX0_measure_60 : decode cX0_measure 60 = .ok (.iastore, 1) := by decide +kernel
theorem dX0_measure_61 : decode cX0_measure 61 = .ok (.iinc 3 1, 3) := by decide +kernel
theorem dX0_measure_64 : decode cX0_measure 64 = .ok (.goto (-62), 3) := by decide +kernel
theorem dX0_measure_67 : decode cX0_measure 67 = .ok (.iconst 1, 1) := by decide +kernel
theorem dX0_measure_68 : decode cX0_measure 68 = .ok (.istore_n 3, 1) := by decide +kernel
theorem dX0_measure_69 : decode cX0_measure 69 = .ok (.iconst 0, 1) := by decide +kernel
theorem dX0_measure_70 : decode cX0_measure 70 = .ok (.istore 4, 2) := by decide +kernel
theorem dX0_measure_72 : decode cX0_measure 72 = .ok (.iload_n 3, 1) := by decide +kernel
theorem dX0_measure_73 : decode cX0_measure 73 = .ok (.ifCond .eq 27, 3) := by decide +kernel
theorem dX0_measure_76 : decode cX0_measure 76 = .ok (.iload 4, 2) := by decide +kernel
theorem dX0_measure_78 : decode cX0_measure 78 = .ok (.aload_n 0, 1) := by decide +kernel
theorem dX0_measure_79 : decode cX0_measure 79 = .ok (.getfield 18, 3) := by decide +kernel
theorem dX0_measure_82 : decode cX0_measure 82 = .ok (.if_icmp .ge 18, 3) := by decide +kernel
theorem dX0_measure_85 : decode cX0_measure 85 = .ok (.aload_n 0, 1) := by decide +kernel
theorem dX0_measure_86 : decode cX0_measure 86 = .ok (.invokevirtual 98, 3) := by decide +kernel
theorem dX0_measure_89 : decode cX0_measure 89 = .ok (.aload_n 0, 1) := by decide +kernel
theorem dX0_measure_90 : decode cX0_measure 90 = .ok (.invokevirtual 101, 3) := by decide +kernel
theorem dX0_measure_93 : decode cX0_measure 93 = .ok (.istore_n 3, 1) := by decide +kernel
theorem dX0_measure_94 : decode cX0_measure 94 = .ok (.iinc 4 1, 3) := by decide +kernel
theorem dX0_measure_97 : decode cX0_measure 97 = .ok (.goto (-25), 3) := by decide +kernel
theorem dX0_measure_100 : decode cX0_measure 100 = .ok (.return_, 1) := by decide +kernel
set_option maxRecDepth 20000 in
theorem ggX0_findNearest_X0_placeOf : GoodIn wsX0_findNearest wsX0_placeOf := goodIn_r _ [9] (by decide +kernel) (by decide +kernel)
set_option maxRecDepth 20000 in
theorem gX0_findNearest_X0_placeOf : GoodIn wsX0_findNearest (va_wsS RX0 56 yX0_placeOf wsX0_placeOf) := goodIn_app (goodIn_of _ (by decide +kernel)) ggX0_findNearest_X0_placeOf
set_option maxRecDepth 20000 in
theorem ggX0_findNearest_X0_isUp : GoodIn wsX0_findNearest wsX0_isUp := goodIn_r _ [13, 14, 15, 16, 8, 17, 18, 19, 20, 21, 22, 23, 24, 25] (by decide +kernel) (by decide +kernel)
set_option maxRecDepth 20000 in
theorem gX0_findNearest_X0_isUp : GoodIn wsX0_findNearest (wsV RX0 65 RX0 yX0_isUp wsX0_isUp) := goodIn_app (goodIn_of _ (by decide +kernel)) ggX0_findNearest_X0_isUp
theorem dX0_findNearest_0 : decode cX0_findNearest 0 = .ok (.iconst 0, 1) := by decide +kernel
theorem dX0_findNearest_1 : decode cX0_findNearest 1 = .ok (.istore_n 1, 1) := by decide +kernel
theorem dX0_findNearest_2 : decode cX0_findNearest 2 = .ok (.iload_n 1, 1) := by decide +kernel
theorem dX0_findNearest_3 : decode cX0_findNearest 3 = .ok (.bipush 16, 2) := by decide +kernel
theorem dX0_findNearest_5 : decode cX0_findNearest 5 = .ok (.if_icmp .ge 17, 3) := by decide +kernel
theorem dX0_findNearest_8 : decode cX0_findNearest 8 = .ok (.aload_n 0, 1) := by decide +kernel
theorem dX0_findNearest_9 : decode cX0_findNearest 9 = .ok (.getfield 36, 3) := by decide +kernel
theorem dX0_findNearest_12 : decode cX0_findNearest 12 = .ok (.iload_n 1, 1) := by decide +kernel
theorem dX0_findNearest_13 : decode cX0_findNearest 13 = .ok (.ldc 83, 2) := by decide +kernel
theorem dX0_findNearest_15 : decode cX0_findNearest 15 = .ok (.iastore, 1) := by decide +kernel
theorem dX0_findNearest_16 : decode cX0_findNearest 16 = .ok (.iinc 1 1, 3) := by decide +kernel
theorem dX0_findNearest_19 : decode cX0_findNearest 19 = .ok (.goto (-17), 3) := by decide +kernel
theorem dX0_findNearest_22 : decode cX0_findNearest 22 = .ok (.iconst 0, 1) := by decide +kernel
theorem dX0_findNearest_23 : decode cX0_findNearest 23 = .ok (.istore_n 1, 1) := by decide +kernel
theorem dX0_findNearest_24 : decode cX0_findNearest 24 = .ok (.iload_n 1, 1) := by decide +kernel
theorem dX0_findNearest_25 : decode cX0_findNearest 25 = .ok (.aload_n 0, 1) := by decide +kernel
theorem dX0_findNearest_26 : decode cX0_findNearest 26 = .ok (.getfield 18, 3) := by decide +kernel
theorem dX0_findNearest_29 : decode cX0_findNearest 29 = .ok (.if_icmp .ge 68, 3) := by decide +kernel
theorem dX0_findNearest_32 : decode cX0_findNearest 32 = .ok (.iconst 0, 1) := by decide +kernel
theorem dX0_findNearest_33 : decode cX0_findNearest 33 = .ok (.istore_n 2, 1) := by decide +kernel
theorem dX0_findNearest_34 : decode cX0_findNearest 34 = .ok (.iload_n 2, 1) := by decide +kernel
theorem dX0_findNearest_35 : decode cX0_findNearest 35 = .ok (.iconst 4, 1) := by decide +kernel
theorem dX0_findNearest_36 : decode cX0_findNearest 36 = .ok (.if_icmp .ge 55, 3) := by decide +kernel
theorem dX0_findNearest_39 : decode cX0_findNearest 39 = .ok (.aload_n 0, 1) := by decide +kernel
theorem dX0_findNearest_40 : decode cX0_findNearest 40 = .ok (.getfield 22, 3) := by decide +kernel
theorem dX0_findNearest_43 : decode cX0_findNearest 43 = .ok (.iload_n 1, 1) := by decide +kernel
theorem dX0_findNearest_44 : decode cX0_findNearest 44 = .ok (.iload_n 2, 1) := by decide +kernel
theorem dX0_findNearest_45 : decode cX0_findNearest 45 = .ok (.invokestatic 56, 3) := by decide +kernel
theorem dX0_findNearest_48 : decode cX0_findNearest 48 = .ok (.iaload, 1) := by decide +kernel
theorem dX0_findNearest_49 : decode cX0_findNearest 49 = .ok (.istore_n 3, 1) := by decide +kernel
theorem dX0_findNearest_50 : decode cX0_findNearest 50 = .ok (.aload_n 0, 1) := by decide +kernel
theorem dX0_findNearest_51 : decode cX0_findNearest 51 = .ok (.iload_n 3, 1) := by decide +kernel
theorem dX0_findNearest_52 : decode cX0_findNearest 52 = .ok (.invokevirtual 65, 3) := by decide +kernel
theorem dX0_findNearest_55 : decode cX0_findNearest 55 = .ok (.ifCond .eq 30, 3) := by decide +kernel
theorem dX0_findNearest_58 : decode cX0_findNearest 58 = .ok (.aload_n 0, 1) := by decide +kernel
theorem dX0_findNearest_59 : decode cX0_findNearest 59 = .ok (.getfield 33, 3) := by decide +kernel
theorem dX0_findNearest_62 : decode cX0_findNearest 62 = .ok (.iload_n 1, 1) := by decide +kernel
theorem dX0_findNearest_63 : decode cX0_findNearest 63 = .ok (.iaload, 1) := by decide +kernel
theorem dX0_findNearest_64 : decode cX0_findNearest 64 = .ok (.aload_n 0, 1) := by decide +kernel
theorem dX0_findNearest_65 : decode cX0_findNearest 65 = .ok (.getfield 36, 3) := by decide +kernel
theorem dX0_findNearest_68 : decode cX0_findNearest 68 = .ok (.iload_n 3, 1) := by decide +kernel
theorem dX0_findNearest_69 : decode cX0_findNearest 69 = .ok (.iaload, 1) := by decide +kernel
theorem dX0_findNearest_70 : decode cX0_findNearest 70 = .ok (.if_icmp .ge 15, 3) := by decide +kernel
theorem dX0_findNearest_73 : decode cX0_findNearest 73 = .ok (.aload_n 0, 1) := by decide +kernel
theorem dX0_findNearest_74 : decode cX0_findNearest 74 = .ok (.getfield 36, 3) := by decide +kernel
theorem dX0_findNearest_77 : decode cX0_findNearest 77 = .ok (.iload_n 3, 1) := by decide +kernel
theorem dX0_findNearest_78 : decode cX0_findNearest 78 = .ok (.aload_n 0, 1) := by decide +kernel
theorem dX0_findNearest_79 : decode cX0_findNearest 79 = .ok (.getfield 33, 3) := by decide +kernel
theorem dX0_findNearest_82 : decode cX0_findNearest 82 = .ok (.iload_n 1, 1) := by decide +kernel
theorem dX0_findNearest_83 : decode cX0_findNearest 83 = .ok (.iaload, 1) := by decide +kernel
theorem dX0_findNearest_84 : decode cX0_findNearest 84 = .ok (.iastore, 1) := by decide +kernel
theorem dX0_findNearest_85 : decode cX0_findNearest 85 = .ok (.iinc 2 1, 3) := by decide +kernel
theorem dX0_findNearest_88 : decode cX0_findNearest 88 = .ok (.goto (-54), 3) := by decide +kernel
theorem dX0_findNearest_91 : decode cX0_findNearest 91 = .ok (.iinc 1 1, 3) := by decide +kernel
theorem dX0_findNearest_94 : decode cX0_findNearest 94 = .ok (.goto (-70), 3) := by decide +kernel
theorem dX0_findNearest_97 : decode cX0_findNearest 97 = .ok (.return_, 1) := by decide +kernel
set_option maxRecDepth 20000 in
theorem ggX0_shortenDistances_X0_placeOf : GoodIn wsX0_shortenDistances wsX0_placeOf := goodIn_r _ [9] (by decide +kernel) (by decide +kernel)
set_option maxRecDepth 20000 in
theorem gX0_shortenDistances_X0_placeOf : GoodIn wsX0_shortenDistances (va_wsS RX0 56 yX0_placeOf wsX0_placeOf) := goodIn_app (goodIn_of _ (by decide +kernel)) ggX0_shortenDistances_X0_placeOf
set_option maxRecDepth 20000 in
theorem ggX0_shortenDistances_X0_isUp : GoodIn wsX0_shortenDistances wsX0_isUp := goodIn_r _ [13, 14, 15, 16, 8, 17, 18, 19, 20, 21, 22, 23, 24, 25] (by decide +kernel) (by decide +kernel)
set_option maxRecDepth 20000 in
theorem gX0_shortenDistances_X0_isUp : GoodIn wsX0_shortenDistances (wsV RX0 65 RX0 yX0_isUp wsX0_isUp) := goodIn_app (goodIn_of _ (by decide +kernel)) ggX0_shortenDistances_X0_isUp
theorem dX0_shortenDistances_0 : decode cX0_shortenDistances 0 = .ok (.iconst 0, 1) := by decide +kernel
theorem dX0_shortenDistances_1 : decode cX0_shortenDistances 1 = .ok (.istore_n 1, 1) := by decide +kernel
theorem dX0_shortenDistances_2 : decode cX0_shortenDistances 2 = .ok (.iconst 0, 1) := by decide +kernel
theorem dX0_shortenDistances_3 : decode cX0_shortenDistances 3 = .ok (.istore_n 2, 1) := by decide +kernel
theorem dX0_shortenDistances_4 : decode cX0_shortenDistances 4 = .ok (.iload_n 2, 1) := by decide +kernel
theorem dX0_shortenDistances_5 : decode cX0_shortenDistances 5 = .ok (.aload_n 0, 1) := by decide +kernel
theorem dX0_shortenDistances_6 : decode cX0_shortenDistances 6 = .ok (.getfield 18, 3) := by decide +kernel
theorem dX0_shortenDistances_9 : decode cX0_shortenDistances 9 = .ok (.if_icmp .ge 94, 3) := by decide +kernel
theorem dX0_shortenDistances_12 : decode cX0_shortenDistances 12 = .ok (.iconst 0, 1) := by decide +kernel
theorem dX0_shortenDistances_13 : decode cX0_shortenDistances 13 = .ok (.istore_n 3, 1) := by decide +kernel
theorem dX0_shortenDistances_14 : decode cX0_shortenDistances 14 = .ok (.iload_n 3, 1) := by decide +kernel
theorem dX0_shortenDistances_15 : decode cX0_shortenDistances 15 = .ok (.iconst 4, 1) := by decide +kernel
theorem dX0_shortenDistances_16 : decode cX0_shortenDistances 16 = .ok (.if_icmp .ge 81, 3) := by decide +kernel
theorem dX0_shortenDistances_19 : decode cX0_shortenDistances 19 = .ok (.iload_n 2, 1) := by decide +kernel
theorem dX0_shortenDistances_20 : decode cX0_shortenDistances 20 = .ok (.iload_n 3, 1) := by decide +kernel
theorem dX0_shortenDistances_21 : decode cX0_shortenDistances 21 = .ok (.invokestatic 56, 3) := by decide +kernel
theorem dX0_shortenDistances_24 : decode cX0_shortenDistances 24 = .ok (.istore 4, 2) := by decide +kernel
theorem dX0_shortenDistances_26 : decode cX0_shortenDistances 26 = .ok (.aload_n 0, 1) := by decide +kernel
theorem dX0_shortenDistances_27 : decode cX0_shortenDistances 27 = .ok (.getfield 22, 3) := by decide +kernel
theorem dX0_shortenDistances_30 : decode cX0_shortenDistances 30 = .ok (.iload 4, 2) := by decide +kernel
theorem dX0_shortenDistances_32 : decode cX0_shortenDistances 32 = .ok (.iaload, 1) := by decide +kernel
theorem dX0_shortenDistances_33 : decode cX0_shortenDistances 33 = .ok (.istore 5, 2) := by decide +kernel
theorem dX0_shortenDistances_35 : decode cX0_shortenDistances 35 = .ok (.aload_n 0, 1) := by decide +kernel
theorem dX0_shortenDistances_36 : decode cX0_shortenDistances 36 = .ok (.iload 5, 2) := by decide +kernel
theorem dX0_shortenDistances_38 : decode cX0_shortenDistances 38 = .ok (.invokevirtual 65, 3) := by decide +kernel
theorem dX0_shortenDistances_41 : decode cX0_shortenDistances 41 = .ok (.ifCond .eq 50, 3) := by decide +kernel
theorem dX0_shortenDistances_44 : decode cX0_shortenDistances 44 = .ok (.aload_n 0, 1) := by decide +kernel
theorem dX0_shortenDistances_45 : decode cX0_shortenDistances 45 = .ok (.getfield 26, 3) := by decide +kernel
theorem dX0_shortenDistances_48 : decode cX0_shortenDistances 48 = .ok (.iload 4, 2) := by decide +kernel
theorem dX0_shortenDistances_50 : decode cX0_shortenDistances 50 = .ok (.iaload, 1) := by decide +kernel
theorem dX0_shortenDistances_51 : decode cX0_shortenDistances 51 = .ok (.aload_n 0, 1) := by decide +kernel
theorem dX0_shortenDistances_52 : decode cX0_shortenDistances 52 = .ok (.getfield 36, 3) := by decide +kernel
theorem dX0_shortenDistances_55 : decode cX0_shortenDistances 55 = .ok (.iload 5, 2) := by decide +kernel
theorem dX0_shortenDistances_57 : decode cX0_shortenDistances 57 = .ok (.iaload, 1) := by decide +kernel
theorem dX0_shortenDistances_58 : decode cX0_shortenDistances 58 = .ok (.iadd, 1) := by decide +kernel
theorem dX0_shortenDistances_59 : decode cX0_shortenDistances 59 = .ok (.aload_n 0, 1) := by decide +kernel
theorem dX0_shortenDistances_60 : decode cX0_shortenDistances 60 = .ok (.getfield 33, 3) := by decide +kernel
theorem dX0_shortenDistances_63 : decode cX0_shortenDistances 63 = .ok (.iload_n 2, 1) := by decide +kernel
theorem dX0_shortenDistances_64 : decode cX0_shortenDistances 64 = .ok (.iaload, 1) := by decide +kernel
theorem dX0_shortenDistances_65 : decode cX0_shortenDistances 65 = .ok (.if_icmp .ge 26, 3) := by decide +kernel
theorem dX0_shortenDistances_68 : decode cX0_shortenDistances 68 = .ok (.aload_n 0, 1) := by decide +kernel
theorem dX0_shortenDistances_69 : decode cX0_shortenDistances 69 = .ok (.getfield 33, 3) := by decide +kernel
theorem dX0_shortenDistances_72 : decode cX0_shortenDistances 72 = .ok (.iload_n 2, 1) := by decide +kernel
theorem dX0_shortenDistances_73 : decode cX0_shortenDistances 73 = .ok (.aload_n 0, 1) := by decide +kernel
theorem dX0_shortenDistances_74 : decode cX0_shortenDistances 74 = .ok (.getfield 26, 3) := by decide +kernel
theorem dX0_shortenDistances_77 : decode cX0_shortenDistances 77 = .ok (.iload 4, 2) := by decide +kernel
theorem dX0_shortenDistances_79 : decode cX0_shortenDistances 79 = .ok (.iaload, 1) := by decide +kernel
theorem dX0_shortenDistances_80 : decode cX0_shortenDistances 80 = .ok (.aload_n 0, 1) := by decide +kernel
theorem dX0_shortenDistances_81 : decode cX0_shortenDistances 81 = .ok (.getfield 36, 3) := by decide +kernel
theorem dX0_shortenDistances_84 : decode cX0_shortenDistances 84 = .ok (.iload 5, 2) := by decide +kernel
theorem dX0_shortenDistances_86 : decode cX0_shortenDistances 86 = .ok (.iaload, 1) := by decide +kernel
theorem dX0_shortenDistances_87 : decode cX0_shortenDistances 87 = .ok (.iadd, 1) := by decide +kernel
theorem dX0_shortenDistances_88 : decode cX0_shortenDistances 88 = .ok (.iastore, 1) := by decide +kernel
theorem dX0_shortenDistances_89 : decode cX0_shortenDistances 89 = .ok (.iconst 1, 1) := by decide +kernel
theorem dX0_shortenDistances_90 : decode cX0_shortenDistances 90 = .ok (.istore_n 1, 1) := by decide +kernel
theorem dX0_shortenDistances_91 : decode cX0_shortenDistances 91 = .ok (.iinc 3 1, 3) := by decide +kernel
theorem dX0_shortenDistances_94 : decode cX0_shortenDistances 94 = .ok (.goto (-80), 3) := by decide +kernel
theorem dX0_shortenDistances_97 : decode cX0_shortenDistances 97 = .ok (.iinc 2 1, 3) := by decide +kernel
theorem dX0_shortenDistances_100 : decode cX0_shortenDistances 100 = .ok (.goto (-96), 3) := by decide +kernel
theorem dX0_shortenDistances_103 : decode cX0_shortenDistances 103 = .ok (.iload_n 1, 1) := by decide +kernel
theorem dX0_shortenDistances_104 : decode cX0_shortenDistances 104 = .ok (.ireturn, 1) := by decide +kernel
set_option maxRecDepth 20000 in
theorem ggX0_findWay_X0_portOn : GoodIn wsX0_findWay wsX0_portOn := goodIn_r _ [11, 5, 12, 13, 10, 14, 32, 33, 34, 35, 36, 37, 38, 39] (by decide +kernel) (by decide +kernel)
set_option maxRecDepth 20000 in
theorem gX0_findWay_X0_portOn : GoodIn wsX0_findWay (wsV RX0 59 RX0 yX0_portOn wsX0_portOn) := goodIn_app (goodIn_of _ (by decide +kernel)) ggX0_findWay_X0_portOn
set_option maxRecDepth 20000 in
theorem ggX0_findWay_X0_placeOf : GoodIn wsX0_findWay wsX0_placeOf := goodIn_r _ [14] (by decide +kernel) (by decide +kernel)
set_option maxRecDepth 20000 in
theorem gX0_findWay_X0_placeOf : GoodIn wsX0_findWay (va_wsS RX0 56 yX0_placeOf wsX0_placeOf) := goodIn_app (goodIn_of _ (by decide +kernel)) ggX0_findWay_X0_placeOf
set_option maxRecDepth 20000 in
theorem ggX0_findWay_X0_isUp : GoodIn wsX0_findWay wsX0_isUp := goodIn_r _ [18, 19, 20, 21, 10, 22, 32, 33, 34, 35, 36, 37, 38, 39] (by decide +kernel) (by decide +kernel)
set_option maxRecDepth 20000 in
theorem gX0_findWay_X0_isUp : GoodIn wsX0_findWay (wsV RX0 65 RX0 yX0_isUp wsX0_isUp) := goodIn_app (goodIn_of _ (by decide +kernel)) ggX0_findWay_X0_isUp
set_option maxRecDepth 20000 in
theorem ggX0_findWay_X0_nearestOther : GoodIn wsX0_findWay wsX0_nearestOther := goodIn_r _ [26, 4, 27, 3, 7, 8, 9, 10, 11, 5, 12, 13, 14, 32, 33, 34, 35, 36, 37, 38, 39] (by decide +kernel) (by decide +kernel)
set_option maxRecDepth 20000 in
theorem gX0_findWay_X0_nearestOther : GoodIn wsX0_findWay (wsV RX0 105 RX0 yX0_nearestOther wsX0_nearestOther) := goodIn_app (goodIn_of _ (by decide +kernel)) ggX0_findWay_X0_nearestOther
set_option maxRecDepth 20000 in
theorem ggX0_findWay_X0_isRouter : GoodIn wsX0_findWay wsX0_isRouter := goodIn_r _ [31, 27, 32, 33, 34, 35, 36, 37, 38, 39] (by decide +kernel) (by decide +kernel)
set_option maxRecDepth 20000 in
theorem gX0_findWay_X0_isRouter : GoodIn wsX0_findWay (wsV RX0 76 RX0 yX0_isRouter wsX0_isRouter) := goodIn_app (goodIn_of _ (by decide +kernel)) ggX0_findWay_X0_isRouter
theorem dX0_findWay_0 : decode cX0_findWay 0 = .ok (.aload_n 0, 1) := by decide +kernel
theorem dX0_findWay_1 : decode cX0_findWay 1 = .ok (.iconst (-1), 1) := by decide +kernel
theorem dX0_findWay_2 : decode cX0_findWay 2 = .ok (.putfield 39, 3) := by decide +kernel
theorem dX0_findWay_5 : decode cX0_findWay 5 = .ok (.aload_n 0, 1) := by decide +kernel
theorem dX0_findWay_6 : decode cX0_findWay 6 = .ok (.iconst (-1), 1) := by decide +kernel
theorem dX0_findWay_7 : decode cX0_findWay 7 = .ok (.putfield 42, 3) := by decide +kernel
theorem dX0_findWay_10 : decode cX0_findWay 10 = .ok (.aload_n 0, 1) := by decide +kernel
theorem dX0_findWay_11 : decode cX0_findWay 11 = .ok (.getfield 33, 3) := by decide +kernel
theorem dX0_findWay_14 : decode cX0_findWay 14 = .ok (.iload_n 1, 1) := by decide +kernel
theorem dX0_findWay_15 : decode cX0_findWay 15 = .ok (.iaload, 1) := by decide +kernel
theorem dX0_findWay_16 : decode cX0_findWay 16 = .ok (.ifCond .ne 22, 3) := by decide +kernel
theorem dX0_findWay_19 : decode cX0_findWay 19 = .ok (.aload_n 0, 1) := by decide +kernel
theorem dX0_findWay_20 : decode cX0_findWay 20 = .ok (.iload_n 2, 1) := by decide +kernel
theorem dX0_findWay_21 : decode cX0_findWay 21 = .ok (.ifCond .eq 12, 3) := by decide +kernel
theorem dX0_findWay_24 : decode cX0_findWay 24 = .ok (.aload_n 0, 1) := by decide +kernel
theorem dX0_findWay_25 : decode cX0_findWay 25 = .ok (.iload_n 1, 1) := by decide +kernel
theorem dX0_findWay_26 : decode cX0_findWay 26 = .ok (.iload_n 3, 1) := by decide +kernel
theorem dX0_findWay_27 : decode cX0_findWay 27 = .ok (.invokevirtual 59, 3) := by decide +kernel
theorem dX0_findWay_30 : decode cX0_findWay 30 = .ok (.goto 4, 3) := by decide +kernel
theorem dX0_findWay_33 : decode cX0_findWay 33 = .ok (.iconst (-1), 1) := by decide +kernel
theorem dX0_findWay_34 : decode cX0_findWay 34 = .ok (.putfield 39, 3) := by decide +kernel
theorem dX0_findWay_37 : decode cX0_findWay 37 = .ok (.return_, 1) := by decide +kernel
theorem dX0_findWay_38 : decode cX0_findWay 38 = .ok (.ldc 83, 2) := by decide +kernel
theorem dX0_findWay_40 : decode cX0_findWay 40 = .ok (.istore 4, 2) := by decide +kernel
theorem dX0_findWay_42 : decode cX0_findWay 42 = .ok (.iconst 0, 1) := by decide +kernel
theorem dX0_findWay_43 : decode cX0_findWay 43 = .ok (.istore 5, 2) := by decide +kernel
theorem dX0_findWay_45 : decode cX0_findWay 45 = .ok (.iload 5, 2) := by decide +kernel
theorem dX0_findWay_47 : decode cX0_findWay 47 = .ok (.iconst 4, 1) := by decide +kernel
theorem dX0_findWay_48 : decode cX0_findWay 48 = .ok (.if_icmp .ge 107, 3) := by decide +kernel
theorem dX0_findWay_51 : decode cX0_findWay 51 = .ok (.iload_n 1, 1) := by decide +kernel
theorem dX0_findWay_52 : decode cX0_findWay 52 = .ok (.iload 5, 2) := by decide +kernel
theorem dX0_findWay_54 : decode cX0_findWay 54 = .ok (.invokestatic 56, 3) := by decide +kernel
theorem dX0_findWay_57 : decode cX0_findWay 57 = .ok (.istore 6, 2) := by decide +kernel
theorem dX0_findWay_59 : decode cX0_findWay 59 = .ok (.aload_n 0, 1) := by decide +kernel
theorem dX0_findWay_60 : decode cX0_findWay 60 = .ok (.aload_n 0, 1) := by decide +kernel
theorem dX0_findWay_61 : decode cX0_findWay 61 = .ok (.getfield 22, 3) := by decide +kernel
theorem dX0_findWay_64 : decode cX0_findWay 64 = .ok (.iload 6, 2) := by decide +kernel
theorem dX0_findWay_66 : decode cX0_findWay 66 = .ok (.iaload, 1) := by decide +kernel
theorem dX0_findWay_67 : decode cX0_findWay 67 = .ok (.invokevirtual 65, 3) := by decide +kernel
theorem dX0_findWay_70 : decode cX0_findWay 70 = .ok (.ifCond .eq 18, 3) := by decide +kernel
theorem dX0_findWay_73 : decode cX0_findWay 73 = .ok (.aload_n 0, 1) := by decide +kernel
theorem dX0_findWay_74 : decode cX0_findWay 74 = .ok (.iload_n 1, 1) := by decide +kernel
theorem dX0_findWay_75 : decode cX0_findWay 75 = .ok (.aload_n 0, 1) := by decide +kernel
theorem dX0_findWay_76 : decode cX0_findWay 76 = .ok (.getfield 22, 3) := by decide +kernel
theorem dX0_findWay_79 : decode cX0_findWay 79 = .ok (.iload 6, 2) := by decide +kernel
theorem dX0_findWay_81 : decode cX0_findWay 81 = .ok (.iaload, 1) := by decide +kernel
theorem dX0_findWay_82 : decode cX0_findWay 82 = .ok (.invokevirtual 105, 3) := by decide +kernel
theorem dX0_findWay_85 : decode cX0_findWay 85 = .ok (.goto 4, 3) := by decide +kernel
theorem dX0_findWay_88 : decode cX0_findWay 88 = .ok (.iconst (-1), 1) := by decide +kernel
theorem dX0_findWay_89 : decode cX0_findWay 89 = .ok (.istore 7, 2) := by decide +kernel
theorem dX0_findWay_91 : decode cX0_findWay 91 = .ok (.aload_n 0, 1) := by decide +kernel
theorem dX0_findWay_92 : decode cX0_findWay 92 = .ok (.iload 7, 2) := by decide +kernel
theorem dX0_findWay_94 : decode cX0_findWay 94 = .ok (.invokevirtual 76, 3) := by decide +kernel
theorem dX0_findWay_97 : decode cX0_findWay 97 = .ok (.ifCond .eq 52, 3) := by decide +kernel
theorem dX0_findWay_100 : decode cX0_findWay 100 = .ok (.aload_n 0, 1) := by decide +kernel
theorem dX0_findWay_101 : decode cX0_findWay 101 = .ok (.getfield 26, 3) := by decide +kernel
theorem dX0_findWay_104 : decode cX0_findWay 104 = .ok (.iload 6, 2) := by decide +kernel
theorem dX0_findWay_106 : decode cX0_findWay 106 = .ok (.iaload, 1) := by decide +kernel
theorem dX0_findWay_107 : decode cX0_findWay 107 = .ok (.aload_n 0, 1) := by decide +kernel
theorem dX0_findWay_108 : decode cX0_findWay 108 = .ok (.getfield 33, 3) := by decide +kernel
theorem dX0_findWay_111 : decode cX0_findWay 111 = .ok (.iload 7, 2) := by decide +kernel
theorem dX0_findWay_113 : decode cX0_findWay 113 = .ok (.iaload, 1) := by decide +kernel
theorem dX0_findWay_114 : decode cX0_findWay 114 = .ok (.iadd, 1) := by decide +kernel
theorem dX0_findWay_115 : decode cX0_findWay 115 = .ok (.iload 4, 2) := by decide +kernel
theorem dX0_findWay_117 : decode cX0_findWay 117 = .ok (.if_icmp .ge 32, 3) := by decide +kernel
theorem dX0_findWay_120 : decode cX0_findWay 120 = .ok (.aload_n 0, 1) := by decide +kernel
theorem dX0_findWay_121 : decode cX0_findWay 121 = .ok (.getfield 26, 3) := by decide +kernel
theorem dX0_findWay_124 : decode cX0_findWay 124 = .ok (.iload 6, 2) := by decide +kernel
theorem dX0_findWay_126 : decode cX0_findWay 126 = .ok (.iaload, 1) := by decide +kernel
theorem dX0_findWay_127 : decode cX0_findWay 127 = .ok (.aload_n 0, 1) := by decide +kernel
theorem dX0_findWay_128 : decode cX0_findWay 128 = .ok (.getfield 33, 3) := by decide +kernel
theorem dX0_findWay_131 : decode cX0_findWay 131 = .ok (.iload 7, 2) := by decide +kernel
theorem dX0_findWay_133 : decode cX0_findWay 133 = .ok (.iaload, 1) := by decide +kernel
theorem dX0_findWay_134 : decode cX0_findWay 134 = .ok (.iadd, 1) := by decide +kernel
theorem dX0_findWay_135 : decode cX0_findWay 135 = .ok (.istore 4, 2) := by decide +kernel
theorem dX0_findWay_137 : decode cX0_findWay 137 = .ok (.aload_n 0, 1) := by decide +kernel
theorem dX0_findWay_138 : decode cX0_findWay 138 = .ok (.iload 5, 2) := by decide +kernel
theorem dX0_findWay_140 : decode cX0_findWay 140 = .ok (.putfield 39, 3) := by decide +kernel
theorem dX0_findWay_143 : decode cX0_findWay 143 = .ok (.aload_n 0, 1) := by decide +kernel
theorem dX0_findWay_144 : decode cX0_findWay 144 = .ok (.iload 7, 2) := by decide +kernel
theorem dX0_findWay_146 : decode cX0_findWay 146 = .ok (.putfield 42, 3) := by decide +kernel
theorem dX0_findWay_149 : decode cX0_findWay 149 = .ok (.iinc 5 1, 3) := by decide +kernel
theorem dX0_findWay_152 : decode cX0_findWay 152 = .ok (.goto (-107), 3) := by decide +kernel
theorem dX0_findWay_155 : decode cX0_findWay 155 = .ok (.return_, 1) := by decide +kernel
set_option maxRecDepth 20000 in
theorem ggX0_nearestOther_X0_portOn : GoodIn wsX0_nearestOther wsX0_portOn := goodIn_r _ [8, 9, 10, 11, 7, 12, 13, 14, 15, 16, 17, 18, 19, 20] (by decide +kernel) (by decide +kernel)
set_option maxRecDepth 20000 in
theorem gX0_nearestOther_X0_portOn : GoodIn wsX0_nearestOther (wsV RX0 59 RX0 yX0_portOn wsX0_portOn) := goodIn_app (goodIn_of _ (by decide +kernel)) ggX0_nearestOther_X0_portOn
theorem dX0_nearestOther_0 : decode cX0_nearestOther 0 = .ok (.iconst (-1), 1) := by decide +kernel
theorem dX0_nearestOther_1 : decode cX0_nearestOther 1 = .ok (.istore_n 3, 1) := by decide +kernel
theorem dX0_nearestOther_2 : decode cX0_nearestOther 2 = .ok (.ldc 83, 2) := by decide +kernel
theorem dX0_nearestOther_4 : decode cX0_nearestOther 4 = .ok (.istore 4, 2) := by decide +kernel
theorem dX0_nearestOther_6 : decode cX0_nearestOther 6 = .ok (.iconst 0, 1) := by decide +kernel
theorem dX0_nearestOther_7 : decode cX0_nearestOther 7 = .ok (.istore 5, 2) := by decide +kernel
theorem dX0_nearestOther_9 : decode cX0_nearestOther 9 = .ok (.iload 5, 2) := by decide +kernel
theorem dX0_nearestOther_11 : decode cX0_nearestOther 11 = .ok (.aload_n 0, 1) := by decide +kernel
theorem dX0_nearestOther_12 : decode cX0_nearestOther 12 = .ok (.getfield 18, 3) := by decide +kernel
theorem dX0_nearestOther_15 : decode cX0_nearestOther 15 = .ok (.if_icmp .ge 50, 3) := by decide +kernel
theorem dX0_nearestOther_18 : decode cX0_nearestOther 18 = .ok (.iload 5, 2) := by decide +kernel
theorem dX0_nearestOther_20 : decode cX0_nearestOther 20 = .ok (.iload_n 1, 1) := by decide +kernel
theorem dX0_nearestOther_21 : decode cX0_nearestOther 21 = .ok (.if_icmp .eq 38, 3) := by decide +kernel
theorem dX0_nearestOther_24 : decode cX0_nearestOther 24 = .ok (.aload_n 0, 1) := by decide +kernel
theorem dX0_nearestOther_25 : decode cX0_nearestOther 25 = .ok (.getfield 33, 3) := by decide +kernel
theorem dX0_nearestOther_28 : decode cX0_nearestOther 28 = .ok (.iload 5, 2) := by decide +kernel
theorem dX0_nearestOther_30 : decode cX0_nearestOther 30 = .ok (.iaload, 1) := by decide +kernel
theorem dX0_nearestOther_31 : decode cX0_nearestOther 31 = .ok (.iload 4, 2) := by decide +kernel
theorem dX0_nearestOther_33 : decode cX0_nearestOther 33 = .ok (.if_icmp .ge 26, 3) := by decide +kernel
theorem dX0_nearestOther_36 : decode cX0_nearestOther 36 = .ok (.aload_n 0, 1) := by decide +kernel
theorem dX0_nearestOther_37 : decode cX0_nearestOther 37 = .ok (.iload 5, 2) := by decide +kernel
theorem dX0_nearestOther_39 : decode cX0_nearestOther 39 = .ok (.iload_n 2, 1) := by decide +kernel
theorem dX0_nearestOther_40 : decode cX0_nearestOther 40 = .ok (.invokevirtual 59, 3) := by decide +kernel
theorem dX0_nearestOther_43 : decode cX0_nearestOther 43 = .ok (.iconst (-1), 1) := by decide +kernel
theorem dX0_nearestOther_44 : decode cX0_nearestOther 44 = .ok (.if_icmp .eq 15, 3) := by decide +kernel
theorem dX0_nearestOther_47 : decode cX0_nearestOther 47 = .ok (.iload 5, 2) := by decide +kernel
theorem dX0_nearestOther_49 : decode cX0_nearestOther 49 = .ok (.istore_n 3, 1) := by decide +kernel
theorem dX0_nearestOther_50 : decode cX0_nearestOther 50 = .ok (.aload_n 0, 1) := by decide +kernel
theorem dX0_nearestOther_51 : decode cX0_nearestOther 51 = .ok (.getfield 33, 3) := by decide +kernel
theorem dX0_nearestOther_54 : decode cX0_nearestOther 54 = .ok (.iload 5, 2) := by decide +kernel
theorem dX0_nearestOther_56 : decode cX0_nearestOther 56 = .ok (.iaload, 1) := by decide +kernel
theorem dX0_nearestOther_57 : decode cX0_nearestOther 57 = .ok (.istore 4, 2) := by decide +kernel
theorem dX0_nearestOther_59 : decode cX0_nearestOther 59 = .ok (.iinc 5 1, 3) := by decide +kernel
theorem dX0_nearestOther_62 : decode cX0_nearestOther 62 = .ok (.goto (-53), 3) := by decide +kernel
theorem dX0_nearestOther_65 : decode cX0_nearestOther 65 = .ok (.iload_n 3, 1) := by decide +kernel
theorem dX0_nearestOther_66 : decode cX0_nearestOther 66 = .ok (.ireturn, 1) := by decide +kernel
set_option maxRecDepth 20000 in
theorem ggX0_pluggedPorts_X0_isWire : GoodIn wsX0_pluggedPorts wsX0_isWire := goodIn_r _ [5] (by decide +kernel) (by decide +kernel)
set_option maxRecDepth 20000 in
theorem gX0_pluggedPorts_X0_isWire : GoodIn wsX0_pluggedPorts (va_wsS RX0 49 yX0_isWire wsX0_isWire) := goodIn_app (goodIn_of _ (by decide +kernel)) ggX0_pluggedPorts_X0_isWire
theorem dX0_pluggedPorts_0 : decode cX0_pluggedPorts 0 = .ok (.iconst 0, 1) := by decide +kernel
theorem dX0_pluggedPorts_1 : decode cX0_pluggedPorts 1 = .ok (.istore_n 1, 1) := by decide +kernel
theorem dX0_pluggedPorts_2 : decode cX0_pluggedPorts 2 = .ok (.iconst 0, 1) := by decide +kernel
theorem dX0_pluggedPorts_3 : decode cX0_pluggedPorts 3 = .ok (.istore_n 2, 1) := by decide +kernel
theorem dX0_pluggedPorts_4 : decode cX0_pluggedPorts 4 = .ok (.iload_n 2, 1) := by decide +kernel
theorem dX0_pluggedPorts_5 : decode cX0_pluggedPorts 5 = .ok (.aload_n 0, 1) := by decide +kernel
theorem dX0_pluggedPorts_6 : decode cX0_pluggedPorts 6 = .ok (.getfield 22, 3) := by decide +kernel
theorem dX0_pluggedPorts_9 : decode cX0_pluggedPorts 9 = .ok (.arraylength, 1) := by decide +kernel
theorem dX0_pluggedPorts_10 : decode cX0_pluggedPorts 10 = .ok (.if_icmp .ge 24, 3) := by decide +kernel
theorem dX0_pluggedPorts_13 : decode cX0_pluggedPorts 13 = .ok (.aload_n 0, 1) := by decide +kernel
theorem dX0_pluggedPorts_14 : decode cX0_pluggedPorts 14 = .ok (.getfield 22, 3) := by decide +kernel
theorem dX0_pluggedPorts_17 : decode cX0_pluggedPorts 17 = .ok (.iload_n 2, 1) := by decide +kernel
theorem dX0_pluggedPorts_18 : decode cX0_pluggedPorts 18 = .ok (.iaload, 1) := by decide +kernel
theorem dX0_pluggedPorts_19 : decode cX0_pluggedPorts 19 = .ok (.invokestatic 49, 3) := by decide +kernel
theorem dX0_pluggedPorts_22 : decode cX0_pluggedPorts 22 = .ok (.ifCond .eq 6, 3) := by decide +kernel
theorem dX0_pluggedPorts_25 : decode cX0_pluggedPorts 25 = .ok (.iinc 1 1, 3) := by decide +kernel
theorem dX0_pluggedPorts_28 : decode cX0_pluggedPorts 28 = .ok (.iinc 2 1, 3) := by decide +kernel
theorem dX0_pluggedPorts_31 : decode cX0_pluggedPorts 31 = .ok (.goto (-27), 3) := by decide +kernel
theorem dX0_pluggedPorts_34 : decode cX0_pluggedPorts 34 = .ok (.iload_n 1, 1) := by decide +kernel
theorem dX0_pluggedPorts_35 : decode cX0_pluggedPorts 35 = .ok (.ireturn, 1) := by decide +kernel
theorem dX0_cutWires_0 : decode cX0_cutWires 0 = .ok (.iconst 0, 1) := by decide +kernel
theorem dX0_cutWires_1 : decode cX0_cutWires 1 = .ok (.istore_n 1, 1) := by decide +kernel
theorem dX0_cutWires_2 : decode cX0_cutWires 2 = .ok (.iconst 0, 1) := by decide +kernel
theorem dX0_cutWires_3 : decode cX0_cutWires 3 = .ok (.istore_n 2, 1) := by decide +kernel
theorem dX0_cutWires_4 : decode cX0_cutWires 4 = .ok (.iload_n 2, 1) := by decide +kernel
theorem dX0_cutWires_5 : decode cX0_cutWires 5 = .ok (.bipush 16, 2) := by decide +kernel
theorem dX0_cutWires_7 : decode cX0_cutWires 7 = .ok (.if_icmp .ge 21, 3) := by decide +kernel
theorem dX0_cutWires_10 : decode cX0_cutWires 10 = .ok (.aload_n 0, 1) := by decide +kernel
theorem dX0_cutWires_11 : decode cX0_cutWires 11 = .ok (.getfield 29, 3) := by decide +kernel
theorem dX0_cutWires_14 : decode cX0_cutWires 14 = .ok (.iload_n 2, 1) := by decide +kernel
theorem dX0_cutWires_15 : decode cX0_cutWires 15 = .ok (.baload, 1) := by decide +kernel
theorem dX0_cutWires_16 : decode cX0_cutWires 16 = .ok (.ifCond .eq 6, 3) := by decide +kernel
theorem dX0_cutWires_19 : decode cX0_cutWires 19 = .ok (.iinc 1 1, 3) := by decide +kernel
theorem dX0_cutWires_22 : decode cX0_cutWires 22 = .ok (.iinc 2 1, 3) := by decide +kernel
theorem dX0_cutWires_25 : decode cX0_cutWires 25 = .ok (.goto (-21), 3) := by decide +kernel
theorem dX0_cutWires_28 : decode cX0_cutWires 28 = .ok (.iload_n 1, 1) := by decide +kernel
theorem dX0_cutWires_29 : decode cX0_cutWires 29 = .ok (.ireturn, 1) := by decide +kernel
set_option maxRecDepth 20000 in
theorem ggX0_greatestDistance_X0_measure : GoodIn wsX0_greatestDistance wsX0_measure := goodIn_r _ [8, 1, 2, 3, 9, 10, 11, 7, 12, 13, 14, 15, 16, 17, 18, 19, 20, 21, 22, 23, 24, 25, 26, 27, 28, 29, 30, 31, 32, 33, 34, 35, 36, 37, 38, 39, 40, 41, 42] (by decide +kernel) (by decide +kernel)
set_option maxRecDepth 20000 in
theorem gX0_greatestDistance_X0_measure : GoodIn wsX0_greatestDistance (wsV RX0 79 RX0 yX0_measure wsX0_measure) := goodIn_app (goodIn_of _ (by decide +kernel)) ggX0_greatestDistance_X0_measure
theorem dX0_greatestDistance_0 : decode cX0_greatestDistance 0 = .ok (.iconst 0, 1) := by decide +kernel
theorem dX0_greatestDistance_1 : decode cX0_greatestDistance 1 = .ok (.istore_n 1, 1) := by decide +kernel
theorem dX0_greatestDistance_2 : decode cX0_greatestDistance 2 = .ok (.iconst 0, 1) := by decide +kernel
theorem dX0_greatestDistance_3 : decode cX0_greatestDistance 3 = .ok (.istore_n 2, 1) := by decide +kernel
theorem dX0_greatestDistance_4 : decode cX0_greatestDistance 4 = .ok (.iload_n 2, 1) := by decide +kernel
theorem dX0_greatestDistance_5 : decode cX0_greatestDistance 5 = .ok (.aload_n 0, 1) := by decide +kernel
theorem dX0_greatestDistance_6 : decode cX0_greatestDistance 6 = .ok (.getfield 18, 3) := by decide +kernel
theorem dX0_greatestDistance_9 : decode cX0_greatestDistance 9 = .ok (.if_icmp .ge 59, 3) := by decide +kernel
theorem dX0_greatestDistance_12 : decode cX0_greatestDistance 12 = .ok (.aload_n 0, 1) := by decide +kernel
theorem dX0_greatestDistance_13 : decode cX0_greatestDistance 13 = .ok (.iconst 0, 1) := by decide +kernel
theorem dX0_greatestDistance_14 : decode cX0_greatestDistance 14 = .ok (.iload_n 2, 1) := by decide +kernel
theorem dX0_greatestDistance_15 : decode cX0_greatestDistance 15 = .ok (.invokevirtual 79, 3) := by decide +kernel
theorem dX0_greatestDistance_18 : decode cX0_greatestDistance 18 = .ok (.iconst 0, 1) := by decide +kernel
theorem dX0_greatestDistance_19 : decode cX0_greatestDistance 19 = .ok (.istore_n 3, 1) := by decide +kernel
theorem dX0_greatestDistance_20 : decode cX0_greatestDistance 20 = .ok (.iload_n 3, 1) := by decide +kernel
theorem dX0_greatestDistance_21 : decode cX0_greatestDistance 21 = .ok (.aload_n 0, 1) := by decide +kernel
theorem dX0_greatestDistance_22 : decode cX0_greatestDistance 22 = .ok (.getfield 18, 3) := by decide +kernel
theorem dX0_greatestDistance_25 : decode cX0_greatestDistance 25 = .ok (.if_icmp .ge 37, 3) := by decide +kernel
theorem dX0_greatestDistance_28 : decode cX0_greatestDistance 28 = .ok (.aload_n 0, 1) := by decide +kernel
theorem dX0_greatestDistance_29 : decode cX0_greatestDistance 29 = .ok (.getfield 33, 3) := by decide +kernel
theorem dX0_greatestDistance_32 : decode cX0_greatestDistance 32 = .ok (.iload_n 3, 1) := by decide +kernel
theorem dX0_greatestDistance_33 : decode cX0_greatestDistance 33 = .ok (.iaload, 1) := by decide +kernel
theorem dX0_greatestDistance_34 : decode cX0_greatestDistance 34 = .ok (.ldc 83, 2) := by decide +kernel
theorem dX0_greatestDistance_36 : decode cX0_greatestDistance 36 = .ok (.if_icmp .ge 20, 3) := by decide +kernel
theorem dX0_greatestDistance_39 : decode cX0_greatestDistance 39 = .ok (.aload_n 0, 1) := by decide +kernel
theorem dX0_greatestDistance_40 : decode cX0_greatestDistance 40 = .ok (.getfield 33, 3) := by decide +kernel
theorem dX0_greatestDistance_43 : decode cX0_greatestDistance 43 = .ok (.iload_n 3, 1) := by decide +kernel
theorem dX0_greatestDistance_44 : decode cX0_greatestDistance 44 = .ok (.iaload, 1) := by decide +kernel
theorem dX0_greatestDistance_45 : decode cX0_greatestDistance 45 = .ok (.iload_n 1, 1) := by decide +kernel
theorem dX0_greatestDistance_46 : decode cX0_greatestDistance 46 = .ok (.if_icmp .le 10, 3) := by decide +kernel
theorem dX0_greatestDistance_49 : decode cX0_greatestDistance 49 = .ok (.aload_n 0, 1) := by decide +kernel
theorem dX0_greatestDistance_50 : decode cX0_greatestDistance 50 = .ok (.getfield 33, 3) := by decide +kernel
theorem dX0_greatestDistance_53 : decode cX0_greatestDistance 53 = .ok (.iload_n 3, 1) := by decide +kernel
theorem dX0_greatestDistance_54 : decode cX0_greatestDistance 54 = .ok (.iaload, 1) := by decide +kernel
theorem dX0_greatestDistance_55 : decode cX0_greatestDistance 55 = .ok (.istore_n 1, 1) := by decide +kernel
theorem dX0_greatestDistance_56 : decode cX0_greatestDistance 56 = .ok (.iinc 3 1, 3) := by decide +kernel
theorem dX0_greatestDistance_59 : decode cX0_greatestDistance 59 = .ok (.goto (-39), 3) := by decide +kernel
theorem dX0_greatestDistance_62 : decode cX0_greatestDistance 62 = .ok (.iinc 2 1, 3) := by decide +kernel
theorem dX0_greatestDistance_65 : decode cX0_greatestDistance 65 = .ok (.goto (-61), 3) := by decide +kernel
theorem dX0_greatestDistance_68 : decode cX0_greatestDistance 68 = .ok (.iload_n 1, 1) := by decide +kernel
theorem dX0_greatestDistance_69 : decode cX0_greatestDistance 69 = .ok (.ireturn, 1) := by decide +kernel
theorem dX1_init_0 : decode cX1_init 0 = .ok (.aload_n 0, 1) := by decide +kernel
theorem dX1_init_1 : decode cX1_init 1 = .ok (.invokespecial 1, 3) := by decide +kernel
theorem dX1_init_4 : decode cX1_init 4 = .ok (.aload_n 0, 1) := by decide +kernel
theorem dX1_init_5 : decode cX1_init 5 = .ok (.bipush 40, 2) := by decide +kernel
theorem dX1_init_7 : decode cX1_init 7 = .ok (.newarray .int, 2) := by decide +kernel
theorem dX1_init_9 : decode cX1_init 9 = .ok (.putfield 7, 3) := by decide +kernel
theorem dX1_init_12 : decode cX1_init 12 = .ok (.aload_n 0, 1) := by decide +kernel
theorem dX1_init_13 : decode cX1_init 13 = .ok (.bipush 40, 2) := by decide +kernel
theorem dX1_init_15 : decode cX1_init 15 = .ok (.newarray .int, 2) := by decide +kernel
theorem dX1_init_17 : decode cX1_init 17 = .ok (.putfield 13, 3) := by decide +kernel
theorem dX1_init_20 : decode cX1_init 20 = .ok (.aload_n 0, 1) := by decide +kernel
theorem dX1_init_21 : decode cX1_init 21 = .ok (.bipush 16, 2) := by decide +kernel
theorem dX1_init_23 : decode cX1_init 23 = .ok (.newarray .boolean, 2) := by decide +kernel
theorem dX1_init_25 : decode cX1_init 25 = .ok (.putfield 16, 3) := by decide +kernel
theorem dX1_init_28 : decode cX1_init 28 = .ok (.aload_n 0, 1) := by decide +kernel
theorem dX1_init_29 : decode cX1_init 29 = .ok (.bipush 10, 2) := by decide +kernel
theorem dX1_init_31 : decode cX1_init 31 = .ok (.newarray .int, 2) := by decide +kernel
theorem dX1_init_33 : decode cX1_init 33 = .ok (.putfield 20, 3) := by decide +kernel
theorem dX1_init_36 : decode cX1_init 36 = .ok (.aload_n 0, 1) := by decide +kernel
theorem dX1_init_37 : decode cX1_init 37 = .ok (.iload_n 1, 1) := by decide +kernel
theorem dX1_init_38 : decode cX1_init 38 = .ok (.iconst 1, 1) := by decide +kernel
theorem dX1_init_39 : decode cX1_init 39 = .ok (.if_icmp .ge 7, 3) := by decide +kernel
theorem dX1_init_42 : decode cX1_init 42 = .ok (.iconst 1, 1) := by decide +kernel
theorem dX1_init_43 : decode cX1_init 43 = .ok (.goto 15, 3) := by decide +kernel
theorem dX1_init_46 : decode cX1_init 46 = .ok (.iload_n 1, 1) := by decide +kernel
theorem dX1_init_47 : decode cX1_init 47 = .ok (.bipush 10, 2) := by decide +kernel
theorem dX1_init_49 : decode cX1_init 49 = .ok (.if_icmp .le 8, 3) := by decide +kernel
theorem dX1_init_52 : decode cX1_init 52 = .ok (.bipush 10, 2) := by decide +kernel
theorem dX1_init_54 : decode cX1_init 54 = .ok (.goto 4, 3) := by decide +kernel
theorem dX1_init_57 : decode cX1_init 57 = .ok (.iload_n 1, 1) := by decide +kernel
theorem dX1_init_58 : decode cX1_init 58 = .ok (.putfield 23, 3) := by decide +kernel
theorem dX1_init_61 : decode cX1_init 61 = .ok (.iconst 0, 1) := by decide +kernel
theorem dX1_init_62 : decode cX1_init 62 = .ok (.istore_n 2, 1) := by decide +kernel
theorem dX1_init_63 : decode cX1_init 63 = .ok (.iload_n 2, 1) := by decide +kernel
theorem dX1_init_64 : decode cX1_init 64 = .ok (.bipush 40, 2) := by decide +kernel
theorem dX1_init_66 : decode cX1_init 66 = .ok (.if_icmp .ge 16, 3) := by decide +kernel
theorem dX1_init_69 : decode cX1_init 69 = .ok (.aload_n 0, 1) := by decide +kernel
theorem dX1_init_70 : decode cX1_init 70 = .ok (.getfield 7, 3) := by decide +kernel
theorem dX1_init_73 : decode cX1_init 73 = .ok (.iload_n 2, 1) := by decide +kernel
theorem dX1_init_74 : decode cX1_init 74 = .ok (.iconst (-1), 1) := by decide +kernel
theorem dX1_init_75 : decode cX1_init 75 = .ok (.iastore, 1) := by decide +kernel
theorem dX1_init_76 : decode cX1_init 76 = .ok (.iinc 2 1, 3) := by decide +kernel
theorem dX1_init_79 : decode cX1_init 79 = .ok (.goto (-16), 3) := by decide +kernel
theorem dX1_init_82 : decode cX1_init 82 = .ok (.return_, 1) := by decide +kernel
theorem dX1_isRouter_0 : decode cX1_isRouter 0 = .ok (.iload_n 1, 1) := by decide +kernel
theorem dX1_isRouter_1 : decode cX1_isRouter 1 = .ok (.ifCond .lt 15, 3) := by decide +kernel
theorem dX1_isRouter_4 : decode cX1_isRouter 4 = .ok (.iload_n 1, 1) := by decide +kernel
theorem dX1_isRouter_5 : decode cX1_isRouter 5 = .ok (.aload_n 0, 1) := by decide +kernel
theorem dX1_isRouter_6 : decode cX1_isRouter 6 = .ok (.getfield 23, 3) := by decide +kernel
theorem dX1_isRouter_9 : decode cX1_isRouter 9 = .ok (.if_icmp .ge 7, 3) := by decide +kernel
theorem dX1_isRouter_12 : decode cX1_isRouter 12 = .ok (.iconst 1, 1) := by decide +kernel
theorem dX1_isRouter_13 : decode cX1_isRouter 13 = .ok (.goto 4, 3) := by decide +kernel
theorem dX1_isRouter_16 : decode cX1_isRouter 16 = .ok (.iconst 0, 1) := by decide +kernel
theorem dX1_isRouter_17 : decode cX1_isRouter 17 = .ok (.ireturn, 1) := by decide +kernel
theorem dX1_isWire_0 : decode cX1_isWire 0 = .ok (.iload_n 0, 1) := by decide +kernel
theorem dX1_isWire_1 : decode cX1_isWire 1 = .ok (.ifCond .lt 13, 3) := by decide +kernel
theorem dX1_isWire_4 : decode cX1_isWire 4 = .ok (.iload_n 0, 1) := by decide +kernel
theorem dX1_isWire_5 : decode cX1_isWire 5 = .ok (.bipush 16, 2) := by decide +kernel
theorem dX1_isWire_7 : decode cX1_isWire 7 = .ok (.if_icmp .ge 7, 3) := by decide +kernel
theorem dX1_isWire_10 : decode cX1_isWire 10 = .ok (.iconst 1, 1) := by decide +kernel
theorem dX1_isWire_11 : decode cX1_isWire 11 = .ok (.goto 4, 3) := by decide +kernel
theorem dX1_isWire_14 : decode cX1_isWire 14 = .ok (.iconst 0, 1) := by decide +kernel
theorem dX1_isWire_15 : decode cX1_isWire 15 = .ok (.ireturn, 1) := by decide +kernel
set_option maxRecDepth 20000 in
theorem ggX1_isPlace_X1_isRouter : GoodIn wsX1_isPlace wsX1_isRouter := goodIn_r _ [5, 6, 7, 8, 9, 10, 11, 12, 13] (by decide +kernel) (by decide +kernel)
set_option maxRecDepth 20000 in
theorem gX1_isPlace_X1_isRouter : GoodIn wsX1_isPlace (wsV RX1 27 RX1 yX1_isRouter wsX1_isRouter) := goodIn_app (goodIn_of _ (by decide +kernel)) ggX1_isPlace_X1_isRouter
theorem dX1_isPlace_0 : decode cX1_isPlace 0 = .ok (.aload_n 0, 1) := by decide +kernel
theorem dX1_isPlace_1 : decode cX1_isPlace 1 = .ok (.iload_n 1, 1) := by decide +kernel
theorem dX1_isPlace_2 : decode cX1_isPlace 2 = .ok (.invokevirtual 27, 3) := by decide +kernel
theorem dX1_isPlace_5 : decode cX1_isPlace 5 = .ok (.ifCond .eq 16, 3) := by decide +kernel
theorem dX1_isPlace_8 : decode cX1_isPlace 8 = .ok (.iload_n 2, 1) := by decide +kernel
theorem dX1_isPlace_9 : decode cX1_isPlace 9 = .ok (.ifCond .lt 12, 3) := by decide +kernel
theorem dX1_isPlace_12 : decode cX1_isPlace 12 = .ok (.iload_n 2, 1) := by decide +kernel
theorem dX1_isPlace_13 : decode cX1_isPlace 13 = .ok (.iconst 4, 1) := by decide +kernel
theorem dX1_isPlace_14 : decode cX1_isPlace 14 = .ok (.if_icmp .ge 7, 3) := by decide +kernel
theorem dX1_isPlace_17 : decode cX1_isPlace 17 = .ok (.iconst 1, 1) := by decide +kernel
theorem dX1_isPlace_18 : decode cX1_isPlace 18 = .ok (.goto 4, 3) := by decide +kernel
theorem dX1_isPlace_21 : decode cX1_isPlace 21 = .ok (.iconst 0, 1) := by decide +kernel
theorem dX1_isPlace_22 : decode cX1_isPlace 22 = .ok (.ireturn, 1) := by decide +kernel
theorem dX1_portOn_0 : decode cX1_portOn 0 = .ok (.iconst 0, 1) := by decide +kernel
theorem dX1_portOn_1 : decode cX1_portOn 1 = .ok (.istore_n 3, 1) := by decide +kernel
theorem dX1_portOn_2 : decode cX1_portOn 2 = .ok (.iload_n 3, 1) := by decide +kernel
theorem dX1_portOn_3 : decode cX1_portOn 3 = .ok (.iconst 4, 1) := by decide +kernel
theorem dX1_portOn_4 : decode cX1_portOn 4 = .ok (.if_icmp .ge 25, 3) := by decide +kernel
theorem dX1_portOn_7 : decode cX1_portOn 7 = .ok (.aload_n 0, 1) := by decide +kernel
theorem dX1_portOn_8 : decode cX1_portOn 8 = .ok (.getfield 7, 3) := by decide +kernel
theorem dX1_portOn_11 : decode cX1_portOn 11 = .ok (.iconst 4, 1) := by decide +kernel
theorem dX1_portOn_12 : decode cX1_portOn 12 = .ok (.iload_n 1, 1) := by decide +kernel
theorem dX1_portOn_13 : decode cX1_portOn 13 = .ok (.imul, 1) := by decide +kernel
theorem dX1_portOn_14 : decode cX1_portOn 14 = .ok (.iload_n 3, 1) := by decide +kernel
theorem dX1_portOn_15 : decode cX1_portOn 15 = .ok (.iadd, 1) := by decide +kernel
theorem dX1_portOn_16 : decode cX1_portOn 16 = .ok (.iaload, 1) := by decide +kernel
theorem dX1_portOn_17 : decode cX1_portOn 17 = .ok (.iload_n 2, 1) := by decide +kernel
theorem dX1_portOn_18 : decode cX1_portOn 18 = .ok (.if_icmp .ne 5, 3) := by decide +kernel
theorem dX1_portOn_21 : decode cX1_portOn 21 = .ok (.iload_n 3, 1) := by decide +kernel
theorem dX1_portOn_22 : decode cX1_portOn 22 = .ok (.ireturn, 1) := by decide +kernel
theorem dX1_portOn_23 : decode cX1_portOn 23 = .ok (.iinc 3 1, 3) := by decide +kernel
theorem dX1_portOn_26 : decode cX1_portOn 26 = .ok (.goto (-24), 3) := by decide +kernel
theorem dX1_portOn_29 : decode cX1_portOn 29 = .ok (.iconst (-1), 1) := by decide +kernel
theorem dX1_portOn_30 : decode cX1_portOn 30 = .ok (.ireturn, 1) := by decide +kernel
set_option maxRecDepth 20000 in
theorem ggX1_plug_X1_isPlace : GoodIn wsX1_plug wsX1_isPlace := goodIn_r _ [7, 8, 9, 10, 6, 11, 12, 20, 21, 22, 23, 24, 25, 26] (by decide +kernel) (by decide +kernel)
set_option maxRecDepth 20000 in
theorem gX1_plug_X1_isPlace : GoodIn wsX1_plug (wsV RX1 31 RX1 yX1_isPlace wsX1_isPlace) := goodIn_app (goodIn_of _ (by decide +kernel)) ggX1_plug_X1_isPlace
set_option maxRecDepth 20000 in
theorem ggX1_plug_X1_isWire : GoodIn wsX1_plug wsX1_isWire := goodIn_r _ [15] (by decide +kernel) (by decide +kernel)
set_option maxRecDepth 20000 in
theorem gX1_plug_X1_isWire : GoodIn wsX1_plug (va_wsS RX1 35 yX1_isWire wsX1_isWire) := goodIn_app (goodIn_of _ (by decide +kernel)) ggX1_plug_X1_isWire
set_option maxRecDepth 20000 in
theorem ggX1_plug_X1_portOn : GoodIn wsX1_plug wsX1_portOn := goodIn_r _ [19, 1, 20, 21, 22, 23, 24, 25, 26] (by decide +kernel) (by decide +kernel)
set_option maxRecDepth 20000 in
theorem gX1_plug_X1_portOn : GoodIn wsX1_plug (wsV RX1 38 RX1 yX1_portOn wsX1_portOn) := goodIn_app (goodIn_of _ (by decide +kernel)) ggX1_plug_X1_portOn
theorem dX1_plug_0 : decode cX1_plug 0 = .ok (.aload_n 0, 1) := by decide +kernel
theorem dX1_plug_1 : decode cX1_plug 1 = .ok (.iload_n 1, 1) := by decide +kernel
theorem dX1_plug_2 : decode cX1_plug 2 = .ok (.iload_n 2, 1) := by decide +kernel
theorem dX1_plug_3 : decode cX1_plug 3 = .ok (.invokevirtual 31, 3) := by decide +kernel
theorem dX1_plug_6 : decode cX1_plug 6 = .ok (.ifCond .eq 23, 3) := by decide +kernel
theorem dX1_plug_9 : decode cX1_plug 9 = .ok (.iload_n 3, 1) := by decide +kernel
theorem dX1_plug_10 : decode cX1_plug 10 = .ok (.invokestatic 35, 3) := by decide +kernel
theorem dX1_plug_13 : decode cX1_plug 13 = .ok (.ifCond .eq 16, 3) := by decide +kernel
theorem dX1_plug_16 : decode cX1_plug 16 = .ok (.iload 4, 2) := by decide +kernel
theorem dX1_plug_18 : decode cX1_plug 18 = .ok (.iconst 1, 1) := by decide +kernel
theorem dX1_plug_19 : decode cX1_plug 19 = .ok (.if_icmp .lt 10, 3) := by decide +kernel
theorem dX1_plug_22 : decode cX1_plug 22 = .ok (.iload 4, 2) := by decide +kernel
theorem dX1_plug_24 : decode cX1_plug 24 = .ok (.bipush 9, 2) := by decide +kernel
theorem dX1_plug_26 : decode cX1_plug 26 = .ok (.if_icmp .le 5, 3) := by decide +kernel
theorem dX1_plug_29 : decode cX1_plug 29 = .ok (.iconst 0, 1) := by decide +kernel
theorem dX1_plug_30 : decode cX1_plug 30 = .ok (.ireturn, 1) := by decide +kernel
theorem dX1_plug_31 : decode cX1_plug 31 = .ok (.aload_n 0, 1) := by decide +kernel
theorem dX1_plug_32 : decode cX1_plug 32 = .ok (.getfield 7, 3) := by decide +kernel
theorem dX1_plug_35 : decode cX1_plug 35 = .ok (.iconst 4, 1) := by decide +kernel
theorem dX1_plug_36 : decode cX1_plug 36 = .ok (.iload_n 1, 1) := by decide +kernel
theorem dX1_plug_37 : decode cX1_plug 37 = .ok (.imul, 1) := by decide +kernel
theorem dX1_plug_38 : decode cX1_plug 38 = .ok (.iload_n 2, 1) := by decide +kernel
theorem dX1_plug_39 : decode cX1_plug 39 = .ok (.iadd, 1) := by decide +kernel
theorem dX1_plug_40 : decode cX1_plug 40 = .ok (.iaload, 1) := by decide +kernel
theorem dX1_plug_41 : decode cX1_plug 41 = .ok (.iconst (-1), 1) := by decide +kernel
theorem dX1_plug_42 : decode cX1_plug 42 = .ok (.if_icmp .ne 13, 3) := by decide +kernel
theorem dX1_plug_45 : decode cX1_plug 45 = .ok (.aload_n 0, 1) := by decide +kernel
theorem dX1_plug_46 : decode cX1_plug 46 = .ok (.iload_n 1, 1) := by decide +kernel
theorem dX1_plug_47 : decode cX1_plug 47 = .ok (.iload_n 3, 1) := by decide +kernel
theorem dX1_plug_48 : decode cX1_plug 48 = .ok (.invokevirtual 38, 3) := by decide +kernel
theorem dX1_plug_51 : decode cX1_plug 51 = .ok (.iconst (-1), 1) := by decide +kernel
theorem dX1_plug_52 : decode cX1_plug 52 = .ok (.if_icmp .eq 5, 3) := by decide +kernel
theorem dX1_plug_55 : decode cX1_plug 55 = .ok (.iconst 0, 1) := by decide +kernel
theorem dX1_plug_56 : decode cX1_plug 56 = .ok (.ireturn, 1) := by decide +kernel
theorem dX1_plug_57 : decode cX1_plug 57 = .ok (.aload_n 0, 1) := by decide +kernel
theorem dX1_plug_58 : decode cX1_plug 58 = .ok (.getfield 7, 3) := by decide +kernel
theorem dX1_plug_61 : decode cX1_plug 61 = .ok (.iconst 4, 1) := by decide +kernel
theorem dX1_plug_62 : decode cX1_plug 62 = .ok (.iload_n 1, 1) := by decide +kernel
theorem dX1_plug_63 : decode cX1_plug 63 = .ok (.imul, 1) := by decide +kernel
theorem dX1_plug_64 : decode cX1_plug 64 = .ok (.iload_n 2, 1) := by decide +kernel
theorem dX1_plug_65 : decode cX1_plug 65 = .ok (.iadd, 1) := by decide +kernel
theorem dX1_plug_66 : decode cX1_plug 66 = .ok (.iload_n 3, 1) := by decide +kernel
theorem dX1_plug_67 : decode cX1_plug 67 = .ok (.iastore, 1) := by decide +kernel
theorem dX1_plug_68 : decode cX1_plug 68 = .ok (.aload_n 0, 1) := by decide +kernel
theorem dX1_plug_69 : decode cX1_plug 69 = .ok (.getfield 13, 3) := by decide +kernel
theorem dX1_plug_72 : decode cX1_plug 72 = .ok (.iconst 4, 1) := by decide +kernel
theorem dX1_plug_73 : decode cX1_plug 73 = .ok (.iload_n 1, 1) := by decide +kernel
theorem dX1_plug_74 : decode cX1_plug 74 = .ok (.imul, 1) := by decide +kernel
theorem dX1_plug_75 : decode cX1_plug 75 = .ok (.iload_n 2, 1) := by decide +kernel
theorem dX1_plug_76 : decode cX1_plug 76 = .ok (.iadd, 1) := by decide +kernel
theorem dX1_plug_77 : decode cX1_plug 77 = .ok (.iload 4, 2) := by decide +kernel
theorem dX1_plug_79 : decode cX1_plug 79 = .ok (.iastore, 1) := by decide +kernel
theorem dX1_plug_80 : decode cX1_plug 80 = .ok (.iconst 1, 1) := by decide +kernel
theorem dX1_plug_81 : decode cX1_plug 81 = .ok (.ireturn, 1) := by decide +kernel
set_option maxRecDepth 20000 in
theorem ggX1_draw_X1_isPlace : GoodIn wsX1_draw wsX1_isPlace := goodIn_r _ [6, 7, 8, 9, 5, 10, 11, 12, 13, 14, 15, 16, 17, 18] (by decide +kernel) (by decide +kernel)
set_option maxRecDepth 20000 in
theorem gX1_draw_X1_isPlace : GoodIn wsX1_draw (wsV RX1 31 RX1 yX1_isPlace wsX1_isPlace) := goodIn_app (goodIn_of _ (by decide +kernel)) ggX1_draw_X1_isPlace
theorem dX1_draw_0 : decode cX1_draw 0 = .ok (.aload_n 0, 1) := by decide +kernel
theorem dX1_draw_1 : decode cX1_draw 1 = .ok (.iload_n 1, 1) := by decide +kernel
theorem dX1_draw_2 : decode cX1_draw 2 = .ok (.iload_n 2, 1) := by decide +kernel
theorem dX1_draw_3 : decode cX1_draw 3 = .ok (.invokevirtual 31, 3) := by decide +kernel
theorem dX1_draw_6 : decode cX1_draw 6 = .ok (.ifCond .eq 17, 3) := by decide +kernel
theorem dX1_draw_9 : decode cX1_draw 9 = .ok (.aload_n 0, 1) := by decide +kernel
theorem dX1_draw_10 : decode cX1_draw 10 = .ok (.getfield 7, 3) := by decide +kernel
theorem dX1_draw_13 : decode cX1_draw 13 = .ok (.iconst 4, 1) := by decide +kernel
theorem dX1_draw_14 : decode cX1_draw 14 = .ok (.iload_n 1, 1) := by decide +kernel
theorem dX1_draw_15 : decode cX1_draw 15 = .ok (.imul, 1) := by decide +kernel
theorem dX1_draw_16 : decode cX1_draw 16 = .ok (.iload_n 2, 1) := by decide +kernel
theorem dX1_draw_17 : decode cX1_draw 17 = .ok (.iadd, 1) := by decide +kernel
theorem dX1_draw_18 : decode cX1_draw 18 = .ok (.iaload, 1) := by decide +kernel
theorem dX1_draw_19 : decode cX1_draw 19 = .ok (.iconst (-1), 1) := by decide +kernel
theorem dX1_draw_20 : decode cX1_draw 20 = .ok (.if_icmp .ne 5, 3) := by decide +kernel
theorem dX1_draw_23 : decode cX1_draw 23 = .ok (.iconst 0, 1) := by decide +kernel
theorem dX1_draw_24 : decode cX1_draw 24 = .ok (.ireturn, 1) := by decide +kernel
theorem dX1_draw_25 : decode cX1_draw 25 = .ok (.aload_n 0, 1) := by decide +kernel
theorem dX1_draw_26 : decode cX1_draw 26 = .ok (.getfield 7, 3) := by decide +kernel
theorem dX1_draw_29 : decode cX1_draw 29 = .ok (.iconst 4, 1) := by decide +kernel
theorem dX1_draw_30 : decode cX1_draw 30 = .ok (.iload_n 1, 1) := by decide +kernel
theorem dX1_draw_31 : decode cX1_draw 31 = .ok (.imul, 1) := by decide +kernel
theorem dX1_draw_32 : decode cX1_draw 32 = .ok (.iload_n 2, 1) := by decide +kernel
theorem dX1_draw_33 : decode cX1_draw 33 = .ok (.iadd, 1) := by decide +kernel
theorem dX1_draw_34 : decode cX1_draw 34 = .ok (.iconst (-1), 1) := by decide +kernel
theorem dX1_draw_35 : decode cX1_draw 35 = .ok (.iastore, 1) := by decide +kernel
theorem dX1_draw_36 : decode cX1_draw 36 = .ok (.iconst 1, 1) := by decide +kernel
theorem dX1_draw_37 : decode cX1_draw 37 = .ok (.ireturn, 1) := by decide +kernel
set_option maxRecDepth 20000 in
theorem ggX1_cost_X1_isPlace : GoodIn wsX1_cost wsX1_isPlace := goodIn_r _ [7, 8, 9, 10, 6, 11, 12, 13, 14, 15, 16, 17, 18, 19] (by decide +kernel) (by decide +kernel)
set_option maxRecDepth 20000 in
theorem gX1_cost_X1_isPlace : GoodIn wsX1_cost (wsV RX1 31 RX1 yX1_isPlace wsX1_isPlace) := goodIn_app (goodIn_of _ (by decide +kernel)) ggX1_cost_X1_isPlace
theorem dX1_cost_0 : decode cX1_cost 0 = .ok (.aload_n 0, 1) := by decide +kernel
theorem dX1_cost_1 : decode cX1_cost 1 = .ok (.iload_n 1, 1) := by decide +kernel
theorem dX1_cost_2 : decode cX1_cost 2 = .ok (.iload_n 2, 1) := by decide +kernel
theorem dX1_cost_3 : decode cX1_cost 3 = .ok (.invokevirtual 31, 3) := by decide +kernel
theorem dX1_cost_6 : decode cX1_cost 6 = .ok (.ifCond .eq 28, 3) := by decide +kernel
theorem dX1_cost_9 : decode cX1_cost 9 = .ok (.aload_n 0, 1) := by decide +kernel
theorem dX1_cost_10 : decode cX1_cost 10 = .ok (.getfield 7, 3) := by decide +kernel
theorem dX1_cost_13 : decode cX1_cost 13 = .ok (.iconst 4, 1) := by decide +kernel
theorem dX1_cost_14 : decode cX1_cost 14 = .ok (.iload_n 1, 1) := by decide +kernel
theorem dX1_cost_15 : decode cX1_cost 15 = .ok (.imul, 1) := by decide +kernel
theorem dX1_cost_16 : decode cX1_cost 16 = .ok (.iload_n 2, 1) := by decide +kernel
theorem dX1_cost_17 : decode cX1_cost 17 = .ok (.iadd, 1) := by decide +kernel
theorem dX1_cost_18 : decode cX1_cost 18 = .ok (.iaload, 1) := by decide +kernel
theorem dX1_cost_19 : decode cX1_cost 19 = .ok (.iconst (-1), 1) := by decide +kernel
theorem dX1_cost_20 : decode cX1_cost 20 = .ok (.if_icmp .eq 14, 3) := by decide +kernel
theorem dX1_cost_23 : decode cX1_cost 23 = .ok (.iload_n 3, 1) := by decide +kernel
theorem dX1_cost_24 : decode cX1_cost 24 = .ok (.iconst 1, 1) := by decide +kernel
theorem dX1_cost_25 : decode cX1_cost 25 = .ok (.if_icmp .lt 9, 3) := by decide +kernel
theorem dX1_cost_28 : decode cX1_cost 28 = .ok (.iload_n 3, 1) := by decide +kernel
theorem dX1_cost_29 : decode cX1_cost 29 = .ok (.bipush 9, 2) := by decide +kernel
theorem dX1_cost_31 : decode cX1_cost 31 = .ok (.if_icmp .le 5, 3) := by decide +kernel
theorem dX1_cost_34 : decode cX1_cost 34 = .ok (.iconst (-1), 1) := by decide +kernel
theorem dX1_cost_35 : decode cX1_cost 35 = .ok (.ireturn, 1) := by decide +kernel
theorem dX1_cost_36 : decode cX1_cost 36 = .ok (.aload_n 0, 1) := by decide +kernel
theorem dX1_cost_37 : decode cX1_cost 37 = .ok (.getfield 13, 3) := by decide +kernel
theorem dX1_cost_40 : decode cX1_cost 40 = .ok (.iconst 4, 1) := by decide +kernel
theorem dX1_cost_41 : decode cX1_cost 41 = .ok (.iload_n 1, 1) := by decide +kernel
theorem dX1_cost_42 : decode cX1_cost 42 = .ok (.imul, 1) := by decide +kernel
theorem dX1_cost_43 : decode cX1_cost 43 = .ok (.iload_n 2, 1) := by decide +kernel
theorem dX1_cost_44 : decode cX1_cost 44 = .ok (.iadd, 1) := by decide +kernel
theorem dX1_cost_45 : decode cX1_cost 45 = .ok (.iaload, 1) := by decide +kernel
theorem dX1_cost_46 : decode cX1_cost 46 = .ok (.istore 4, 2) := by decide +kernel
theorem dX1_cost_48 : decode cX1_cost 48 = .ok (.aload_n 0, 1) := by decide +kernel
theorem dX1_cost_49 : decode cX1_cost 49 = .ok (.getfield 13, 3) := by decide +kernel
theorem dX1_cost_52 : decode cX1_cost 52 = .ok (.iconst 4, 1) := by decide +kernel
theorem dX1_cost_53 : decode cX1_cost 53 = .ok (.iload_n 1, 1) := by decide +kernel
theorem dX1_cost_54 : decode cX1_cost 54 = .ok (.imul, 1) := by decide +kernel
theorem dX1_cost_55 : decode cX1_cost 55 = .ok (.iload_n 2, 1) := by decide +kernel
theorem dX1_cost_56 : decode cX1_cost 56 = .ok (.iadd, 1) := by decide +kernel
theorem dX1_cost_57 : decode cX1_cost 57 = .ok (.iload_n 3, 1) := by decide +kernel
theorem dX1_cost_58 : decode cX1_cost 58 = .ok (.iastore, 1) := by decide +kernel
theorem dX1_cost_59 : decode cX1_cost 59 = .ok (.iload 4, 2) := by decide +kernel
theorem dX1_cost_61 : decode cX1_cost 61 = .ok (.ireturn, 1) := by decide +kernel
set_option maxRecDepth 20000 in
theorem ggX1_cut_X1_isWire : GoodIn wsX1_cut wsX1_isWire := goodIn_r _ [5] (by decide +kernel) (by decide +kernel)
set_option maxRecDepth 20000 in
theorem gX1_cut_X1_isWire : GoodIn wsX1_cut (va_wsS RX1 35 yX1_isWire wsX1_isWire) := goodIn_app (goodIn_of _ (by decide +kernel)) ggX1_cut_X1_isWire
theorem dX1_cut_0 : decode cX1_cut 0 = .ok (.iload_n 1, 1) := by decide +kernel
theorem dX1_cut_1 : decode cX1_cut 1 = .ok (.invokestatic 35, 3) := by decide +kernel
theorem dX1_cut_4 : decode cX1_cut 4 = .ok (.ifCond .eq 12, 3) := by decide +kernel
theorem dX1_cut_7 : decode cX1_cut 7 = .ok (.aload_n 0, 1) := by decide +kernel
theorem dX1_cut_8 : decode cX1_cut 8 = .ok (.getfield 16, 3) := by decide +kernel
theorem dX1_cut_11 : decode cX1_cut 11 = .ok (.iload_n 1, 1) := by decide +kernel
theorem dX1_cut_12 : decode cX1_cut 12 = .ok (.baload, 1) := by decide +kernel
theorem dX1_cut_13 : decode cX1_cut 13 = .ok (.ifCond .eq 5, 3) := by decide +kernel
theorem dX1_cut_16 : decode cX1_cut 16 = .ok (.iconst 0, 1) := by decide +kernel
theorem dX1_cut_17 : decode cX1_cut 17 = .ok (.ireturn, 1) := by decide +kernel
theorem dX1_cut_18 : decode cX1_cut 18 = .ok (.aload_n 0, 1) := by decide +kernel
theorem dX1_cut_19 : decode cX1_cut 19 = .ok (.getfield 16, 3) := by decide +kernel
theorem dX1_cut_22 : decode cX1_cut 22 = .ok (.iload_n 1, 1) := by decide +kernel
theorem dX1_cut_23 : decode cX1_cut 23 = .ok (.iconst 1, 1) := by decide +kernel
theorem dX1_cut_24 : decode cX1_cut 24 = .ok (.bastore, 1) := by decide +kernel
theorem dX1_cut_25 : decode cX1_cut 25 = .ok (.iconst 1, 1) := by decide +kernel
theorem dX1_cut_26 : decode cX1_cut 26 = .ok (.ireturn, 1) := by decide +kernel
set_option maxRecDepth 20000 in
theorem ggX1_mend_X1_isWire : GoodIn wsX1_mend wsX1_isWire := goodIn_r _ [5] (by decide +kernel) (by decide +kernel)
set_option maxRecDepth 20000 in
theorem gX1_mend_X1_isWire : GoodIn wsX1_mend (va_wsS RX1 35 yX1_isWire wsX1_isWire) := goodIn_app (goodIn_of _ (by decide +kernel)) ggX1_mend_X1_isWire
theorem dX1_mend_0 : decode cX1_mend 0 = .ok (.iload_n 1, 1) := by decide +kernel
theorem dX1_mend_1 : decode cX1_mend 1 = .ok (.invokestatic 35, 3) := by decide +kernel
theorem dX1_mend_4 : decode cX1_mend 4 = .ok (.ifCond .eq 12, 3) := by decide +kernel
theorem dX1_mend_7 : decode cX1_mend 7 = .ok (.aload_n 0, 1) := by decide +kernel
theorem dX1_mend_8 : decode cX1_mend 8 = .ok (.getfield 16, 3) := by decide +kernel
theorem dX1_mend_11 : decode cX1_mend 11 = .ok (.iload_n 1, 1) := by decide +kernel
theorem dX1_mend_12 : decode cX1_mend 12 = .ok (.baload, 1) := by decide +kernel
theorem dX1_mend_13 : decode cX1_mend 13 = .ok (.ifCond .ne 5, 3) := by decide +kernel
theorem dX1_mend_16 : decode cX1_mend 16 = .ok (.iconst 0, 1) := by decide +kernel
theorem dX1_mend_17 : decode cX1_mend 17 = .ok (.ireturn, 1) := by decide +kernel
theorem dX1_mend_18 : decode cX1_mend 18 = .ok (.aload_n 0, 1) := by decide +kernel
theorem dX1_mend_19 : decode cX1_mend 19 = .ok (.getfield 16, 3) := by decide +kernel
theorem dX1_mend_22 : decode cX1_mend 22 = .ok (.iload_n 1, 1) := by decide +kernel
theorem dX1_mend_23 : decode cX1_mend 23 = .ok (.iconst 0, 1) := by decide +kernel
theorem dX1_mend_24 : decode cX1_mend 24 = .ok (.bastore, 1) := by decide +kernel
theorem dX1_mend_25 : decode cX1_mend 25 = .ok (.iconst 1, 1) := by decide +kernel
theorem dX1_mend_26 : decode cX1_mend 26 = .ok (.ireturn, 1) := by decide +kernel
set_option maxRecDepth 20000 in
theorem ggX1_isAt_X1_portOn : GoodIn wsX1_isAt wsX1_portOn := goodIn_r _ [6, 7, 8, 9, 10, 11, 12, 13, 14] (by decide +kernel) (by decide +kernel)
set_option maxRecDepth 20000 in
theorem gX1_isAt_X1_portOn : GoodIn wsX1_isAt (wsV RX1 38 RX1 yX1_portOn wsX1_portOn) := goodIn_app (goodIn_of _ (by decide +kernel)) ggX1_isAt_X1_portOn
theorem dX1_isAt_0 : decode cX1_isAt 0 = .ok (.iload_n 2, 1) := by decide +kernel
theorem dX1_isAt_1 : decode cX1_isAt 1 = .ok (.ifCond .eq 30, 3) := by decide +kernel
theorem dX1_isAt_4 : decode cX1_isAt 4 = .ok (.aload_n 0, 1) := by decide +kernel
theorem dX1_isAt_5 : decode cX1_isAt 5 = .ok (.getfield 16, 3) := by decide +kernel
theorem dX1_isAt_8 : decode cX1_isAt 8 = .ok (.iload_n 3, 1) := by decide +kernel
theorem dX1_isAt_9 : decode cX1_isAt 9 = .ok (.baload, 1) := by decide +kernel
theorem dX1_isAt_10 : decode cX1_isAt 10 = .ok (.ifCond .ne 17, 3) := by decide +kernel
theorem dX1_isAt_13 : decode cX1_isAt 13 = .ok (.aload_n 0, 1) := by decide +kernel
theorem dX1_isAt_14 : decode cX1_isAt 14 = .ok (.iload_n 1, 1) := by decide +kernel
theorem dX1_isAt_15 : decode cX1_isAt 15 = .ok (.iload_n 3, 1) := by decide +kernel
theorem dX1_isAt_16 : decode cX1_isAt 16 = .ok (.invokevirtual 38, 3) := by decide +kernel
theorem dX1_isAt_19 : decode cX1_isAt 19 = .ok (.iconst (-1), 1) := by decide +kernel
theorem dX1_isAt_20 : decode cX1_isAt 20 = .ok (.if_icmp .eq 7, 3) := by decide +kernel
theorem dX1_isAt_23 : decode cX1_isAt 23 = .ok (.iconst 1, 1) := by decide +kernel
theorem dX1_isAt_24 : decode cX1_isAt 24 = .ok (.goto 17, 3) := by decide +kernel
theorem dX1_isAt_27 : decode cX1_isAt 27 = .ok (.iconst 0, 1) := by decide +kernel
theorem dX1_isAt_28 : decode cX1_isAt 28 = .ok (.goto 13, 3) := by decide +kernel
theorem dX1_isAt_31 : decode cX1_isAt 31 = .ok (.iload_n 1, 1) := by decide +kernel
theorem dX1_isAt_32 : decode cX1_isAt 32 = .ok (.iload_n 3, 1) := by decide +kernel
theorem dX1_isAt_33 : decode cX1_isAt 33 = .ok (.if_icmp .ne 7, 3) := by decide +kernel
theorem dX1_isAt_36 : decode cX1_isAt 36 = .ok (.iconst 1, 1) := by decide +kernel
theorem dX1_isAt_37 : decode cX1_isAt 37 = .ok (.goto 4, 3) := by decide +kernel
theorem dX1_isAt_40 : decode cX1_isAt 40 = .ok (.iconst 0, 1) := by decide +kernel
theorem dX1_isAt_41 : decode cX1_isAt 41 = .ok (.ireturn, 1) := by decide +kernel
set_option maxRecDepth 20000 in
theorem ggX1_by_X1_portOn : GoodIn wsX1_by wsX1_portOn := goodIn_r _ [10, 1, 11, 12, 13, 14, 15, 16, 17] (by decide +kernel) (by decide +kernel)
set_option maxRecDepth 20000 in
theorem gX1_by_X1_portOn : GoodIn wsX1_by (wsV RX1 38 RX1 yX1_portOn wsX1_portOn) := goodIn_app (goodIn_of _ (by decide +kernel)) ggX1_by_X1_portOn
theorem dX1_by_0 : decode cX1_by 0 = .ok (.aload_n 0, 1) := by decide +kernel
theorem dX1_by_1 : decode cX1_by 1 = .ok (.getfield 7, 3) := by decide +kernel
theorem dX1_by_4 : decode cX1_by 4 = .ok (.iconst 4, 1) := by decide +kernel
theorem dX1_by_5 : decode cX1_by 5 = .ok (.iload_n 1, 1) := by decide +kernel
theorem dX1_by_6 : decode cX1_by 6 = .ok (.imul, 1) := by decide +kernel
theorem dX1_by_7 : decode cX1_by 7 = .ok (.iload_n 2, 1) := by decide +kernel
theorem dX1_by_8 : decode cX1_by 8 = .ok (.iadd, 1) := by decide +kernel
theorem dX1_by_9 : decode cX1_by 9 = .ok (.iaload, 1) := by decide +kernel
theorem dX1_by_10 : decode cX1_by 10 = .ok (.istore 4, 2) := by decide +kernel
theorem dX1_by_12 : decode cX1_by 12 = .ok (.iload 4, 2) := by decide +kernel
theorem dX1_by_14 : decode cX1_by 14 = .ok (.iconst (-1), 1) := by decide +kernel
theorem dX1_by_15 : decode cX1_by 15 = .ok (.if_icmp .eq 29, 3) := by decide +kernel
theorem dX1_by_18 : decode cX1_by 18 = .ok (.aload_n 0, 1) := by decide +kernel
theorem dX1_by_19 : decode cX1_by 19 = .ok (.getfield 16, 3) := by decide +kernel
theorem dX1_by_22 : decode cX1_by 22 = .ok (.iload 4, 2) := by decide +kernel
theorem dX1_by_24 : decode cX1_by 24 = .ok (.baload, 1) := by decide +kernel
theorem dX1_by_25 : decode cX1_by 25 = .ok (.ifCond .ne 19, 3) := by decide +kernel
theorem dX1_by_28 : decode cX1_by 28 = .ok (.iload_n 3, 1) := by decide +kernel
theorem dX1_by_29 : decode cX1_by 29 = .ok (.iload_n 1, 1) := by decide +kernel
theorem dX1_by_30 : decode cX1_by 30 = .ok (.if_icmp .eq 14, 3) := by decide +kernel
theorem dX1_by_33 : decode cX1_by 33 = .ok (.aload_n 0, 1) := by decide +kernel
theorem dX1_by_34 : decode cX1_by 34 = .ok (.iload_n 3, 1) := by decide +kernel
theorem dX1_by_35 : decode cX1_by 35 = .ok (.iload 4, 2) := by decide +kernel
theorem dX1_by_37 : decode cX1_by 37 = .ok (.invokevirtual 38, 3) := by decide +kernel
theorem dX1_by_40 : decode cX1_by 40 = .ok (.iconst (-1), 1) := by decide +kernel
theorem dX1_by_41 : decode cX1_by 41 = .ok (.if_icmp .ne 6, 3) := by decide +kernel
theorem dX1_by_44 : decode cX1_by 44 = .ok (.ldc 42, 2) := by decide +kernel
theorem dX1_by_46 : decode cX1_by 46 = .ok (.ireturn, 1) := by decide +kernel
theorem dX1_by_47 : decode cX1_by 47 = .ok (.aload_n 0, 1) := by decide +kernel
theorem dX1_by_48 : decode cX1_by 48 = .ok (.getfield 20, 3) := by decide +kernel
theorem dX1_by_51 : decode cX1_by 51 = .ok (.iload_n 3, 1) := by decide +kernel
theorem dX1_by_52 : decode cX1_by 52 = .ok (.iaload, 1) := by decide +kernel
theorem dX1_by_53 : decode cX1_by 53 = .ok (.ldc 42, 2) := by decide +kernel
theorem dX1_by_55 : decode cX1_by 55 = .ok (.if_icmp .lt 8, 3) := by decide +kernel
theorem dX1_by_58 : decode cX1_by 58 = .ok (.ldc 42, 2) := by decide +kernel
theorem dX1_by_60 : decode cX1_by 60 = .ok (.goto 20, 3) := by decide +kernel
theorem dX1_by_63 : decode cX1_by 63 = .ok (.aload_n 0, 1) := by decide +kernel
theorem dX1_by_64 : decode cX1_by 64 = .ok (.getfield 13, 3) := by decide +kernel
theorem dX1_by_67 : decode cX1_by 67 = .ok (.iconst 4, 1) := by decide +kernel
theorem dX1_by_68 : decode cX1_by 68 = .ok (.iload_n 1, 1) := by decide +kernel
theorem dX1_by_69 : decode cX1_by 69 = .ok (.imul, 1) := by decide +kernel
theorem dX1_by_70 : decode cX1_by 70 = .ok (.iload_n 2, 1) := by decide +kernel
theorem dX1_by_71 : decode cX1_by 71 = .ok (.iadd, 1) := by decide +kernel
theorem dX1_by_72 : decode cX1_by 72 = .ok (.iaload, 1) := by decide +kernel
theorem dX1_by_73 : decode cX1_by 73 = .ok (.aload_n 0, 1) := by decide +kernel
theorem dX1_by_74 : decode cX1_by 74 = .ok (.getfield 20, 3) := by decide +kernel
theorem dX1_by_77 : decode cX1_by 77 = .ok (.iload_n 3, 1) := by decide +kernel
theorem dX1_by_78 : decode cX1_by 78 = .ok (.iaload, 1) := by decide +kernel
theorem dX1_by_79 : decode cX1_by 79 = .ok (.iadd, 1) := by decide +kernel
theorem dX1_by_80 : decode cX1_by 80 = .ok (.ireturn, 1) := by decide +kernel
set_option maxRecDepth 20000 in
theorem ggX1_reckon_X1_isAt : GoodIn wsX1_reckon wsX1_isAt := goodIn_r _ [8, 9, 10, 11, 12, 7, 13, 14, 20, 21, 22, 23, 24, 25, 26] (by decide +kernel) (by decide +kernel)
set_option maxRecDepth 20000 in
theorem gX1_reckon_X1_isAt : GoodIn wsX1_reckon (wsV RX1 43 RX1 yX1_isAt wsX1_isAt) := goodIn_app (goodIn_of _ (by decide +kernel)) ggX1_reckon_X1_isAt
set_option maxRecDepth 20000 in
theorem ggX1_reckon_X1_by : GoodIn wsX1_reckon wsX1_by := goodIn_r _ [18, 14, 9, 3, 2, 19, 10, 11, 12, 7, 13, 20, 21, 22, 23, 24, 25, 26] (by decide +kernel) (by decide +kernel)
set_option maxRecDepth 20000 in
theorem gX1_reckon_X1_by : GoodIn wsX1_reckon (wsV RX1 47 RX1 yX1_by wsX1_by) := goodIn_app (goodIn_of _ (by decide +kernel)) ggX1_reckon_X1_by
theorem dX1_reckon_0 : decode cX1_reckon 0 = .ok (.iconst 0, 1) := by decide +kernel
theorem dX1_reckon_1 : decode cX1_reckon 1 = .ok (.istore_n 3, 1) := by decide +kernel
theorem dX1_reckon_2 : decode cX1_reckon 2 = .ok (.iload_n 3, 1) := by decide +kernel
theorem dX1_reckon_3 : decode cX1_reckon 3 = .ok (.aload_n 0, 1) := by decide +kernel
theorem dX1_reckon_4 : decode cX1_reckon 4 = .ok (.getfield 23, 3) := by decide +kernel
theorem dX1_reckon_7 : decode cX1_reckon 7 = .ok (.if_icmp .ge 31, 3) := by decide +kernel
theorem dX1_reckon_10 : decode cX1_reckon 10 = .ok (.aload_n 0, 1) := by decide +kernel
theorem dX1_reckon_11 : decode cX1_reckon 11 = .ok (.getfield 20, 3) := by decide +kernel
theorem dX1_reckon_14 : decode cX1_reckon 14 = .ok (.iload_n 3, 1) := by decide +kernel
theorem dX1_reckon_15 : decode cX1_reckon 15 = .ok (.aload_n 0, 1) := by decide +kernel
theorem dX1_reckon_16 : decode cX1_reckon 16 = .ok (.iload_n 3, 1) := by decide +kernel
theorem dX1_reckon_17 : decode cX1_reckon 17 = .ok (.iload_n 1, 1) := by decide +kernel
theorem dX1_reckon_18 : decode cX1_reckon 18 = .ok (.iload_n 2, 1) := by decide +kernel
theorem dX1_reckon_19 : decode cX1_reckon 19 = .ok (.invokevirtual 43, 3) := by decide +kernel
theorem dX1_reckon_22 : decode cX1_reckon 22 = .ok (.ifCond .eq 7, 3) := by decide +kernel
theorem dX1_reckon_25 : decode cX1_reckon 25 = .ok (.iconst 0, 1) := by decide +kernel
theorem dX1_reckon_26 : decode cX1_reckon 26 = .ok (.goto 5, 3) := by decide +kernel
theorem dX1_reckon_29 : decode cX1_reckon 29 = .ok (.ldc 42, 2) := by decide +kernel
theorem dX1_reckon_31 : decode cX1_reckon 31 = .ok (.iastore, 1) := by decide +kernel
theorem dX1_reckon_32 : decode cX1_reckon 32 = .ok (.iinc 3 1, 3) := by decide +kernel
theorem dX1_reckon_35 : decode cX1_reckon 35 = .ok (.goto (-33), 3) := by decide +kernel
theorem dX1_reckon_38 : decode cX1_reckon 38 = .ok (.iconst 1, 1) := by decide +kernel
theorem dX1_reckon_39 : decode cX1_reckon 39 = .ok (.istore_n 3, 1) := by decide +kernel
theorem dX1_reckon_40 : decode cX1_reckon 40 = .ok (.iload_n 3, 1) := by decide +kernel
theorem dX1_reckon_41 : decode cX1_reckon 41 = .ok (.ifCond .eq 121, 3) := by decide +kernel
theorem dX1_reckon_44 : decode cX1_reckon 44 = .ok (.iconst 0, 1) := by decide +kernel
theorem dX1_reckon_45 : decode cX1_reckon 45 = .ok (.istore_n 3, 1) := by decide +kernel
theorem dX1_reckon_46 : decode cX1_reckon 46 = .ok (.iconst 0, 1) := by decide +kernel
theorem dX1_reckon_47 : decode cX1_reckon 47 = .ok (.istore 4, 2) := by decide +kernel
theorem dX1_reckon_49 : decode cX1_reckon 49 = .ok (.iload 4, 2) := by decide +kernel
theorem dX1_reckon_51 : decode cX1_reckon 51 = .ok (.aload_n 0, 1) := by decide +kernel
theorem dX1_reckon_52 : decode cX1_reckon 52 = .ok (.getfield 23, 3) := by decide +kernel
theorem dX1_reckon_55 : decode cX1_reckon 55 = .ok (.if_icmp .ge 104, 3) := by decide +kernel
theorem dX1_reckon_58 : decode cX1_reckon 58 = .ok (.iconst 0, 1) := by decide +kernel
theorem dX1_reckon_59 : decode cX1_reckon 59 = .ok (.istore 5, 2) := by decide +kernel
theorem dX1_reckon_61 : decode cX1_reckon 61 = .ok (.iload 5, 2) := by decide +kernel
theorem dX1_reckon_63 : decode cX1_reckon 63 = .ok (.iconst 4, 1) := by decide +kernel
theorem dX1_reckon_64 : decode cX1_reckon 64 = .ok (.aload_n 0, 1) := by decide +kernel
theorem dX1_reckon_65 : decode cX1_reckon 65 = .ok (.getfield 23, 3) := by decide +kernel
theorem dX1_reckon_68 : decode cX1_reckon 68 = .ok (.imul, 1) := by decide +kernel
theorem dX1_reckon_69 : decode cX1_reckon 69 = .ok (.if_icmp .ge 84, 3) := by decide +kernel
theorem dX1_reckon_72 : decode cX1_reckon 72 = .ok (.aload_n 0, 1) := by decide +kernel
theorem dX1_reckon_73 : decode cX1_reckon 73 = .ok (.iload 4, 2) := by decide +kernel
theorem dX1_reckon_75 : decode cX1_reckon 75 = .ok (.iload 5, 2) := by decide +kernel
theorem dX1_reckon_77 : decode cX1_reckon 77 = .ok (.aload_n 0, 1) := by decide +kernel
theorem dX1_reckon_78 : decode cX1_reckon 78 = .ok (.getfield 23, 3) := by decide +kernel
theorem dX1_reckon_81 : decode cX1_reckon 81 = .ok (.idiv, 1) := by decide +kernel
theorem dX1_reckon_82 : decode cX1_reckon 82 = .ok (.iload 5, 2) := by decide +kernel
theorem dX1_reckon_84 : decode cX1_reckon 84 = .ok (.aload_n 0, 1) := by decide +kernel
theorem dX1_reckon_85 : decode cX1_reckon 85 = .ok (.getfield 23, 3) := by decide +kernel
theorem dX1_reckon_88 : decode cX1_reckon 88 = .ok (.irem, 1) := by decide +kernel
theorem dX1_reckon_89 : decode cX1_reckon 89 = .ok (.invokevirtual 47, 3) := by decide +kernel
theorem dX1_reckon_92 : decode cX1_reckon 92 = .ok (.istore 6, 2) := by decide +kernel
theorem dX1_reckon_94 : decode cX1_reckon 94 = .ok (.iload_n 3, 1) := by decide +kernel
theorem dX1_reckon_95 : decode cX1_reckon 95 = .ok (.ifCond .ne 15, 3) := by decide +kernel
theorem dX1_reckon_98 : decode cX1_reckon 98 = .ok (.iload 6, 2) := by decide +kernel
theorem dX1_reckon_100 : decode cX1_reckon 100 = .ok (.aload_n 0, 1) := by decide +kernel
theorem dX1_reckon_101 : decode cX1_reckon 101 = .ok (.getfield 20, 3) := by decide +kernel
theorem dX1_reckon_104 : decode cX1_reckon 104 = .ok (.iload 4, 2) := by decide +kernel
theorem dX1_reckon_106 : decode cX1_reckon 106 = .ok (.iaload, 1) := by decide +kernel
theorem dX1_reckon_107 : decode cX1_reckon 107 = .ok (.if_icmp .ge 7, 3) := by decide +kernel
theorem dX1_reckon_110 : decode cX1_reckon 110 = .ok (.iconst 1, 1) := by decide +kernel
theorem dX1_reckon_111 : decode cX1_reckon 111 = .ok (.goto 4, 3) := by decide +kernel
theorem dX1_reckon_114 : decode cX1_reckon 114 = .ok (.iconst 0, 1) := by decide +kernel
theorem dX1_reckon_115 : decode cX1_reckon 115 = .ok (.istore_n 3, 1) := by decide +kernel
theorem dX1_reckon_116 : decode cX1_reckon 116 = .ok (.aload_n 0, 1) := by decide +kernel
theorem dX1_reckon_117 : decode cX1_reckon 117 = .ok (.getfield 20, 3) := by decide +kernel
theorem dX1_reckon_120 : decode cX1_reckon 120 = .ok (.iload 4, 2) := by decide +kernel
theorem dX1_reckon_122 : decode cX1_reckon 122 = .ok (.iload 6, 2) := by decide +kernel
theorem dX1_reckon_124 : decode cX1_reckon 124 = .ok (.aload_n 0, 1) := by decide +kernel
theorem dX1_reckon_125 : decode cX1_reckon 125 = .ok (.getfield 20, 3) := by decide +kernel
theorem dX1_reckon_128 : decode cX1_reckon 128 = .ok (.iload 4, 2) := by decide +kernel
theorem dX1_reckon_130 : decode cX1_reckon 130 = .ok (.iaload, 1) := by decide +kernel
theorem dX1_reckon_131 : decode cX1_reckon 131 = .ok (.if_icmp .ge 8, 3) := by decide +kernel
theorem dX1_reckon_134 : decode cX1_reckon 134 = .ok (.iload 6, 2) := by decide +kernel
theorem dX1_reckon_136 : decode cX1_reckon 136 = .ok (.goto 10, 3) := by decide +kernel
theorem dX1_reckon_139 : decode cX1_reckon 139 = .ok (.aload_n 0, 1) := by decide +kernel
theorem dX1_reckon_140 : decode cX1_reckon 140 = .ok (.getfield 20, 3) := by decide +kernel
theorem dX1_reckon_143 : decode cX1_reckon 143 = .ok (.iload 4, 2) := by decide +kernel
theorem dX1_reckon_145 : decode cX1_reckon 145 = .ok (.iaload, 1) := by decide +kernel
theorem dX1_reckon_146 : decode cX1_reckon 146 = .ok (.iastore, 1) := by decide +kernel
theorem dX1_reckon_147 : decode cX1_reckon 147 = .ok (.iinc 5 1, 3) := by decide +kernel
theorem dX1_reckon_150 : decode cX1_reckon 150 = .ok (.goto (-89), 3) := by decide +kernel
theorem dX1_reckon_153 : decode cX1_reckon 153 = .ok (.iinc 4 1, 3) := by decide +kernel
theorem dX1_reckon_156 : decode cX1_reckon 156 = .ok (.goto (-107), 3) := by decide +kernel
theorem dX1_reckon_159 : decode cX1_reckon 159 = .ok (.goto (-119), 3) := by decide +kernel
theorem dX1_reckon_162 : decode cX1_reckon 162 = .ok (.return_, 1) := by decide +kernel
set_option maxRecDepth 20000 in
theorem ggX1_choose_X1_isAt : GoodIn wsX1_choose wsX1_isAt := goodIn_r _ [10, 11, 12, 13, 14, 9, 15, 16, 22, 23, 24, 25, 26, 27, 28] (by decide +kernel) (by decide +kernel)
set_option maxRecDepth 20000 in
theorem gX1_choose_X1_isAt : GoodIn wsX1_choose (wsV RX1 43 RX1 yX1_isAt wsX1_isAt) := goodIn_app (goodIn_of _ (by decide +kernel)) ggX1_choose_X1_isAt
set_option maxRecDepth 20000 in
theorem ggX1_choose_X1_portOn : GoodIn wsX1_choose wsX1_portOn := goodIn_r _ [15, 16, 22, 23, 24, 25, 26, 27, 28] (by decide +kernel) (by decide +kernel)
set_option maxRecDepth 20000 in
theorem gX1_choose_X1_portOn : GoodIn wsX1_choose (wsV RX1 38 RX1 yX1_portOn wsX1_portOn) := goodIn_app (goodIn_of _ (by decide +kernel)) ggX1_choose_X1_portOn
set_option maxRecDepth 20000 in
theorem ggX1_choose_X1_by : GoodIn wsX1_choose wsX1_by := goodIn_r _ [20, 16, 11, 4, 3, 21, 12, 13, 14, 9, 15, 22, 23, 24, 25, 26, 27, 28] (by decide +kernel) (by decide +kernel)
set_option maxRecDepth 20000 in
theorem gX1_choose_X1_by : GoodIn wsX1_choose (wsV RX1 47 RX1 yX1_by wsX1_by) := goodIn_app (goodIn_of _ (by decide +kernel)) ggX1_choose_X1_by
theorem dX1_choose_0 : decode cX1_choose 0 = .ok (.aload_n 0, 1) := by decide +kernel
theorem dX1_choose_1 : decode cX1_choose 1 = .ok (.iconst (-1), 1) := by decide +kernel
theorem dX1_choose_2 : decode cX1_choose 2 = .ok (.putfield 51, 3) := by decide +kernel
theorem dX1_choose_5 : decode cX1_choose 5 = .ok (.aload_n 0, 1) := by decide +kernel
theorem dX1_choose_6 : decode cX1_choose 6 = .ok (.iconst (-1), 1) := by decide +kernel
theorem dX1_choose_7 : decode cX1_choose 7 = .ok (.putfield 54, 3) := by decide +kernel
theorem dX1_choose_10 : decode cX1_choose 10 = .ok (.aload_n 0, 1) := by decide +kernel
theorem dX1_choose_11 : decode cX1_choose 11 = .ok (.getfield 20, 3) := by decide +kernel
theorem dX1_choose_14 : decode cX1_choose 14 = .ok (.iload_n 1, 1) := by decide +kernel
theorem dX1_choose_15 : decode cX1_choose 15 = .ok (.iaload, 1) := by decide +kernel
theorem dX1_choose_16 : decode cX1_choose 16 = .ok (.ldc 42, 2) := by decide +kernel
theorem dX1_choose_18 : decode cX1_choose 18 = .ok (.if_icmp .lt 4, 3) := by decide +kernel
theorem dX1_choose_21 : decode cX1_choose 21 = .ok (.return_, 1) := by decide +kernel
theorem dX1_choose_22 : decode cX1_choose 22 = .ok (.aload_n 0, 1) := by decide +kernel
theorem dX1_choose_23 : decode cX1_choose 23 = .ok (.iload_n 1, 1) := by decide +kernel
theorem dX1_choose_24 : decode cX1_choose 24 = .ok (.iload_n 2, 1) := by decide +kernel
theorem dX1_choose_25 : decode cX1_choose 25 = .ok (.iload_n 3, 1) := by decide +kernel
theorem dX1_choose_26 : decode cX1_choose 26 = .ok (.invokevirtual 43, 3) := by decide +kernel
theorem dX1_choose_29 : decode cX1_choose 29 = .ok (.ifCond .eq 22, 3) := by decide +kernel
theorem dX1_choose_32 : decode cX1_choose 32 = .ok (.aload_n 0, 1) := by decide +kernel
theorem dX1_choose_33 : decode cX1_choose 33 = .ok (.iload_n 2, 1) := by decide +kernel
theorem dX1_choose_34 : decode cX1_choose 34 = .ok (.ifCond .eq 12, 3) := by decide +kernel
theorem dX1_choose_37 : decode cX1_choose 37 = .ok (.aload_n 0, 1) := by decide +kernel
theorem dX1_choose_38 : decode cX1_choose 38 = .ok (.iload_n 1, 1) := by decide +kernel
theorem dX1_choose_39 : decode cX1_choose 39 = .ok (.iload_n 3, 1) := by decide +kernel
theorem dX1_choose_40 : decode cX1_choose 40 = .ok (.invokevirtual 38, 3) := by decide +kernel
theorem dX1_choose_43 : decode cX1_choose 43 = .ok (.goto 4, 3) := by decide +kernel
theorem dX1_choose_46 : decode cX1_choose 46 = .ok (.iconst (-1), 1) := by decide +kernel
theorem dX1_choose_47 : decode cX1_choose 47 = .ok (.putfield 51, 3) := by decide +kernel
theorem dX1_choose_50 : decode cX1_choose 50 = .ok (.return_, 1) := by decide +kernel
theorem dX1_choose_51 : decode cX1_choose 51 = .ok (.ldc 42, 2) := by decide +kernel
theorem dX1_choose_53 : decode cX1_choose 53 = .ok (.istore 4, 2) := by decide +kernel
theorem dX1_choose_55 : decode cX1_choose 55 = .ok (.iconst 0, 1) := by decide +kernel
theorem dX1_choose_56 : decode cX1_choose 56 = .ok (.istore 5, 2) := by decide +kernel
theorem dX1_choose_58 : decode cX1_choose 58 = .ok (.iload 5, 2) := by decide +kernel
theorem dX1_choose_60 : decode cX1_choose 60 = .ok (.iconst 4, 1) := by decide +kernel
theorem dX1_choose_61 : decode cX1_choose 61 = .ok (.aload_n 0, 1) := by decide +kernel
theorem dX1_choose_62 : decode cX1_choose 62 = .ok (.getfield 23, 3) := by decide +kernel
theorem dX1_choose_65 : decode cX1_choose 65 = .ok (.imul, 1) := by decide +kernel
theorem dX1_choose_66 : decode cX1_choose 66 = .ok (.if_icmp .ge 66, 3) := by decide +kernel
theorem dX1_choose_69 : decode cX1_choose 69 = .ok (.aload_n 0, 1) := by decide +kernel
theorem dX1_choose_70 : decode cX1_choose 70 = .ok (.iload_n 1, 1) := by decide +kernel
theorem dX1_choose_71 : decode cX1_choose 71 = .ok (.iload 5, 2) := by decide +kernel
theorem dX1_choose_73 : decode cX1_choose 73 = .ok (.aload_n 0, 1) := by decide +kernel
theorem dX1_choose_74 : decode cX1_choose 74 = .ok (.getfield 23, 3) := by decide +kernel
theorem dX1_choose_77 : decode cX1_choose 77 = .ok (.idiv, 1) := by decide +kernel
theorem dX1_choose_78 : decode cX1_choose 78 = .ok (.iload 5, 2) := by decide +kernel
theorem dX1_choose_80 : decode cX1_choose 80 = .ok (.aload_n 0, 1) := by decide +kernel
theorem dX1_choose_81 : decode cX1_choose 81 = .ok (.getfield 23, 3) := by decide +kernel
theorem dX1_choose_84 : decode cX1_choose 84 = .ok (.irem, 1) := by decide +kernel
theorem dX1_choose_85 : decode cX1_choose 85 = .ok (.invokevirtual 47, 3) := by decide +kernel
theorem dX1_choose_88 : decode cX1_choose 88 = .ok (.istore 6, 2) := by decide +kernel
theorem dX1_choose_90 : decode cX1_choose 90 = .ok (.iload 6, 2) := by decide +kernel
theorem dX1_choose_92 : decode cX1_choose 92 = .ok (.iload 4, 2) := by decide +kernel
theorem dX1_choose_94 : decode cX1_choose 94 = .ok (.if_icmp .lt 6, 3) := by decide +kernel
theorem dX1_choose_97 : decode cX1_choose 97 = .ok (.goto 29, 3) := by decide +kernel
theorem dX1_choose_100 : decode cX1_choose 100 = .ok (.iload 6, 2) := by decide +kernel
theorem dX1_choose_102 : decode cX1_choose 102 = .ok (.istore 4, 2) := by decide +kernel
theorem dX1_choose_104 : decode cX1_choose 104 = .ok (.aload_n 0, 1) := by decide +kernel
theorem dX1_choose_105 : decode cX1_choose 105 = .ok (.iload 5, 2) := by decide +kernel
theorem dX1_choose_107 : decode cX1_choose 107 = .ok (.aload_n 0, 1) := by decide +kernel
theorem dX1_choose_108 : decode cX1_choose 108 = .ok (.getfield 23, 3) := by decide +kernel
theorem dX1_choose_111 : decode cX1_choose 111 = .ok (.idiv, 1) := by decide +kernel
theorem dX1_choose_112 : decode cX1_choose 112 = .ok (.putfield 51, 3) := by decide +kernel
theorem dX1_choose_115 : decode cX1_choose 115 = .ok (.aload_n 0, 1) := by decide +kernel
theorem dX1_choose_116 : decode cX1_choose 116 = .ok (.iload 5, 2) := by decide +kernel
theorem dX1_choose_118 : decode cX1_choose 118 = .ok (.aload_n 0, 1) := by decide +kernel
theorem dX1_choose_119 : decode cX1_choose 119 = .ok (.getfield 23, 3) := by decide +kernel
theorem dX1_choose_122 : decode cX1_choose 122 = .ok (.irem, 1) := by decide +kernel
theorem dX1_choose_123 : decode cX1_choose 123 = .ok (.putfield 54, 3) := by decide +kernel
theorem dX1_choose_126 : decode cX1_choose 126 = .ok (.iinc 5 1, 3) := by decide +kernel
theorem dX1_choose_129 : decode cX1_choose 129 = .ok (.goto (-71), 3) := by decide +kernel
theorem dX1_choose_132 : decode cX1_choose 132 = .ok (.return_, 1) := by decide +kernel
set_option maxRecDepth 20000 in
theorem ggX1_isAsked_X1_isRouter : GoodIn wsX1_isAsked wsX1_isRouter := goodIn_r _ [5, 6, 37, 38, 39, 40, 41, 42, 43] (by decide +kernel) (by decide +kernel)
set_option maxRecDepth 20000 in
theorem gX1_isAsked_X1_isRouter : GoodIn wsX1_isAsked (wsV RX1 27 RX1 yX1_isRouter wsX1_isRouter) := goodIn_app (goodIn_of _ (by decide +kernel)) ggX1_isAsked_X1_isRouter
set_option maxRecDepth 20000 in
theorem ggX1_isAsked_X1_isWire : GoodIn wsX1_isAsked wsX1_isWire := goodIn_r _ [9] (by decide +kernel) (by decide +kernel)
set_option maxRecDepth 20000 in
theorem gX1_isAsked_X1_isWire : GoodIn wsX1_isAsked (va_wsS RX1 35 yX1_isWire wsX1_isWire) := goodIn_app (goodIn_of _ (by decide +kernel)) ggX1_isAsked_X1_isWire
set_option maxRecDepth 20000 in
theorem ggX1_isAsked_X1_reckon : GoodIn wsX1_isAsked wsX1_reckon := goodIn_r _ [13, 6, 14, 15, 16, 17, 18, 4, 19, 20, 21, 22, 23, 24, 25, 26, 27, 28, 29, 30, 37, 38, 39, 40, 41, 42, 43] (by decide +kernel) (by decide +kernel)
set_option maxRecDepth 20000 in
theorem gX1_isAsked_X1_reckon : GoodIn wsX1_isAsked (wsV RX1 57 RX1 yX1_reckon wsX1_reckon) := goodIn_app (goodIn_of _ (by decide +kernel)) ggX1_isAsked_X1_reckon
set_option maxRecDepth 20000 in
theorem ggX1_isAsked_X1_choose : GoodIn wsX1_isAsked wsX1_choose := goodIn_r _ [34, 35, 36, 14, 15, 6, 16, 17, 18, 4, 19, 20, 21, 22, 23, 24, 25, 26, 27, 28, 29, 30, 37, 38, 39, 40, 41, 42, 43] (by decide +kernel) (by decide +kernel)
set_option maxRecDepth 20000 in
theorem gX1_isAsked_X1_choose : GoodIn wsX1_isAsked (wsV RX1 61 RX1 yX1_choose wsX1_choose) := goodIn_app (goodIn_of _ (by decide +kernel)) ggX1_isAsked_X1_choose
theorem dX1_isAsked_0 : decode cX1_isAsked 0 = .ok (.aload_n 0, 1) := by decide +kernel
theorem dX1_isAsked_1 : decode cX1_isAsked 1 = .ok (.iload_n 1, 1) := by decide +kernel
theorem dX1_isAsked_2 : decode cX1_isAsked 2 = .ok (.invokevirtual 27, 3) := by decide +kernel
theorem dX1_isAsked_5 : decode cX1_isAsked 5 = .ok (.ifCond .eq 25, 3) := by decide +kernel
theorem dX1_isAsked_8 : decode cX1_isAsked 8 = .ok (.iload_n 2, 1) := by decide +kernel
theorem dX1_isAsked_9 : decode cX1_isAsked 9 = .ok (.ifCond .eq 13, 3) := by decide +kernel
theorem dX1_isAsked_12 : decode cX1_isAsked 12 = .ok (.iload_n 3, 1) := by decide +kernel
theorem dX1_isAsked_13 : decode cX1_isAsked 13 = .ok (.invokestatic 35, 3) := by decide +kernel
theorem dX1_isAsked_16 : decode cX1_isAsked 16 = .ok (.ifCond .ne 16, 3) := by decide +kernel
theorem dX1_isAsked_19 : decode cX1_isAsked 19 = .ok (.goto 11, 3) := by decide +kernel
theorem dX1_isAsked_22 : decode cX1_isAsked 22 = .ok (.aload_n 0, 1) := by decide +kernel
theorem dX1_isAsked_23 : decode cX1_isAsked 23 = .ok (.iload_n 3, 1) := by decide +kernel
theorem dX1_isAsked_24 : decode cX1_isAsked 24 = .ok (.invokevirtual 27, 3) := by decide +kernel
theorem dX1_isAsked_27 : decode cX1_isAsked 27 = .ok (.ifCond .ne 5, 3) := by decide +kernel
theorem dX1_isAsked_30 : decode cX1_isAsked 30 = .ok (.iconst 0, 1) := by decide +kernel
theorem dX1_isAsked_31 : decode cX1_isAsked 31 = .ok (.ireturn, 1) := by decide +kernel
theorem dX1_isAsked_32 : decode cX1_isAsked 32 = .ok (.aload_n 0, 1) := by decide +kernel
theorem dX1_isAsked_33 : decode cX1_isAsked 33 = .ok (.iload_n 2, 1) := by decide +kernel
theorem dX1_isAsked_34 : decode cX1_isAsked 34 = .ok (.iload_n 3, 1) := by decide +kernel
theorem dX1_isAsked_35 : decode cX1_isAsked 35 = .ok (.invokevirtual 57, 3) := by decide +kernel
theorem dX1_isAsked_38 : decode cX1_isAsked 38 = .ok (.aload_n 0, 1) := by decide +kernel
theorem dX1_isAsked_39 : decode cX1_isAsked 39 = .ok (.iload_n 1, 1) := by decide +kernel
theorem dX1_isAsked_40 : decode cX1_isAsked 40 = .ok (.iload_n 2, 1) := by decide +kernel
theorem dX1_isAsked_41 : decode cX1_isAsked 41 = .ok (.iload_n 3, 1) := by decide +kernel
theorem dX1_isAsked_42 : decode cX1_isAsked 42 = .ok (.invokevirtual 61, 3) := by decide +kernel
theorem dX1_isAsked_45 : decode cX1_isAsked 45 = .ok (.iconst 1, 1) := by decide +kernel
theorem dX1_isAsked_46 : decode cX1_isAsked 46 = .ok (.ireturn, 1) := by decide +kernel
set_option maxRecDepth 20000 in
theorem ggX1_far_X1_isAsked : GoodIn wsX1_far wsX1_isAsked := goodIn_r _ [7, 8, 9, 10, 6, 11, 12, 13, 14, 15, 16, 17, 18, 19, 1, 2, 20, 21, 22, 23, 24, 25, 26, 27, 28, 29, 30, 31, 32, 33, 34, 35, 36, 37, 38, 39, 40, 41, 42, 43, 44, 45, 46, 47] (by decide +kernel) (by decide +kernel)
set_option maxRecDepth 20000 in
theorem gX1_far_X1_isAsked : GoodIn wsX1_far (wsV RX1 65 RX1 yX1_isAsked wsX1_isAsked) := goodIn_app (goodIn_of _ (by decide +kernel)) ggX1_far_X1_isAsked
theorem dX1_far_0 : decode cX1_far 0 = .ok (.aload_n 0, 1) := by decide +kernel
theorem dX1_far_1 : decode cX1_far 1 = .ok (.iload_n 1, 1) := by decide +kernel
theorem dX1_far_2 : decode cX1_far 2 = .ok (.iload_n 2, 1) := by decide +kernel
theorem dX1_far_3 : decode cX1_far 3 = .ok (.iload_n 3, 1) := by decide +kernel
theorem dX1_far_4 : decode cX1_far 4 = .ok (.invokevirtual 65, 3) := by decide +kernel
theorem dX1_far_7 : decode cX1_far 7 = .ok (.ifCond .eq 23, 3) := by decide +kernel
theorem dX1_far_10 : decode cX1_far 10 = .ok (.aload_n 0, 1) := by decide +kernel
theorem dX1_far_11 : decode cX1_far 11 = .ok (.getfield 20, 3) := by decide +kernel
theorem dX1_far_14 : decode cX1_far 14 = .ok (.iload_n 1, 1) := by decide +kernel
theorem dX1_far_15 : decode cX1_far 15 = .ok (.iaload, 1) := by decide +kernel
theorem dX1_far_16 : decode cX1_far 16 = .ok (.ldc 42, 2) := by decide +kernel
theorem dX1_far_18 : decode cX1_far 18 = .ok (.if_icmp .ge 12, 3) := by decide +kernel
theorem dX1_far_21 : decode cX1_far 21 = .ok (.aload_n 0, 1) := by decide +kernel
theorem dX1_far_22 : decode cX1_far 22 = .ok (.getfield 20, 3) := by decide +kernel
theorem dX1_far_25 : decode cX1_far 25 = .ok (.iload_n 1, 1) := by decide +kernel
theorem dX1_far_26 : decode cX1_far 26 = .ok (.iaload, 1) := by decide +kernel
theorem dX1_far_27 : decode cX1_far 27 = .ok (.goto 4, 3) := by decide +kernel
theorem dX1_far_30 : decode cX1_far 30 = .ok (.iconst (-1), 1) := by decide +kernel
theorem dX1_far_31 : decode cX1_far 31 = .ok (.ireturn, 1) := by decide +kernel
set_option maxRecDepth 20000 in
theorem ggX1_port_X1_isAsked : GoodIn wsX1_port wsX1_isAsked := goodIn_r _ [6, 7, 8, 9, 5, 10, 11, 12, 13, 14, 15, 16, 17, 18, 19, 20, 21, 22, 23, 24, 25, 26, 27, 28, 29, 30, 31, 32, 33, 34, 35, 36, 37, 38, 39, 1, 40, 41, 42, 43, 44, 45, 46, 47] (by decide +kernel) (by decide +kernel)
set_option maxRecDepth 20000 in
theorem gX1_port_X1_isAsked : GoodIn wsX1_port (wsV RX1 65 RX1 yX1_isAsked wsX1_isAsked) := goodIn_app (goodIn_of _ (by decide +kernel)) ggX1_port_X1_isAsked
theorem dX1_port_0 : decode cX1_port 0 = .ok (.aload_n 0, 1) := by decide +kernel
theorem dX1_port_1 : decode cX1_port 1 = .ok (.iload_n 1, 1) := by decide +kernel
theorem dX1_port_2 : decode cX1_port 2 = .ok (.iload_n 2, 1) := by decide +kernel
theorem dX1_port_3 : decode cX1_port 3 = .ok (.iload_n 3, 1) := by decide +kernel
theorem dX1_port_4 : decode cX1_port 4 = .ok (.invokevirtual 65, 3) := by decide +kernel
theorem dX1_port_7 : decode cX1_port 7 = .ok (.ifCond .eq 10, 3) := by decide +kernel
theorem dX1_port_10 : decode cX1_port 10 = .ok (.aload_n 0, 1) := by decide +kernel
theorem dX1_port_11 : decode cX1_port 11 = .ok (.getfield 51, 3) := by decide +kernel
theorem dX1_port_14 : decode cX1_port 14 = .ok (.goto 4, 3) := by decide +kernel
theorem dX1_port_17 : decode cX1_port 17 = .ok (.iconst (-1), 1) := by decide +kernel
theorem dX1_port_18 : decode cX1_port 18 = .ok (.ireturn, 1) := by decide +kernel
set_option maxRecDepth 20000 in
theorem ggX1_next_X1_isAsked : GoodIn wsX1_next wsX1_isAsked := goodIn_r _ [6, 7, 8, 9, 5, 10, 11, 12, 13, 14, 15, 16, 17, 18, 19, 20, 21, 22, 23, 24, 25, 26, 27, 28, 29, 30, 31, 32, 33, 34, 35, 36, 37, 38, 39, 40, 1, 41, 42, 43, 44, 45, 46, 47] (by decide +kernel) (by decide +kernel)
set_option maxRecDepth 20000 in
theorem gX1_next_X1_isAsked : GoodIn wsX1_next (wsV RX1 65 RX1 yX1_isAsked wsX1_isAsked) := goodIn_app (goodIn_of _ (by decide +kernel)) ggX1_next_X1_isAsked
theorem dX1_next_0 : decode cX1_next 0 = .ok (.aload_n 0, 1) := by decide +kernel
theorem dX1_next_1 : decode cX1_next 1 = .ok (.iload_n 1, 1) := by decide +kernel
theorem dX1_next_2 : decode cX1_next 2 = .ok (.iload_n 2, 1) := by decide +kernel
theorem dX1_next_3 : decode cX1_next 3 = .ok (.iload_n 3, 1) := by decide +kernel
theorem dX1_next_4 : decode cX1_next 4 = .ok (.invokevirtual 65, 3) := by decide +kernel
theorem dX1_next_7 : decode cX1_next 7 = .ok (.ifCond .eq 10, 3) := by decide +kernel
theorem dX1_next_10 : decode cX1_next 10 = .ok (.aload_n 0, 1) := by decide +kernel
theorem dX1_next_11 : decode cX1_next 11 = .ok (.getfield 54, 3) := by decide +kernel
theorem dX1_next_14 : decode cX1_next 14 = .ok (.goto 4, 3) := by decide +kernel
theorem dX1_next_17 : decode cX1_next 17 = .ok (.iconst (-1), 1) := by decide +kernel
theorem dX1_next_18 : decode cX1_next 18 = .ok (.ireturn, 1) := by decide +kernel
set_option maxRecDepth 20000 in
theorem ggX1_walk_X1_far : GoodIn wsX1_walk wsX1_far := goodIn_r _ [6, 7, 8, 9, 10, 11, 5, 12, 13, 14, 15, 16, 17, 18, 19, 20, 21, 22, 23, 24, 25, 26, 27, 28, 29, 30, 31, 32, 33, 34, 35, 36, 37, 38, 39, 40, 41, 42, 43, 44, 1, 45, 46, 47, 48, 49, 50, 51] (by decide +kernel) (by decide +kernel)
set_option maxRecDepth 20000 in
theorem gX1_walk_X1_far : GoodIn wsX1_walk (wsV RX1 68 RX1 yX1_far wsX1_far) := goodIn_app (goodIn_of _ (by decide +kernel)) ggX1_walk_X1_far
set_option maxRecDepth 20000 in
theorem ggX1_walk_X1_choose : GoodIn wsX1_walk wsX1_choose := goodIn_r _ [43, 44, 1, 7, 8, 17, 25, 26, 27, 5, 28, 29, 30, 31, 32, 33, 34, 35, 36, 37, 38, 39, 45, 46, 47, 48, 49, 50, 51] (by decide +kernel) (by decide +kernel)
set_option maxRecDepth 20000 in
theorem gX1_walk_X1_choose : GoodIn wsX1_walk (wsV RX1 61 RX1 yX1_choose wsX1_choose) := goodIn_app (goodIn_of _ (by decide +kernel)) ggX1_walk_X1_choose
theorem dX1_walk_0 : decode cX1_walk 0 = .ok (.iload 4, 2) := by decide +kernel
theorem dX1_walk_2 : decode cX1_walk 2 = .ok (.ifCond .lt 14, 3) := by decide +kernel
theorem dX1_walk_5 : decode cX1_walk 5 = .ok (.aload_n 0, 1) := by decide +kernel
theorem dX1_walk_6 : decode cX1_walk 6 = .ok (.iload_n 1, 1) := by decide +kernel
theorem dX1_walk_7 : decode cX1_walk 7 = .ok (.iload_n 2, 1) := by decide +kernel
theorem dX1_walk_8 : decode cX1_walk 8 = .ok (.iload_n 3, 1) := by decide +kernel
theorem dX1_walk_9 : decode cX1_walk 9 = .ok (.invokevirtual 68, 3) := by decide +kernel
theorem dX1_walk_12 : decode cX1_walk 12 = .ok (.iconst (-1), 1) := by decide +kernel
theorem dX1_walk_13 : decode cX1_walk 13 = .ok (.if_icmp .ne 5, 3) := by decide +kernel
theorem dX1_walk_16 : decode cX1_walk 16 = .ok (.iconst (-1), 1) := by decide +kernel
theorem dX1_walk_17 : decode cX1_walk 17 = .ok (.ireturn, 1) := by decide +kernel
theorem dX1_walk_18 : decode cX1_walk 18 = .ok (.iload_n 1, 1) := by decide +kernel
theorem dX1_walk_19 : decode cX1_walk 19 = .ok (.istore 5, 2) := by decide +kernel
theorem dX1_walk_21 : decode cX1_walk 21 = .ok (.iconst 0, 1) := by decide +kernel
theorem dX1_walk_22 : decode cX1_walk 22 = .ok (.istore 6, 2) := by decide +kernel
theorem dX1_walk_24 : decode cX1_walk 24 = .ok (.iload 6, 2) := by decide +kernel
theorem dX1_walk_26 : decode cX1_walk 26 = .ok (.iload 4, 2) := by decide +kernel
theorem dX1_walk_28 : decode cX1_walk 28 = .ok (.if_icmp .ge 29, 3) := by decide +kernel
theorem dX1_walk_31 : decode cX1_walk 31 = .ok (.iload 5, 2) := by decide +kernel
theorem dX1_walk_33 : decode cX1_walk 33 = .ok (.iconst (-1), 1) := by decide +kernel
theorem dX1_walk_34 : decode cX1_walk 34 = .ok (.if_icmp .eq 23, 3) := by decide +kernel
theorem dX1_walk_37 : decode cX1_walk 37 = .ok (.aload_n 0, 1) := by decide +kernel
theorem dX1_walk_38 : decode cX1_walk 38 = .ok (.iload 5, 2) := by decide +kernel
theorem dX1_walk_40 : decode cX1_walk 40 = .ok (.iload_n 2, 1) := by decide +kernel
theorem dX1_walk_41 : decode cX1_walk 41 = .ok (.iload_n 3, 1) := by decide +kernel
theorem dX1_walk_42 : decode cX1_walk 42 = .ok (.invokevirtual 61, 3) := by decide +kernel
theorem dX1_walk_45 : decode cX1_walk 45 = .ok (.aload_n 0, 1) := by decide +kernel
theorem dX1_walk_46 : decode cX1_walk 46 = .ok (.getfield 54, 3) := by decide +kernel
theorem dX1_walk_49 : decode cX1_walk 49 = .ok (.istore 5, 2) := by decide +kernel
theorem dX1_walk_51 : decode cX1_walk 51 = .ok (.iinc 6 1, 3) := by decide +kernel
theorem dX1_walk_54 : decode cX1_walk 54 = .ok (.goto (-30), 3) := by decide +kernel
theorem dX1_walk_57 : decode cX1_walk 57 = .ok (.iload 5, 2) := by decide +kernel
theorem dX1_walk_59 : decode cX1_walk 59 = .ok (.ireturn, 1) := by decide +kernel
set_option maxRecDepth 20000 in
theorem ggX1_reach_X1_isRouter : GoodIn wsX1_reach wsX1_isRouter := goodIn_r _ [6, 1, 45, 46, 47, 48, 49, 50, 51] (by decide +kernel) (by decide +kernel)
set_option maxRecDepth 20000 in
theorem gX1_reach_X1_isRouter : GoodIn wsX1_reach (wsV RX1 27 RX1 yX1_isRouter wsX1_isRouter) := goodIn_app (goodIn_of _ (by decide +kernel)) ggX1_reach_X1_isRouter
set_option maxRecDepth 20000 in
theorem ggX1_reach_X1_far : GoodIn wsX1_reach wsX1_far := goodIn_r _ [10, 11, 12, 13, 14, 15, 5, 16, 2, 3, 4, 6, 1, 17, 18, 19, 20, 21, 22, 23, 24, 25, 26, 27, 28, 29, 30, 31, 32, 33, 34, 35, 36, 37, 38, 39, 40, 41, 42, 43, 44, 45, 46, 47, 48, 49, 50, 51] (by decide +kernel) (by decide +kernel)
set_option maxRecDepth 20000 in
theorem gX1_reach_X1_far : GoodIn wsX1_reach (wsV RX1 68 RX1 yX1_far wsX1_far) := goodIn_app (goodIn_of _ (by decide +kernel)) ggX1_reach_X1_far
theorem dX1_reach_0 : decode cX1_reach 0 = .ok (.aload_n 0, 1) := by decide +kernel
theorem dX1_reach_1 : decode cX1_reach 1 = .ok (.iload_n 1, 1) := by decide +kernel
theorem dX1_reach_2 : decode cX1_reach 2 = .ok (.invokevirtual 27, 3) := by decide +kernel
theorem dX1_reach_5 : decode cX1_reach 5 = .ok (.ifCond .ne 5, 3) := by decide +kernel
theorem dX1_reach_8 : decode cX1_reach 8 = .ok (.iconst (-1), 1) := by decide +kernel
theorem dX1_reach_9 : decode cX1_reach 9 = .ok (.ireturn, 1) := by decide +kernel
theorem dX1_reach_10 : decode cX1_reach 10 = .ok (.iconst 0, 1) := by decide +kernel
theorem dX1_reach_11 : decode cX1_reach 11 = .ok (.istore_n 2, 1) := by decide +kernel
theorem dX1_reach_12 : decode cX1_reach 12 = .ok (.iconst 0, 1) := by decide +kernel
theorem dX1_reach_13 : decode cX1_reach 13 = .ok (.istore_n 3, 1) := by decide +kernel
theorem dX1_reach_14 : decode cX1_reach 14 = .ok (.iload_n 3, 1) := by decide +kernel
theorem dX1_reach_15 : decode cX1_reach 15 = .ok (.aload_n 0, 1) := by decide +kernel
theorem dX1_reach_16 : decode cX1_reach 16 = .ok (.getfield 23, 3) := by decide +kernel
theorem dX1_reach_19 : decode cX1_reach 19 = .ok (.if_icmp .ge 28, 3) := by decide +kernel
theorem dX1_reach_22 : decode cX1_reach 22 = .ok (.iload_n 2, 1) := by decide +kernel
theorem dX1_reach_23 : decode cX1_reach 23 = .ok (.aload_n 0, 1) := by decide +kernel
theorem dX1_reach_24 : decode cX1_reach 24 = .ok (.iload_n 1, 1) := by decide +kernel
theorem dX1_reach_25 : decode cX1_reach 25 = .ok (.iconst 0, 1) := by decide +kernel
theorem dX1_reach_26 : decode cX1_reach 26 = .ok (.iload_n 3, 1) := by decide +kernel
theorem dX1_reach_27 : decode cX1_reach 27 = .ok (.invokevirtual 68, 3) := by decide +kernel
theorem dX1_reach_30 : decode cX1_reach 30 = .ok (.iconst (-1), 1) := by decide +kernel
theorem dX1_reach_31 : decode cX1_reach 31 = .ok (.if_icmp .ne 7, 3) := by decide +kernel
theorem dX1_reach_34 : decode cX1_reach 34 = .ok (.iconst 0, 1) := by decide +kernel
theorem dX1_reach_35 : decode cX1_reach 35 = .ok (.goto 4, 3) := by decide +kernel
theorem dX1_reach_38 : decode cX1_reach 38 = .ok (.iconst 1, 1) := by decide +kernel
theorem dX1_reach_39 : decode cX1_reach 39 = .ok (.iadd, 1) := by decide +kernel
theorem dX1_reach_40 : decode cX1_reach 40 = .ok (.istore_n 2, 1) := by decide +kernel
theorem dX1_reach_41 : decode cX1_reach 41 = .ok (.iinc 3 1, 3) := by decide +kernel
theorem dX1_reach_44 : decode cX1_reach 44 = .ok (.goto (-30), 3) := by decide +kernel
theorem dX1_reach_47 : decode cX1_reach 47 = .ok (.iload_n 2, 1) := by decide +kernel
theorem dX1_reach_48 : decode cX1_reach 48 = .ok (.ireturn, 1) := by decide +kernel
set_option maxRecDepth 20000 in
theorem ggX1_greatest_X1_reckon : GoodIn wsX1_greatest wsX1_reckon := goodIn_r _ [8, 1, 2, 3, 9, 10, 11, 7, 12, 13, 14, 15, 16, 17, 18, 19, 20, 21, 22, 23, 24, 25, 26, 27, 28, 29, 30] (by decide +kernel) (by decide +kernel)
set_option maxRecDepth 20000 in
theorem gX1_greatest_X1_reckon : GoodIn wsX1_greatest (wsV RX1 57 RX1 yX1_reckon wsX1_reckon) := goodIn_app (goodIn_of _ (by decide +kernel)) ggX1_greatest_X1_reckon
theorem dX1_greatest_0 : decode cX1_greatest 0 = .ok (.iconst 0, 1) := by decide +kernel
theorem dX1_greatest_1 : decode cX1_greatest 1 = .ok (.istore_n 1, 1) := by decide +kernel
theorem dX1_greatest_2 : decode cX1_greatest 2 = .ok (.iconst 0, 1) := by decide +kernel
theorem dX1_greatest_3 : decode cX1_greatest 3 = .ok (.istore_n 2, 1) := by decide +kernel
theorem dX1_greatest_4 : decode cX1_greatest 4 = .ok (.iload_n 2, 1) := by decide +kernel
theorem dX1_greatest_5 : decode cX1_greatest 5 = .ok (.aload_n 0, 1) := by decide +kernel
theorem dX1_greatest_6 : decode cX1_greatest 6 = .ok (.getfield 23, 3) := by decide +kernel
theorem dX1_greatest_9 : decode cX1_greatest 9 = .ok (.if_icmp .ge 63, 3) := by decide +kernel
theorem dX1_greatest_12 : decode cX1_greatest 12 = .ok (.aload_n 0, 1) := by decide +kernel
theorem dX1_greatest_13 : decode cX1_greatest 13 = .ok (.iconst 0, 1) := by decide +kernel
theorem dX1_greatest_14 : decode cX1_greatest 14 = .ok (.iload_n 2, 1) := by decide +kernel
theorem dX1_greatest_15 : decode cX1_greatest 15 = .ok (.invokevirtual 57, 3) := by decide +kernel
theorem dX1_greatest_18 : decode cX1_greatest 18 = .ok (.iconst 0, 1) := by decide +kernel
theorem dX1_greatest_19 : decode cX1_greatest 19 = .ok (.istore_n 3, 1) := by decide +kernel
theorem dX1_greatest_20 : decode cX1_greatest 20 = .ok (.iload_n 3, 1) := by decide +kernel
theorem dX1_greatest_21 : decode cX1_greatest 21 = .ok (.aload_n 0, 1) := by decide +kernel
theorem dX1_greatest_22 : decode cX1_greatest 22 = .ok (.getfield 23, 3) := by decide +kernel
theorem dX1_greatest_25 : decode cX1_greatest 25 = .ok (.if_icmp .ge 41, 3) := by decide +kernel
theorem dX1_greatest_28 : decode cX1_greatest 28 = .ok (.aload_n 0, 1) := by decide +kernel
theorem dX1_greatest_29 : decode cX1_greatest 29 = .ok (.getfield 20, 3) := by decide +kernel
theorem dX1_greatest_32 : decode cX1_greatest 32 = .ok (.iload_n 3, 1) := by decide +kernel
theorem dX1_greatest_33 : decode cX1_greatest 33 = .ok (.iaload, 1) := by decide +kernel
theorem dX1_greatest_34 : decode cX1_greatest 34 = .ok (.ldc 42, 2) := by decide +kernel
theorem dX1_greatest_36 : decode cX1_greatest 36 = .ok (.if_icmp .ge 22, 3) := by decide +kernel
theorem dX1_greatest_39 : decode cX1_greatest 39 = .ok (.aload_n 0, 1) := by decide +kernel
theorem dX1_greatest_40 : decode cX1_greatest 40 = .ok (.getfield 20, 3) := by decide +kernel
theorem dX1_greatest_43 : decode cX1_greatest 43 = .ok (.iload_n 3, 1) := by decide +kernel
theorem dX1_greatest_44 : decode cX1_greatest 44 = .ok (.iaload, 1) := by decide +kernel
theorem dX1_greatest_45 : decode cX1_greatest 45 = .ok (.iload_n 1, 1) := by decide +kernel
theorem dX1_greatest_46 : decode cX1_greatest 46 = .ok (.if_icmp .le 12, 3) := by decide +kernel
theorem dX1_greatest_49 : decode cX1_greatest 49 = .ok (.aload_n 0, 1) := by decide +kernel
theorem dX1_greatest_50 : decode cX1_greatest 50 = .ok (.getfield 20, 3) := by decide +kernel
theorem dX1_greatest_53 : decode cX1_greatest 53 = .ok (.iload_n 3, 1) := by decide +kernel
theorem dX1_greatest_54 : decode cX1_greatest 54 = .ok (.iaload, 1) := by decide +kernel
theorem dX1_greatest_55 : decode cX1_greatest 55 = .ok (.goto 4, 3) := by decide +kernel
theorem dX1_greatest_58 : decode cX1_greatest 58 = .ok (.iload_n 1, 1) := by decide +kernel
theorem dX1_greatest_59 : decode cX1_greatest 59 = .ok (.istore_n 1, 1) := by decide +kernel
theorem dX1_greatest_60 : decode cX1_greatest 60 = .ok (.iinc 3 1, 3) := by decide +kernel
theorem dX1_greatest_63 : decode cX1_greatest 63 = .ok (.goto (-43), 3) := by decide +kernel
theorem dX1_greatest_66 : decode cX1_greatest 66 = .ok (.iinc 2 1, 3) := by decide +kernel
theorem dX1_greatest_69 : decode cX1_greatest 69 = .ok (.goto (-65), 3) := by decide +kernel
theorem dX1_greatest_72 : decode cX1_greatest 72 = .ok (.iload_n 1, 1) := by decide +kernel
theorem dX1_greatest_73 : decode cX1_greatest 73 = .ok (.ireturn, 1) := by decide +kernel
set_option maxRecDepth 20000 in
theorem ggX1_count_X1_greatest : GoodIn wsX1_count wsX1_greatest := goodIn_r _ [8, 1, 9, 10, 11, 12, 13, 7, 14, 15, 16, 17, 18, 3, 19, 20, 21, 22, 2, 23, 24, 25, 26, 27, 28, 29, 30, 31, 32, 33, 34] (by decide +kernel) (by decide +kernel)
set_option maxRecDepth 20000 in
theorem gX1_count_X1_greatest : GoodIn wsX1_count (wsV RX1 72 RX1 yX1_greatest wsX1_greatest) := goodIn_app (goodIn_of _ (by decide +kernel)) ggX1_count_X1_greatest
theorem dX1_count_0 : decode cX1_count 0 = .ok (.iload_n 1, 1) := by decide +kernel
theorem dX1_count_1 : decode cX1_count 1 = .ok (.ifCond .ne 8, 3) := by decide +kernel
theorem dX1_count_4 : decode cX1_count 4 = .ok (.aload_n 0, 1) := by decide +kernel
theorem dX1_count_5 : decode cX1_count 5 = .ok (.getfield 23, 3) := by decide +kernel
theorem dX1_count_8 : decode cX1_count 8 = .ok (.ireturn, 1) := by decide +kernel
theorem dX1_count_9 : decode cX1_count 9 = .ok (.iload_n 1, 1) := by decide +kernel
theorem dX1_count_10 : decode cX1_count 10 = .ok (.iconst 3, 1) := by decide +kernel
theorem dX1_count_11 : decode cX1_count 11 = .ok (.if_icmp .ne 8, 3) := by decide +kernel
theorem dX1_count_14 : decode cX1_count 14 = .ok (.aload_n 0, 1) := by decide +kernel
theorem dX1_count_15 : decode cX1_count 15 = .ok (.invokevirtual 72, 3) := by decide +kernel
theorem dX1_count_18 : decode cX1_count 18 = .ok (.ireturn, 1) := by decide +kernel
theorem dX1_count_19 : decode cX1_count 19 = .ok (.iload_n 1, 1) := by decide +kernel
theorem dX1_count_20 : decode cX1_count 20 = .ok (.iconst 1, 1) := by decide +kernel
theorem dX1_count_21 : decode cX1_count 21 = .ok (.if_icmp .eq 10, 3) := by decide +kernel
theorem dX1_count_24 : decode cX1_count 24 = .ok (.iload_n 1, 1) := by decide +kernel
theorem dX1_count_25 : decode cX1_count 25 = .ok (.iconst 2, 1) := by decide +kernel
theorem dX1_count_26 : decode cX1_count 26 = .ok (.if_icmp .eq 5, 3) := by decide +kernel
theorem dX1_count_29 : decode cX1_count 29 = .ok (.iconst (-1), 1) := by decide +kernel
theorem dX1_count_30 : decode cX1_count 30 = .ok (.ireturn, 1) := by decide +kernel
theorem dX1_count_31 : decode cX1_count 31 = .ok (.iconst 0, 1) := by decide +kernel
theorem dX1_count_32 : decode cX1_count 32 = .ok (.istore_n 2, 1) := by decide +kernel
theorem dX1_count_33 : decode cX1_count 33 = .ok (.iconst 0, 1) := by decide +kernel
theorem dX1_count_34 : decode cX1_count 34 = .ok (.istore_n 3, 1) := by decide +kernel
theorem dX1_count_35 : decode cX1_count 35 = .ok (.iload_n 3, 1) := by decide +kernel
theorem dX1_count_36 : decode cX1_count 36 = .ok (.bipush 40, 2) := by decide +kernel
theorem dX1_count_38 : decode cX1_count 38 = .ok (.if_icmp .ge 32, 3) := by decide +kernel
theorem dX1_count_41 : decode cX1_count 41 = .ok (.iload_n 2, 1) := by decide +kernel
theorem dX1_count_42 : decode cX1_count 42 = .ok (.iload_n 1, 1) := by decide +kernel
theorem dX1_count_43 : decode cX1_count 43 = .ok (.iconst 1, 1) := by decide +kernel
theorem dX1_count_44 : decode cX1_count 44 = .ok (.if_icmp .ne 17, 3) := by decide +kernel
theorem dX1_count_47 : decode cX1_count 47 = .ok (.aload_n 0, 1) := by decide +kernel
theorem dX1_count_48 : decode cX1_count 48 = .ok (.getfield 7, 3) := by decide +kernel
theorem dX1_count_51 : decode cX1_count 51 = .ok (.iload_n 3, 1) := by decide +kernel
theorem dX1_count_52 : decode cX1_count 52 = .ok (.iaload, 1) := by decide +kernel
theorem dX1_count_53 : decode cX1_count 53 = .ok (.iconst (-1), 1) := by decide +kernel
theorem dX1_count_54 : decode cX1_count 54 = .ok (.if_icmp .eq 7, 3) := by decide +kernel
theorem dX1_count_57 : decode cX1_count 57 = .ok (.iconst 1, 1) := by decide +kernel
theorem dX1_count_58 : decode cX1_count 58 = .ok (.goto 4, 3) := by decide +kernel
theorem dX1_count_61 : decode cX1_count 61 = .ok (.iconst 0, 1) := by decide +kernel
theorem dX1_count_62 : decode cX1_count 62 = .ok (.iadd, 1) := by decide +kernel
theorem dX1_count_63 : decode cX1_count 63 = .ok (.istore_n 2, 1) := by decide +kernel
theorem dX1_count_64 : decode cX1_count 64 = .ok (.iinc 3 1, 3) := by decide +kernel
theorem dX1_count_67 : decode cX1_count 67 = .ok (.goto (-32), 3) := by decide +kernel
theorem dX1_count_70 : decode cX1_count 70 = .ok (.iconst 0, 1) := by decide +kernel
theorem dX1_count_71 : decode cX1_count 71 = .ok (.istore_n 3, 1) := by decide +kernel
theorem dX1_count_72 : decode cX1_count 72 = .ok (.iload_n 3, 1) := by decide +kernel
theorem dX1_count_73 : decode cX1_count 73 = .ok (.bipush 16, 2) := by decide +kernel
theorem dX1_count_75 : decode cX1_count 75 = .ok (.if_icmp .ge 31, 3) := by decide +kernel
theorem dX1_count_78 : decode cX1_count 78 = .ok (.iload_n 2, 1) := by decide +kernel
theorem dX1_count_79 : decode cX1_count 79 = .ok (.iload_n 1, 1) := by decide +kernel
theorem dX1_count_80 : decode cX1_count 80 = .ok (.iconst 2, 1) := by decide +kernel
theorem dX1_count_81 : decode cX1_count 81 = .ok (.if_icmp .ne 16, 3) := by decide +kernel
theorem dX1_count_84 : decode cX1_count 84 = .ok (.aload_n 0, 1) := by decide +kernel
theorem dX1_count_85 : decode cX1_count 85 = .ok (.getfield 16, 3) := by decide +kernel
theorem dX1_count_88 : decode cX1_count 88 = .ok (.iload_n 3, 1) := by decide +kernel
theorem dX1_count_89 : decode cX1_count 89 = .ok (.baload, 1) := by decide +kernel
theorem dX1_count_90 : decode cX1_count 90 = .ok (.ifCond .eq 7, 3) := by decide +kernel
theorem dX1_count_93 : decode cX1_count 93 = .ok (.iconst 1, 1) := by decide +kernel
theorem dX1_count_94 : decode cX1_count 94 = .ok (.goto 4, 3) := by decide +kernel
theorem dX1_count_97 : decode cX1_count 97 = .ok (.iconst 0, 1) := by decide +kernel
theorem dX1_count_98 : decode cX1_count 98 = .ok (.iadd, 1) := by decide +kernel
theorem dX1_count_99 : decode cX1_count 99 = .ok (.istore_n 2, 1) := by decide +kernel
theorem dX1_count_100 : decode cX1_count 100 = .ok (.iinc 3 1, 3) := by decide +kernel
theorem dX1_count_103 : decode cX1_count 103 = .ok (.goto (-31), 3) := by decide +kernel
theorem dX1_count_106 : decode cX1_count 106 = .ok (.iload_n 2, 1) := by decide +kernel
theorem dX1_count_107 : decode cX1_count 107 = .ok (.ireturn, 1) := by decide +kernel
theorem dJ9_max_7cf53_0 : decode cJ9_max_7cf53 0 = .ok (.iload_n 0, 1) := by decide +kernel
theorem dJ9_max_7cf53_1 : decode cJ9_max_7cf53 1 = .ok (.iload_n 1, 1) := by decide +kernel
theorem dJ9_max_7cf53_2 : decode cJ9_max_7cf53 2 = .ok (.if_icmp .lt 7, 3) := by decide +kernel
theorem dJ9_max_7cf53_5 : decode cJ9_max_7cf53 5 = .ok (.iload_n 0, 1) := by decide +kernel
theorem dJ9_max_7cf53_6 : decode cJ9_max_7cf53 6 = .ok (.goto 4, 3) := by decide +kernel
theorem dJ9_max_7cf53_9 : decode cJ9_max_7cf53 9 = .ok (.iload_n 1, 1) := by decide +kernel
theorem dJ9_max_7cf53_10 : decode cJ9_max_7cf53 10 = .ok (.ireturn, 1) := by decide +kernel
theorem dJ9_min_7cf53_0 : decode cJ9_min_7cf53 0 = .ok (.iload_n 0, 1) := by decide +kernel
theorem dJ9_min_7cf53_1 : decode cJ9_min_7cf53 1 = .ok (.iload_n 1, 1) := by decide +kernel
theorem dJ9_min_7cf53_2 : decode cJ9_min_7cf53 2 = .ok (.if_icmp .gt 7, 3) := by decide +kernel
theorem dJ9_min_7cf53_5 : decode cJ9_min_7cf53 5 = .ok (.iload_n 0, 1) := by decide +kernel
theorem dJ9_min_7cf53_6 : decode cJ9_min_7cf53 6 = .ok (.goto 4, 3) := by decide +kernel
theorem dJ9_min_7cf53_9 : decode cJ9_min_7cf53 9 = .ok (.iload_n 1, 1) := by decide +kernel
theorem dJ9_min_7cf53_10 : decode cJ9_min_7cf53 10 = .ok (.ireturn, 1) := by decide +kernel
theorem dL_cell_0 : decode cL_cell 0 = .ok (.iload_n 1, 1) := by decide +kernel
theorem dL_cell_1 : decode cL_cell 1 = .ok (.aload_n 0, 1) := by decide +kernel
theorem dL_cell_2 : decode cL_cell 2 = .ok (.arraylength, 1) := by decide +kernel
theorem dL_cell_3 : decode cL_cell 3 = .ok (.if_icmp .ge 9, 3) := by decide +kernel
theorem dL_cell_6 : decode cL_cell 6 = .ok (.aload_n 0, 1) := by decide +kernel
theorem dL_cell_7 : decode cL_cell 7 = .ok (.iload_n 1, 1) := by decide +kernel
theorem dL_cell_8 : decode cL_cell 8 = .ok (.iaload, 1) := by decide +kernel
theorem dL_cell_9 : decode cL_cell 9 = .ok (.goto 4, 3) := by decide +kernel
theorem dL_cell_12 : decode cL_cell 12 = .ok (.iconst 0, 1) := by decide +kernel
theorem dL_cell_13 : decode cL_cell 13 = .ok (.ireturn, 1) := by decide +kernel
set_option maxRecDepth 20000 in
theorem ggL_law_L_cell : GoodIn wsL_law wsL_cell := goodIn_r _ [9] (by decide +kernel) (by decide +kernel)
set_option maxRecDepth 20000 in
theorem gL_law_L_cell : GoodIn wsL_law (va_wsS RL 9 yL_cell wsL_cell) := goodIn_app (goodIn_of _ (by decide +kernel)) ggL_law_L_cell
set_option maxRecDepth 20000 in
theorem ggL_law_X0_init : GoodIn wsL_law wsX0_init := goodIn_r _ [12, 13, 14, 15, 16, 17, 18, 19, 20, 21, 22, 23, 24, 25, 26, 27, 28, 29, 30, 31, 32, 243, 244, 245, 246, 247, 248, 249, 250] (by decide +kernel) (by decide +kernel)
set_option maxRecDepth 20000 in
theorem gL_law_X0_init : GoodIn wsL_law (wsX0_init) := ggL_law_X0_init
set_option maxRecDepth 20000 in
theorem ggL_law_X1_init : GoodIn wsL_law wsX1_init := goodIn_r _ [35, 36, 14, 15, 24, 37, 38, 27, 39, 40, 41, 251, 252, 253, 254, 255, 256, 257] (by decide +kernel) (by decide +kernel)
set_option maxRecDepth 20000 in
theorem gL_law_X1_init : GoodIn wsL_law (wsX1_init) := ggL_law_X1_init
set_option maxRecDepth 20000 in
theorem ggL_law_X0_plug : GoodIn wsL_law wsX0_plug := goodIn_r _ [45, 25, 26, 46, 47, 48, 2, 49, 50, 51, 52, 53, 23, 54, 55, 56, 57, 58, 59, 60, 61, 62, 63, 64, 65, 66, 243, 244, 245, 246, 247, 248, 249, 250] (by decide +kernel) (by decide +kernel)
set_option maxRecDepth 20000 in
theorem gL_law_X0_plug : GoodIn wsL_law (wsV RL 21 RX0 yX0_plug wsX0_plug) := goodIn_app (goodIn_of _ (by decide +kernel)) ggL_law_X0_plug
set_option maxRecDepth 20000 in
theorem ggL_law_X1_plug : GoodIn wsL_law wsX1_plug := goodIn_r _ [70, 37, 38, 71, 72, 73, 5, 74, 75, 76, 77, 78, 41, 79, 80, 81, 82, 83, 84, 85, 251, 252, 253, 254, 255, 256, 257] (by decide +kernel) (by decide +kernel)
set_option maxRecDepth 20000 in
theorem gL_law_X1_plug : GoodIn wsL_law (wsV RL 25 RX1 yX1_plug wsX1_plug) := goodIn_app (goodIn_of _ (by decide +kernel)) ggL_law_X1_plug
set_option maxRecDepth 20000 in
theorem ggL_law_X0_draw : GoodIn wsL_law wsX0_draw := goodIn_r _ [89, 25, 90, 91, 92, 2, 93, 46, 47, 48, 49, 50, 51, 52, 53, 23, 60, 61, 62, 54, 55, 56, 243, 244, 245, 246, 247, 248, 249, 250] (by decide +kernel) (by decide +kernel)
set_option maxRecDepth 20000 in
theorem gL_law_X0_draw : GoodIn wsL_law (wsV RL 26 RX0 yX0_draw wsX0_draw) := goodIn_app (goodIn_of _ (by decide +kernel)) ggL_law_X0_draw
set_option maxRecDepth 20000 in
theorem ggL_law_X1_draw : GoodIn wsL_law wsX1_draw := goodIn_r _ [97, 37, 71, 72, 73, 5, 74, 75, 76, 77, 78, 41, 251, 252, 253, 254, 255, 256, 257] (by decide +kernel) (by decide +kernel)
set_option maxRecDepth 20000 in
theorem gL_law_X1_draw : GoodIn wsL_law (wsV RL 30 RX1 yX1_draw wsX1_draw) := goodIn_app (goodIn_of _ (by decide +kernel)) ggL_law_X1_draw
set_option maxRecDepth 20000 in
theorem ggL_law_X0_cost : GoodIn wsL_law wsX0_cost := goodIn_r _ [101, 26, 90, 91, 92, 2, 93, 25, 46, 47, 48, 49, 50, 51, 52, 53, 23, 60, 61, 62, 54, 55, 56, 57, 58, 59, 243, 244, 245, 246, 247, 248, 249, 250] (by decide +kernel) (by decide +kernel)
set_option maxRecDepth 20000 in
theorem gL_law_X0_cost : GoodIn wsL_law (wsV RL 31 RX0 yX0_cost wsX0_cost) := goodIn_app (goodIn_of _ (by decide +kernel)) ggL_law_X0_cost
set_option maxRecDepth 20000 in
theorem ggL_law_X1_cost : GoodIn wsL_law wsX1_cost := goodIn_r _ [105, 37, 38, 71, 72, 73, 5, 74, 75, 76, 77, 78, 41, 251, 252, 253, 254, 255, 256, 257] (by decide +kernel) (by decide +kernel)
set_option maxRecDepth 20000 in
theorem gL_law_X1_cost : GoodIn wsL_law (wsV RL 35 RX1 yX1_cost wsX1_cost) := goodIn_app (goodIn_of _ (by decide +kernel)) ggL_law_X1_cost
set_option maxRecDepth 20000 in
theorem ggL_law_X0_cut : GoodIn wsL_law wsX0_cut := goodIn_r _ [109, 28, 110, 111, 112, 2, 113, 54, 55, 56, 243, 244, 245, 246, 247, 248, 249, 250] (by decide +kernel) (by decide +kernel)
set_option maxRecDepth 20000 in
theorem gL_law_X0_cut : GoodIn wsL_law (wsV RL 36 RX0 yX0_cut wsX0_cut) := goodIn_app (goodIn_of _ (by decide +kernel)) ggL_law_X0_cut
set_option maxRecDepth 20000 in
theorem ggL_law_X1_cut : GoodIn wsL_law wsX1_cut := goodIn_r _ [117, 39, 79, 80, 5, 81, 251, 252, 253, 254, 255, 256, 257] (by decide +kernel) (by decide +kernel)
set_option maxRecDepth 20000 in
theorem gL_law_X1_cut : GoodIn wsL_law (wsV RL 40 RX1 yX1_cut wsX1_cut) := goodIn_app (goodIn_of _ (by decide +kernel)) ggL_law_X1_cut
set_option maxRecDepth 20000 in
theorem ggL_law_X0_mend : GoodIn wsL_law wsX0_mend := goodIn_r _ [121, 28, 54, 55, 2, 56, 243, 244, 245, 246, 247, 248, 249, 250] (by decide +kernel) (by decide +kernel)
set_option maxRecDepth 20000 in
theorem gL_law_X0_mend : GoodIn wsL_law (wsV RL 41 RX0 yX0_mend wsX0_mend) := goodIn_app (goodIn_of _ (by decide +kernel)) ggL_law_X0_mend
set_option maxRecDepth 20000 in
theorem ggL_law_X1_mend : GoodIn wsL_law wsX1_mend := goodIn_r _ [125, 39, 79, 80, 5, 81, 251, 252, 253, 254, 255, 256, 257] (by decide +kernel) (by decide +kernel)
set_option maxRecDepth 20000 in
theorem gL_law_X1_mend : GoodIn wsL_law (wsV RL 44 RX1 yX1_mend wsX1_mend) := goodIn_app (goodIn_of _ (by decide +kernel)) ggL_law_X1_mend
set_option maxRecDepth 20000 in
theorem ggL_law_X0_far : GoodIn wsL_law wsX0_far := goodIn_r _ [129, 29, 130, 131, 132, 2, 133, 134, 50, 51, 52, 53, 23, 135, 136, 137, 138, 110, 111, 112, 113, 28, 54, 55, 56, 139, 140, 141, 142, 63, 64, 65, 66, 25, 60, 61, 62, 143, 144, 145, 146, 30, 147, 148, 149, 150, 26, 243, 244, 245, 246, 247, 248, 249, 250] (by decide +kernel) (by decide +kernel)
set_option maxRecDepth 20000 in
theorem gL_law_X0_far : GoodIn wsL_law (wsV RL 45 RX0 yX0_far wsX0_far) := goodIn_app (goodIn_of _ (by decide +kernel)) ggL_law_X0_far
set_option maxRecDepth 20000 in
theorem ggL_law_X1_far : GoodIn wsL_law wsX1_far := goodIn_r _ [154, 40, 155, 156, 157, 158, 5, 159, 75, 76, 77, 78, 41, 79, 80, 81, 160, 161, 162, 163, 164, 165, 166, 167, 39, 82, 83, 84, 85, 37, 168, 169, 170, 171, 38, 172, 173, 174, 175, 176, 177, 251, 252, 253, 254, 255, 256, 257] (by decide +kernel) (by decide +kernel)
set_option maxRecDepth 20000 in
theorem gL_law_X1_far : GoodIn wsL_law (wsV RL 49 RX1 yX1_far wsX1_far) := goodIn_app (goodIn_of _ (by decide +kernel)) ggL_law_X1_far
set_option maxRecDepth 20000 in
theorem ggL_law_X0_port : GoodIn wsL_law wsX0_port := goodIn_r _ [181, 31, 130, 131, 132, 2, 133, 29, 134, 50, 51, 52, 53, 23, 135, 136, 137, 138, 110, 111, 112, 113, 28, 54, 55, 56, 139, 140, 141, 142, 63, 64, 65, 66, 25, 60, 61, 62, 143, 144, 145, 146, 30, 147, 148, 149, 150, 26, 182, 183, 184, 185, 32, 186, 187, 188, 189, 243, 244, 245, 246, 247, 248, 249, 250] (by decide +kernel) (by decide +kernel)
set_option maxRecDepth 20000 in
theorem gL_law_X0_port : GoodIn wsL_law (wsV RL 50 RX0 yX0_port wsX0_port) := goodIn_app (goodIn_of _ (by decide +kernel)) ggL_law_X0_port
set_option maxRecDepth 20000 in
theorem ggL_law_X1_port : GoodIn wsL_law wsX1_port := goodIn_r _ [193, 176, 156, 157, 158, 5, 159, 75, 76, 77, 78, 41, 79, 80, 81, 160, 161, 162, 163, 40, 155, 164, 165, 166, 167, 39, 82, 83, 84, 85, 37, 168, 169, 170, 171, 38, 172, 173, 174, 175, 177, 251, 252, 253, 254, 255, 256, 257] (by decide +kernel) (by decide +kernel)
set_option maxRecDepth 20000 in
theorem gL_law_X1_port : GoodIn wsL_law (wsV RL 53 RX1 yX1_port wsX1_port) := goodIn_app (goodIn_of _ (by decide +kernel)) ggL_law_X1_port
set_option maxRecDepth 20000 in
theorem ggL_law_X0_next : GoodIn wsL_law wsX0_next := goodIn_r _ [197, 32, 130, 131, 132, 2, 133, 29, 134, 50, 51, 52, 53, 23, 135, 136, 137, 138, 110, 111, 112, 113, 28, 54, 55, 56, 139, 140, 141, 142, 63, 64, 65, 66, 25, 60, 61, 62, 143, 144, 145, 146, 30, 147, 148, 149, 150, 26, 182, 183, 184, 185, 31, 186, 187, 188, 189, 243, 244, 245, 246, 247, 248, 249, 250] (by decide +kernel) (by decide +kernel)
set_option maxRecDepth 20000 in
theorem gL_law_X0_next : GoodIn wsL_law (wsV RL 54 RX0 yX0_next wsX0_next) := goodIn_app (goodIn_of _ (by decide +kernel)) ggL_law_X0_next
set_option maxRecDepth 20000 in
theorem ggL_law_X1_next : GoodIn wsL_law wsX1_next := goodIn_r _ [201, 177, 156, 157, 158, 5, 159, 75, 76, 77, 78, 41, 79, 80, 81, 160, 161, 162, 163, 40, 155, 164, 165, 166, 167, 39, 82, 83, 84, 85, 37, 168, 169, 170, 171, 38, 172, 173, 174, 175, 176, 251, 252, 253, 254, 255, 256, 257] (by decide +kernel) (by decide +kernel)
set_option maxRecDepth 20000 in
theorem gL_law_X1_next : GoodIn wsL_law (wsV RL 57 RX1 yX1_next wsX1_next) := goodIn_app (goodIn_of _ (by decide +kernel)) ggL_law_X1_next
set_option maxRecDepth 20000 in
theorem ggL_law_X0_walk : GoodIn wsL_law wsX0_walk := goodIn_r _ [205, 23, 32, 130, 131, 132, 2, 133, 29, 134, 50, 51, 52, 53, 135, 136, 137, 138, 110, 111, 112, 113, 28, 54, 55, 56, 139, 140, 141, 142, 63, 64, 65, 66, 25, 60, 61, 62, 143, 144, 145, 146, 30, 147, 148, 149, 150, 26, 182, 183, 184, 185, 31, 186, 187, 188, 189, 243, 244, 245, 246, 247, 248, 249, 250] (by decide +kernel) (by decide +kernel)
set_option maxRecDepth 20000 in
theorem gL_law_X0_walk : GoodIn wsL_law (wsV RL 58 RX0 yX0_walk wsX0_walk) := goodIn_app (goodIn_of _ (by decide +kernel)) ggL_law_X0_walk
set_option maxRecDepth 20000 in
theorem ggL_law_X1_walk : GoodIn wsL_law wsX1_walk := goodIn_r _ [209, 177, 210, 152, 153, 5, 154, 40, 155, 156, 157, 158, 159, 75, 76, 77, 78, 41, 79, 80, 81, 160, 161, 162, 163, 164, 165, 166, 167, 39, 82, 83, 84, 85, 37, 168, 169, 170, 171, 38, 172, 173, 174, 175, 176, 251, 252, 253, 254, 255, 256, 257] (by decide +kernel) (by decide +kernel)
set_option maxRecDepth 20000 in
theorem gL_law_X1_walk : GoodIn wsL_law (wsV RL 62 RX1 yX1_walk wsX1_walk) := goodIn_app (goodIn_of _ (by decide +kernel)) ggL_law_X1_walk
set_option maxRecDepth 20000 in
theorem ggL_law_X0_reach : GoodIn wsL_law wsX0_reach := goodIn_r _ [214, 23, 29, 134, 50, 51, 52, 2, 53, 139, 140, 141, 142, 63, 64, 65, 66, 25, 60, 61, 62, 143, 144, 145, 146, 30, 110, 111, 112, 113, 28, 54, 55, 56, 147, 148, 149, 150, 26, 243, 244, 245, 246, 247, 248, 249, 250] (by decide +kernel) (by decide +kernel)
set_option maxRecDepth 20000 in
theorem gL_law_X0_reach : GoodIn wsL_law (wsV RL 63 RX0 yX0_reach wsX0_reach) := goodIn_app (goodIn_of _ (by decide +kernel)) ggL_law_X0_reach
set_option maxRecDepth 20000 in
theorem ggL_law_X1_reach : GoodIn wsL_law wsX1_reach := goodIn_r _ [218, 41, 75, 76, 77, 5, 78, 210, 152, 153, 154, 40, 155, 156, 157, 158, 159, 79, 80, 81, 160, 161, 162, 163, 164, 165, 166, 167, 39, 82, 83, 84, 85, 37, 168, 169, 170, 171, 38, 172, 173, 174, 175, 176, 177, 251, 252, 253, 254, 255, 256, 257] (by decide +kernel) (by decide +kernel)
set_option maxRecDepth 20000 in
theorem gL_law_X1_reach : GoodIn wsL_law (wsV RL 67 RX1 yX1_reach wsX1_reach) := goodIn_app (goodIn_of _ (by decide +kernel)) ggL_law_X1_reach
set_option maxRecDepth 20000 in
theorem ggL_law_X0_count : GoodIn wsL_law wsX0_count := goodIn_r _ [222, 23, 223, 224, 225, 2, 226, 25, 54, 55, 56, 227, 228, 229, 230, 28, 231, 232, 233, 234, 29, 134, 139, 140, 141, 142, 63, 64, 65, 66, 60, 61, 62, 143, 144, 145, 146, 30, 110, 111, 112, 113, 147, 148, 149, 150, 26, 243, 244, 245, 246, 247, 248, 249, 250] (by decide +kernel) (by decide +kernel)
set_option maxRecDepth 20000 in
theorem gL_law_X0_count : GoodIn wsL_law (wsV RL 68 RX0 yX0_count wsX0_count) := goodIn_app (goodIn_of _ (by decide +kernel)) ggL_law_X0_count
set_option maxRecDepth 20000 in
theorem ggL_law_X1_count : GoodIn wsL_law wsX1_count := goodIn_r _ [238, 41, 37, 39, 239, 240, 241, 5, 242, 40, 155, 160, 161, 162, 163, 164, 165, 166, 167, 82, 83, 84, 85, 168, 169, 170, 171, 38, 251, 252, 253, 254, 255, 256, 257] (by decide +kernel) (by decide +kernel)
set_option maxRecDepth 20000 in
theorem gL_law_X1_count : GoodIn wsL_law (wsV RL 71 RX1 yX1_count wsX1_count) := goodIn_app (goodIn_of _ (by decide +kernel)) ggL_law_X1_count
theorem dL_law_0 : decode cL_law 0 = .ok (.new 7, 3) := by decide +kernel
theorem dL_law_3 : decode cL_law 3 = .ok (.dup, 1) := by decide +kernel
theorem dL_law_4 : decode cL_law 4 = .ok (.aload_n 0, 1) := by decide +kernel
theorem dL_law_5 : decode cL_law 5 = .ok (.iconst 0, 1) := by decide +kernel
theorem dL_law_6 : decode cL_law 6 = .ok (.invokestatic 9, 3) := by decide +kernel
theorem dL_law_9 : decode cL_law 9 = .ok (.invokespecial 15, 3) := by decide +kernel
theorem dL_law_12 : decode cL_law 12 = .ok (.astore_n 1, 1) := by decide +kernel
theorem dL_law_13 : decode cL_law 13 = .ok (.new 18, 3) := by decide +kernel
theorem dL_law_16 : decode cL_law 16 = .ok (.dup, 1) := by decide +kernel
theorem dL_law_17 : decode cL_law 17 = .ok (.aload_n 0, 1) := by decide +kernel
theorem dL_law_18 : decode cL_law 18 = .ok (.iconst 0, 1) := by decide +kernel
theorem dL_law_19 : decode cL_law 19 = .ok (.invokestatic 9, 3) := by decide +kernel
theorem dL_law_22 : decode cL_law 22 = .ok (.invokespecial 20, 3) := by decide +kernel
theorem dL_law_25 : decode cL_law 25 = .ok (.astore_n 2, 1) := by decide +kernel
theorem dL_law_26 : decode cL_law 26 = .ok (.iconst 1, 1) := by decide +kernel
theorem dL_law_27 : decode cL_law 27 = .ok (.istore_n 3, 1) := by decide +kernel
theorem dL_law_28 : decode cL_law 28 = .ok (.iload_n 3, 1) := by decide +kernel
theorem dL_law_29 : decode cL_law 29 = .ok (.aload_n 0, 1) := by decide +kernel
theorem dL_law_30 : decode cL_law 30 = .ok (.arraylength, 1) := by decide +kernel
theorem dL_law_31 : decode cL_law 31 = .ok (.iconst 5, 1) := by decide +kernel
theorem dL_law_32 : decode cL_law 32 = .ok (.isub, 1) := by decide +kernel
theorem dL_law_33 : decode cL_law 33 = .ok (.if_icmp .gt 540, 3) := by decide +kernel
theorem dL_law_36 : decode cL_law 36 = .ok (.aload_n 0, 1) := by decide +kernel
theorem dL_law_37 : decode cL_law 37 = .ok (.iload_n 3, 1) := by decide +kernel
theorem dL_law_38 : decode cL_law 38 = .ok (.iaload, 1) := by decide +kernel
theorem dL_law_39 : decode cL_law 39 = .ok (.bipush 15, 2) := by decide +kernel
theorem dL_law_41 : decode cL_law 41 = .ok (.iand, 1) := by decide +kernel
theorem dL_law_42 : decode cL_law 42 = .ok (.tableswitch 525 0 10 #[58, 111, 144, 187, 210, 233, 292, 351, 410, 479, 502], 58) := by decide +kernel
theorem dL_law_100 : decode cL_law 100 = .ok (.aload_n 1, 1) := by decide +kernel
theorem dL_law_101 : decode cL_law 101 = .ok (.aload_n 0, 1) := by decide +kernel
theorem dL_law_102 : decode cL_law 102 = .ok (.iload_n 3, 1) := by decide +kernel
theorem dL_law_103 : decode cL_law 103 = .ok (.iconst 1, 1) := by decide +kernel
theorem dL_law_104 : decode cL_law 104 = .ok (.iadd, 1) := by decide +kernel
theorem dL_law_105 : decode cL_law 105 = .ok (.iaload, 1) := by decide +kernel
theorem dL_law_106 : decode cL_law 106 = .ok (.aload_n 0, 1) := by decide +kernel
theorem dL_law_107 : decode cL_law 107 = .ok (.iload_n 3, 1) := by decide +kernel
theorem dL_law_108 : decode cL_law 108 = .ok (.iconst 2, 1) := by decide +kernel
theorem dL_law_109 : decode cL_law 109 = .ok (.iadd, 1) := by decide +kernel
theorem dL_law_110 : decode cL_law 110 = .ok (.iaload, 1) := by decide +kernel
theorem dL_law_111 : decode cL_law 111 = .ok (.aload_n 0, 1) := by decide +kernel
theorem dL_law_112 : decode cL_law 112 = .ok (.iload_n 3, 1) := by decide +kernel
theorem dL_law_113 : decode cL_law 113 = .ok (.iconst 3, 1) := by decide +kernel
theorem dL_law_114 : decode cL_law 114 = .ok (.iadd, 1) := by decide +kernel
theorem dL_law_115 : decode cL_law 115 = .ok (.iaload, 1) := by decide +kernel
theorem dL_law_116 : decode cL_law 116 = .ok (.aload_n 0, 1) := by decide +kernel
theorem dL_law_117 : decode cL_law 117 = .ok (.iload_n 3, 1) := by decide +kernel
theorem dL_law_118 : decode cL_law 118 = .ok (.iconst 4, 1) := by decide +kernel
theorem dL_law_119 : decode cL_law 119 = .ok (.iadd, 1) := by decide +kernel
theorem dL_law_120 : decode cL_law 120 = .ok (.iaload, 1) := by decide +kernel
theorem dL_law_121 : decode cL_law 121 = .ok (.invokevirtual 21, 3) := by decide +kernel
theorem dL_law_124 : decode cL_law 124 = .ok (.aload_n 2, 1) := by decide +kernel
theorem dL_law_125 : decode cL_law 125 = .ok (.aload_n 0, 1) := by decide +kernel
theorem dL_law_126 : decode cL_law 126 = .ok (.iload_n 3, 1) := by decide +kernel
theorem dL_law_127 : decode cL_law 127 = .ok (.iconst 1, 1) := by decide +kernel
theorem dL_law_128 : decode cL_law 128 = .ok (.iadd, 1) := by decide +kernel
theorem dL_law_129 : decode cL_law 129 = .ok (.iaload, 1) := by decide +kernel
theorem dL_law_130 : decode cL_law 130 = .ok (.aload_n 0, 1) := by decide +kernel
theorem dL_law_131 : decode cL_law 131 = .ok (.iload_n 3, 1) := by decide +kernel
theorem dL_law_132 : decode cL_law 132 = .ok (.iconst 2, 1) := by decide +kernel
theorem dL_law_133 : decode cL_law 133 = .ok (.iadd, 1) := by decide +kernel
theorem dL_law_134 : decode cL_law 134 = .ok (.iaload, 1) := by decide +kernel
theorem dL_law_135 : decode cL_law 135 = .ok (.aload_n 0, 1) := by decide +kernel
theorem dL_law_136 : decode cL_law 136 = .ok (.iload_n 3, 1) := by decide +kernel
theorem dL_law_137 : decode cL_law 137 = .ok (.iconst 3, 1) := by decide +kernel
theorem dL_law_138 : decode cL_law 138 = .ok (.iadd, 1) := by decide +kernel
theorem dL_law_139 : decode cL_law 139 = .ok (.iaload, 1) := by decide +kernel
theorem dL_law_140 : decode cL_law 140 = .ok (.aload_n 0, 1) := by decide +kernel
theorem dL_law_141 : decode cL_law 141 = .ok (.iload_n 3, 1) := by decide +kernel
theorem dL_law_142 : decode cL_law 142 = .ok (.iconst 4, 1) := by decide +kernel
theorem dL_law_143 : decode cL_law 143 = .ok (.iadd, 1) := by decide +kernel
theorem dL_law_144 : decode cL_law 144 = .ok (.iaload, 1) := by decide +kernel
theorem dL_law_145 : decode cL_law 145 = .ok (.invokevirtual 25, 3) := by decide +kernel
theorem dL_law_148 : decode cL_law 148 = .ok (.if_icmp .eq 419, 3) := by decide +kernel
theorem dL_law_151 : decode cL_law 151 = .ok (.iconst 0, 1) := by decide +kernel
theorem dL_law_152 : decode cL_law 152 = .ok (.ireturn, 1) := by decide +kernel
theorem dL_law_153 : decode cL_law 153 = .ok (.aload_n 1, 1) := by decide +kernel
theorem dL_law_154 : decode cL_law 154 = .ok (.aload_n 0, 1) := by decide +kernel
theorem dL_law_155 : decode cL_law 155 = .ok (.iload_n 3, 1) := by decide +kernel
theorem dL_law_156 : decode cL_law 156 = .ok (.iconst 1, 1) := by decide +kernel
theorem dL_law_157 : decode cL_law 157 = .ok (.iadd, 1) := by decide +kernel
theorem dL_law_158 : decode cL_law 158 = .ok (.iaload, 1) := by decide +kernel
theorem dL_law_159 : decode cL_law 159 = .ok (.aload_n 0, 1) := by decide +kernel
theorem dL_law_160 : decode cL_law 160 = .ok (.iload_n 3, 1) := by decide +kernel
theorem dL_law_161 : decode cL_law 161 = .ok (.iconst 2, 1) := by decide +kernel
theorem dL_law_162 : decode cL_law 162 = .ok (.iadd, 1) := by decide +kernel
theorem dL_law_163 : decode cL_law 163 = .ok (.iaload, 1) := by decide +kernel
theorem dL_law_164 : decode cL_law 164 = .ok (.invokevirtual 26, 3) := by decide +kernel
theorem dL_law_167 : decode cL_law 167 = .ok (.aload_n 2, 1) := by decide +kernel
theorem dL_law_168 : decode cL_law 168 = .ok (.aload_n 0, 1) := by decide +kernel
theorem dL_law_169 : decode cL_law 169 = .ok (.iload_n 3, 1) := by decide +kernel
theorem dL_law_170 : decode cL_law 170 = .ok (.iconst 1, 1) := by decide +kernel
theorem dL_law_171 : decode cL_law 171 = .ok (.iadd, 1) := by decide +kernel
theorem dL_law_172 : decode cL_law 172 = .ok (.iaload, 1) := by decide +kernel
theorem dL_law_173 : decode cL_law 173 = .ok (.aload_n 0, 1) := by decide +kernel
theorem dL_law_174 : decode cL_law 174 = .ok (.iload_n 3, 1) := by decide +kernel
theorem dL_law_175 : decode cL_law 175 = .ok (.iconst 2, 1) := by decide +kernel
theorem dL_law_176 : decode cL_law 176 = .ok (.iadd, 1) := by decide +kernel
theorem dL_law_177 : decode cL_law 177 = .ok (.iaload, 1) := by decide +kernel
theorem dL_law_178 : decode cL_law 178 = .ok (.invokevirtual 30, 3) := by decide +kernel
theorem dL_law_181 : decode cL_law 181 = .ok (.if_icmp .eq 386, 3) := by decide +kernel
theorem dL_law_184 : decode cL_law 184 = .ok (.iconst 0, 1) := by decide +kernel
theorem dL_law_185 : decode cL_law 185 = .ok (.ireturn, 1) := by decide +kernel
theorem dL_law_186 : decode cL_law 186 = .ok (.aload_n 1, 1) := by decide +kernel
theorem dL_law_187 : decode cL_law 187 = .ok (.aload_n 0, 1) := by decide +kernel
theorem dL_law_188 : decode cL_law 188 = .ok (.iload_n 3, 1) := by decide +kernel
theorem dL_law_189 : decode cL_law 189 = .ok (.iconst 1, 1) := by decide +kernel
theorem dL_law_190 : decode cL_law 190 = .ok (.iadd, 1) := by decide +kernel
theorem dL_law_191 : decode cL_law 191 = .ok (.iaload, 1) := by decide +kernel
theorem dL_law_192 : decode cL_law 192 = .ok (.aload_n 0, 1) := by decide +kernel
theorem dL_law_193 : decode cL_law 193 = .ok (.iload_n 3, 1) := by decide +kernel
theorem dL_law_194 : decode cL_law 194 = .ok (.iconst 2, 1) := by decide +kernel
theorem dL_law_195 : decode cL_law 195 = .ok (.iadd, 1) := by decide +kernel
theorem dL_law_196 : decode cL_law 196 = .ok (.iaload, 1) := by decide +kernel
theorem dL_law_197 : decode cL_law 197 = .ok (.aload_n 0, 1) := by decide +kernel
theorem dL_law_198 : decode cL_law 198 = .ok (.iload_n 3, 1) := by decide +kernel
theorem dL_law_199 : decode cL_law 199 = .ok (.iconst 3, 1) := by decide +kernel
theorem dL_law_200 : decode cL_law 200 = .ok (.iadd, 1) := by decide +kernel
theorem dL_law_201 : decode cL_law 201 = .ok (.iaload, 1) := by decide +kernel
theorem dL_law_202 : decode cL_law 202 = .ok (.invokevirtual 31, 3) := by decide +kernel
theorem dL_law_205 : decode cL_law 205 = .ok (.aload_n 2, 1) := by decide +kernel
theorem dL_law_206 : decode cL_law 206 = .ok (.aload_n 0, 1) := by decide +kernel
theorem dL_law_207 : decode cL_law 207 = .ok (.iload_n 3, 1) := by decide +kernel
theorem dL_law_208 : decode cL_law 208 = .ok (.iconst 1, 1) := by decide +kernel
theorem dL_law_209 : decode cL_law 209 = .ok (.iadd, 1) := by decide +kernel
theorem dL_law_210 : decode cL_law 210 = .ok (.iaload, 1) := by decide +kernel
theorem dL_law_211 : decode cL_law 211 = .ok (.aload_n 0, 1) := by decide +kernel
theorem dL_law_212 : decode cL_law 212 = .ok (.iload_n 3, 1) := by decide +kernel
theorem dL_law_213 : decode cL_law 213 = .ok (.iconst 2, 1) := by decide +kernel
theorem dL_law_214 : decode cL_law 214 = .ok (.iadd, 1) := by decide +kernel
theorem dL_law_215 : decode cL_law 215 = .ok (.iaload, 1) := by decide +kernel
theorem dL_law_216 : decode cL_law 216 = .ok (.aload_n 0, 1) := by decide +kernel
theorem dL_law_217 : decode cL_law 217 = .ok (.iload_n 3, 1) := by decide +kernel
theorem dL_law_218 : decode cL_law 218 = .ok (.iconst 3, 1) := by decide +kernel
theorem dL_law_219 : decode cL_law 219 = .ok (.iadd, 1) := by decide +kernel
theorem dL_law_220 : decode cL_law 220 = .ok (.iaload, 1) := by decide +kernel
theorem dL_law_221 : decode cL_law 221 = .ok (.invokevirtual 35, 3) := by decide +kernel
theorem dL_law_224 : decode cL_law 224 = .ok (.if_icmp .eq 343, 3) := by decide +kernel
theorem dL_law_227 : decode cL_law 227 = .ok (.iconst 0, 1) := by decide +kernel
theorem dL_law_228 : decode cL_law 228 = .ok (.ireturn, 1) := by decide +kernel
theorem dL_law_229 : decode cL_law 229 = .ok (.aload_n 1, 1) := by decide +kernel
theorem dL_law_230 : decode cL_law 230 = .ok (.aload_n 0, 1) := by decide +kernel
theorem dL_law_231 : decode cL_law 231 = .ok (.iload_n 3, 1) := by decide +kernel
theorem dL_law_232 : decode cL_law 232 = .ok (.iconst 1, 1) := by decide +kernel
theorem dL_law_233 : decode cL_law 233 = .ok (.iadd, 1) := by decide +kernel
theorem dL_law_234 : decode cL_law 234 = .ok (.iaload, 1) := by decide +kernel
theorem dL_law_235 : decode cL_law 235 = .ok (.invokevirtual 36, 3) := by decide +kernel
theorem dL_law_238 : decode cL_law 238 = .ok (.aload_n 2, 1) := by decide +kernel
theorem dL_law_239 : decode cL_law 239 = .ok (.aload_n 0, 1) := by decide +kernel
theorem dL_law_240 : decode cL_law 240 = .ok (.iload_n 3, 1) := by decide +kernel
theorem dL_law_241 : decode cL_law 241 = .ok (.iconst 1, 1) := by decide +kernel
theorem dL_law_242 : decode cL_law 242 = .ok (.iadd, 1) := by decide +kernel
theorem dL_law_243 : decode cL_law 243 = .ok (.iaload, 1) := by decide +kernel
theorem dL_law_244 : decode cL_law 244 = .ok (.invokevirtual 40, 3) := by decide +kernel
theorem dL_law_247 : decode cL_law 247 = .ok (.if_icmp .eq 320, 3) := by decide +kernel
theorem dL_law_250 : decode cL_law 250 = .ok (.iconst 0, 1) := by decide +kernel
theorem dL_law_251 : decode cL_law 251 = .ok (.ireturn, 1) := by decide +kernel
theorem dL_law_252 : decode cL_law 252 = .ok (.aload_n 1, 1) := by decide +kernel
theorem dL_law_253 : decode cL_law 253 = .ok (.aload_n 0, 1) := by decide +kernel
theorem dL_law_254 : decode cL_law 254 = .ok (.iload_n 3, 1) := by decide +kernel
theorem dL_law_255 : decode cL_law 255 = .ok (.iconst 1, 1) := by decide +kernel
theorem dL_law_256 : decode cL_law 256 = .ok (.iadd, 1) := by decide +kernel
theorem dL_law_257 : decode cL_law 257 = .ok (.iaload, 1) := by decide +kernel
theorem dL_law_258 : decode cL_law 258 = .ok (.invokevirtual 41, 3) := by decide +kernel
theorem dL_law_261 : decode cL_law 261 = .ok (.aload_n 2, 1) := by decide +kernel
theorem dL_law_262 : decode cL_law 262 = .ok (.aload_n 0, 1) := by decide +kernel
theorem dL_law_263 : decode cL_law 263 = .ok (.iload_n 3, 1) := by decide +kernel
theorem dL_law_264 : decode cL_law 264 = .ok (.iconst 1, 1) := by decide +kernel
theorem dL_law_265 : decode cL_law 265 = .ok (.iadd, 1) := by decide +kernel
theorem dL_law_266 : decode cL_law 266 = .ok (.iaload, 1) := by decide +kernel
theorem dL_law_267 : decode cL_law 267 = .ok (.invokevirtual 44, 3) := by decide +kernel
theorem dL_law_270 : decode cL_law 270 = .ok (.if_icmp .eq 297, 3) := by decide +kernel
theorem dL_law_273 : decode cL_law 273 = .ok (.iconst 0, 1) := by decide +kernel
theorem dL_law_274 : decode cL_law 274 = .ok (.ireturn, 1) := by decide +kernel
theorem dL_law_275 : decode cL_law 275 = .ok (.aload_n 1, 1) := by decide +kernel
theorem dL_law_276 : decode cL_law 276 = .ok (.aload_n 0, 1) := by decide +kernel
theorem dL_law_277 : decode cL_law 277 = .ok (.iload_n 3, 1) := by decide +kernel
theorem dL_law_278 : decode cL_law 278 = .ok (.iconst 1, 1) := by decide +kernel
theorem dL_law_279 : decode cL_law 279 = .ok (.iadd, 1) := by decide +kernel
theorem dL_law_280 : decode cL_law 280 = .ok (.iaload, 1) := by decide +kernel
theorem dL_law_281 : decode cL_law 281 = .ok (.aload_n 0, 1) := by decide +kernel
theorem dL_law_282 : decode cL_law 282 = .ok (.iload_n 3, 1) := by decide +kernel
theorem dL_law_283 : decode cL_law 283 = .ok (.iconst 2, 1) := by decide +kernel
theorem dL_law_284 : decode cL_law 284 = .ok (.iadd, 1) := by decide +kernel
theorem dL_law_285 : decode cL_law 285 = .ok (.iaload, 1) := by decide +kernel
theorem dL_law_286 : decode cL_law 286 = .ok (.ifCond .eq 7, 3) := by decide +kernel
theorem dL_law_289 : decode cL_law 289 = .ok (.iconst 1, 1) := by decide +kernel
theorem dL_law_290 : decode cL_law 290 = .ok (.goto 4, 3) := by decide +kernel
theorem dL_law_293 : decode cL_law 293 = .ok (.iconst 0, 1) := by decide +kernel
theorem dL_law_294 : decode cL_law 294 = .ok (.aload_n 0, 1) := by decide +kernel
theorem dL_law_295 : decode cL_law 295 = .ok (.iload_n 3, 1) := by decide +kernel
theorem dL_law_296 : decode cL_law 296 = .ok (.iconst 3, 1) := by decide +kernel
theorem dL_law_297 : decode cL_law 297 = .ok (.iadd, 1) := by decide +kernel
theorem dL_law_298 : decode cL_law 298 = .ok (.iaload, 1) := by decide +kernel
theorem dL_law_299 : decode cL_law 299 = .ok (.invokevirtual 45, 3) := by decide +kernel
theorem dL_law_302 : decode cL_law 302 = .ok (.aload_n 2, 1) := by decide +kernel
theorem dL_law_303 : decode cL_law 303 = .ok (.aload_n 0, 1) := by decide +kernel
theorem dL_law_304 : decode cL_law 304 = .ok (.iload_n 3, 1) := by decide +kernel
theorem dL_law_305 : decode cL_law 305 = .ok (.iconst 1, 1) := by decide +kernel
theorem dL_law_306 : decode cL_law 306 = .ok (.iadd, 1) := by decide +kernel
theorem dL_law_307 : decode cL_law 307 = .ok (.iaload, 1) := by decide +kernel
theorem dL_law_308 : decode cL_law 308 = .ok (.aload_n 0, 1) := by decide +kernel
theorem dL_law_309 : decode cL_law 309 = .ok (.iload_n 3, 1) := by decide +kernel
theorem dL_law_310 : decode cL_law 310 = .ok (.iconst 2, 1) := by decide +kernel
theorem dL_law_311 : decode cL_law 311 = .ok (.iadd, 1) := by decide +kernel
theorem dL_law_312 : decode cL_law 312 = .ok (.iaload, 1) := by decide +kernel
theorem dL_law_313 : decode cL_law 313 = .ok (.ifCond .eq 7, 3) := by decide +kernel
theorem dL_law_316 : decode cL_law 316 = .ok (.iconst 1, 1) := by decide +kernel
theorem dL_law_317 : decode cL_law 317 = .ok (.goto 4, 3) := by decide +kernel
theorem dL_law_320 : decode cL_law 320 = .ok (.iconst 0, 1) := by decide +kernel
theorem dL_law_321 : decode cL_law 321 = .ok (.aload_n 0, 1) := by decide +kernel
theorem dL_law_322 : decode cL_law 322 = .ok (.iload_n 3, 1) := by decide +kernel
theorem dL_law_323 : decode cL_law 323 = .ok (.iconst 3, 1) := by decide +kernel
theorem dL_law_324 : decode cL_law 324 = .ok (.iadd, 1) := by decide +kernel
theorem dL_law_325 : decode cL_law 325 = .ok (.iaload, 1) := by decide +kernel
theorem dL_law_326 : decode cL_law 326 = .ok (.invokevirtual 49, 3) := by decide +kernel
theorem dL_law_329 : decode cL_law 329 = .ok (.if_icmp .eq 238, 3) := by decide +kernel
theorem dL_law_332 : decode cL_law 332 = .ok (.iconst 0, 1) := by decide +kernel
theorem dL_law_333 : decode cL_law 333 = .ok (.ireturn, 1) := by decide +kernel
theorem dL_law_334 : decode cL_law 334 = .ok (.aload_n 1, 1) := by decide +kernel
theorem dL_law_335 : decode cL_law 335 = .ok (.aload_n 0, 1) := by decide +kernel
theorem dL_law_336 : decode cL_law 336 = .ok (.iload_n 3, 1) := by decide +kernel
theorem dL_law_337 : decode cL_law 337 = .ok (.iconst 1, 1) := by decide +kernel
theorem dL_law_338 : decode cL_law 338 = .ok (.iadd, 1) := by decide +kernel
theorem dL_law_339 : decode cL_law 339 = .ok (.iaload, 1) := by decide +kernel
theorem dL_law_340 : decode cL_law 340 = .ok (.aload_n 0, 1) := by decide +kernel
theorem dL_law_341 : decode cL_law 341 = .ok (.iload_n 3, 1) := by decide +kernel
theorem dL_law_342 : decode cL_law 342 = .ok (.iconst 2, 1) := by decide +kernel
theorem dL_law_343 : decode cL_law 343 = .ok (.iadd, 1) := by decide +kernel
theorem dL_law_344 : decode cL_law 344 = .ok (.iaload, 1) := by decide +kernel
theorem dL_law_345 : decode cL_law 345 = .ok (.ifCond .eq 7, 3) := by decide +kernel
theorem dL_law_348 : decode cL_law 348 = .ok (.iconst 1, 1) := by decide +kernel
theorem dL_law_349 : decode cL_law 349 = .ok (.goto 4, 3) := by decide +kernel
theorem dL_law_352 : decode cL_law 352 = .ok (.iconst 0, 1) := by decide +kernel
theorem dL_law_353 : decode cL_law 353 = .ok (.aload_n 0, 1) := by decide +kernel
theorem dL_law_354 : decode cL_law 354 = .ok (.iload_n 3, 1) := by decide +kernel
theorem dL_law_355 : decode cL_law 355 = .ok (.iconst 3, 1) := by decide +kernel
theorem dL_law_356 : decode cL_law 356 = .ok (.iadd, 1) := by decide +kernel
theorem dL_law_357 : decode cL_law 357 = .ok (.iaload, 1) := by decide +kernel
theorem dL_law_358 : decode cL_law 358 = .ok (.invokevirtual 50, 3) := by decide +kernel
theorem dL_law_361 : decode cL_law 361 = .ok (.aload_n 2, 1) := by decide +kernel
theorem dL_law_362 : decode cL_law 362 = .ok (.aload_n 0, 1) := by decide +kernel
theorem dL_law_363 : decode cL_law 363 = .ok (.iload_n 3, 1) := by decide +kernel
theorem dL_law_364 : decode cL_law 364 = .ok (.iconst 1, 1) := by decide +kernel
theorem dL_law_365 : decode cL_law 365 = .ok (.iadd, 1) := by decide +kernel
theorem dL_law_366 : decode cL_law 366 = .ok (.iaload, 1) := by decide +kernel
theorem dL_law_367 : decode cL_law 367 = .ok (.aload_n 0, 1) := by decide +kernel
theorem dL_law_368 : decode cL_law 368 = .ok (.iload_n 3, 1) := by decide +kernel
theorem dL_law_369 : decode cL_law 369 = .ok (.iconst 2, 1) := by decide +kernel
theorem dL_law_370 : decode cL_law 370 = .ok (.iadd, 1) := by decide +kernel
theorem dL_law_371 : decode cL_law 371 = .ok (.iaload, 1) := by decide +kernel
theorem dL_law_372 : decode cL_law 372 = .ok (.ifCond .eq 7, 3) := by decide +kernel
theorem dL_law_375 : decode cL_law 375 = .ok (.iconst 1, 1) := by decide +kernel
theorem dL_law_376 : decode cL_law 376 = .ok (.goto 4, 3) := by decide +kernel
theorem dL_law_379 : decode cL_law 379 = .ok (.iconst 0, 1) := by decide +kernel
theorem dL_law_380 : decode cL_law 380 = .ok (.aload_n 0, 1) := by decide +kernel
theorem dL_law_381 : decode cL_law 381 = .ok (.iload_n 3, 1) := by decide +kernel
theorem dL_law_382 : decode cL_law 382 = .ok (.iconst 3, 1) := by decide +kernel
theorem dL_law_383 : decode cL_law 383 = .ok (.iadd, 1) := by decide +kernel
theorem dL_law_384 : decode cL_law 384 = .ok (.iaload, 1) := by decide +kernel
theorem dL_law_385 : decode cL_law 385 = .ok (.invokevirtual 53, 3) := by decide +kernel
theorem dL_law_388 : decode cL_law 388 = .ok (.if_icmp .eq 179, 3) := by decide +kernel
theorem dL_law_391 : decode cL_law 391 = .ok (.iconst 0, 1) := by decide +kernel
theorem dL_law_392 : decode cL_law 392 = .ok (.ireturn, 1) := by decide +kernel
theorem dL_law_393 : decode cL_law 393 = .ok (.aload_n 1, 1) := by decide +kernel
theorem dL_law_394 : decode cL_law 394 = .ok (.aload_n 0, 1) := by decide +kernel
theorem dL_law_395 : decode cL_law 395 = .ok (.iload_n 3, 1) := by decide +kernel
theorem dL_law_396 : decode cL_law 396 = .ok (.iconst 1, 1) := by decide +kernel
theorem dL_law_397 : decode cL_law 397 = .ok (.iadd, 1) := by decide +kernel
theorem dL_law_398 : decode cL_law 398 = .ok (.iaload, 1) := by decide +kernel
theorem dL_law_399 : decode cL_law 399 = .ok (.aload_n 0, 1) := by decide +kernel
theorem dL_law_400 : decode cL_law 400 = .ok (.iload_n 3, 1) := by decide +kernel
theorem dL_law_401 : decode cL_law 401 = .ok (.iconst 2, 1) := by decide +kernel
theorem dL_law_402 : decode cL_law 402 = .ok (.iadd, 1) := by decide +kernel
theorem dL_law_403 : decode cL_law 403 = .ok (.iaload, 1) := by decide +kernel
theorem dL_law_404 : decode cL_law 404 = .ok (.ifCond .eq 7, 3) := by decide +kernel
theorem dL_law_407 : decode cL_law 407 = .ok (.iconst 1, 1) := by decide +kernel
theorem dL_law_408 : decode cL_law 408 = .ok (.goto 4, 3) := by decide +kernel
theorem dL_law_411 : decode cL_law 411 = .ok (.iconst 0, 1) := by decide +kernel
theorem dL_law_412 : decode cL_law 412 = .ok (.aload_n 0, 1) := by decide +kernel
theorem dL_law_413 : decode cL_law 413 = .ok (.iload_n 3, 1) := by decide +kernel
theorem dL_law_414 : decode cL_law 414 = .ok (.iconst 3, 1) := by decide +kernel
theorem dL_law_415 : decode cL_law 415 = .ok (.iadd, 1) := by decide +kernel
theorem dL_law_416 : decode cL_law 416 = .ok (.iaload, 1) := by decide +kernel
theorem dL_law_417 : decode cL_law 417 = .ok (.invokevirtual 54, 3) := by decide +kernel
theorem dL_law_420 : decode cL_law 420 = .ok (.aload_n 2, 1) := by decide +kernel
theorem dL_law_421 : decode cL_law 421 = .ok (.aload_n 0, 1) := by decide +kernel
theorem dL_law_422 : decode cL_law 422 = .ok (.iload_n 3, 1) := by decide +kernel
theorem dL_law_423 : decode cL_law 423 = .ok (.iconst 1, 1) := by decide +kernel
theorem dL_law_424 : decode cL_law 424 = .ok (.iadd, 1) := by decide +kernel
theorem dL_law_425 : decode cL_law 425 = .ok (.iaload, 1) := by decide +kernel
theorem dL_law_426 : decode cL_law 426 = .ok (.aload_n 0, 1) := by decide +kernel
theorem dL_law_427 : decode cL_law 427 = .ok (.iload_n 3, 1) := by decide +kernel
theorem dL_law_428 : decode cL_law 428 = .ok (.iconst 2, 1) := by decide +kernel
theorem dL_law_429 : decode cL_law 429 = .ok (.iadd, 1) := by decide +kernel
theorem dL_law_430 : decode cL_law 430 = .ok (.iaload, 1) := by decide +kernel
theorem dL_law_431 : decode cL_law 431 = .ok (.ifCond .eq 7, 3) := by decide +kernel
theorem dL_law_434 : decode cL_law 434 = .ok (.iconst 1, 1) := by decide +kernel
theorem dL_law_435 : decode cL_law 435 = .ok (.goto 4, 3) := by decide +kernel
theorem dL_law_438 : decode cL_law 438 = .ok (.iconst 0, 1) := by decide +kernel
theorem dL_law_439 : decode cL_law 439 = .ok (.aload_n 0, 1) := by decide +kernel
theorem dL_law_440 : decode cL_law 440 = .ok (.iload_n 3, 1) := by decide +kernel
theorem dL_law_441 : decode cL_law 441 = .ok (.iconst 3, 1) := by decide +kernel
theorem dL_law_442 : decode cL_law 442 = .ok (.iadd, 1) := by decide +kernel
theorem dL_law_443 : decode cL_law 443 = .ok (.iaload, 1) := by decide +kernel
theorem dL_law_444 : decode cL_law 444 = .ok (.invokevirtual 57, 3) := by decide +kernel
theorem dL_law_447 : decode cL_law 447 = .ok (.if_icmp .eq 120, 3) := by decide +kernel
theorem dL_law_450 : decode cL_law 450 = .ok (.iconst 0, 1) := by decide +kernel
theorem dL_law_451 : decode cL_law 451 = .ok (.ireturn, 1) := by decide +kernel
theorem dL_law_452 : decode cL_law 452 = .ok (.aload_n 1, 1) := by decide +kernel
theorem dL_law_453 : decode cL_law 453 = .ok (.aload_n 0, 1) := by decide +kernel
theorem dL_law_454 : decode cL_law 454 = .ok (.iload_n 3, 1) := by decide +kernel
theorem dL_law_455 : decode cL_law 455 = .ok (.iconst 1, 1) := by decide +kernel
theorem dL_law_456 : decode cL_law 456 = .ok (.iadd, 1) := by decide +kernel
theorem dL_law_457 : decode cL_law 457 = .ok (.iaload, 1) := by decide +kernel
theorem dL_law_458 : decode cL_law 458 = .ok (.aload_n 0, 1) := by decide +kernel
theorem dL_law_459 : decode cL_law 459 = .ok (.iload_n 3, 1) := by decide +kernel
theorem dL_law_460 : decode cL_law 460 = .ok (.iconst 2, 1) := by decide +kernel
theorem dL_law_461 : decode cL_law 461 = .ok (.iadd, 1) := by decide +kernel
theorem dL_law_462 : decode cL_law 462 = .ok (.iaload, 1) := by decide +kernel
theorem dL_law_463 : decode cL_law 463 = .ok (.ifCond .eq 7, 3) := by decide +kernel
theorem dL_law_466 : decode cL_law 466 = .ok (.iconst 1, 1) := by decide +kernel
theorem dL_law_467 : decode cL_law 467 = .ok (.goto 4, 3) := by decide +kernel
theorem dL_law_470 : decode cL_law 470 = .ok (.iconst 0, 1) := by decide +kernel
theorem dL_law_471 : decode cL_law 471 = .ok (.aload_n 0, 1) := by decide +kernel
theorem dL_law_472 : decode cL_law 472 = .ok (.iload_n 3, 1) := by decide +kernel
theorem dL_law_473 : decode cL_law 473 = .ok (.iconst 3, 1) := by decide +kernel
theorem dL_law_474 : decode cL_law 474 = .ok (.iadd, 1) := by decide +kernel
theorem dL_law_475 : decode cL_law 475 = .ok (.iaload, 1) := by decide +kernel
theorem dL_law_476 : decode cL_law 476 = .ok (.aload_n 0, 1) := by decide +kernel
theorem dL_law_477 : decode cL_law 477 = .ok (.iload_n 3, 1) := by decide +kernel
theorem dL_law_478 : decode cL_law 478 = .ok (.iconst 4, 1) := by decide +kernel
theorem dL_law_479 : decode cL_law 479 = .ok (.iadd, 1) := by decide +kernel
theorem dL_law_480 : decode cL_law 480 = .ok (.iaload, 1) := by decide +kernel
theorem dL_law_481 : decode cL_law 481 = .ok (.invokevirtual 58, 3) := by decide +kernel
theorem dL_law_484 : decode cL_law 484 = .ok (.aload_n 2, 1) := by decide +kernel
theorem dL_law_485 : decode cL_law 485 = .ok (.aload_n 0, 1) := by decide +kernel
theorem dL_law_486 : decode cL_law 486 = .ok (.iload_n 3, 1) := by decide +kernel
theorem dL_law_487 : decode cL_law 487 = .ok (.iconst 1, 1) := by decide +kernel
theorem dL_law_488 : decode cL_law 488 = .ok (.iadd, 1) := by decide +kernel
theorem dL_law_489 : decode cL_law 489 = .ok (.iaload, 1) := by decide +kernel
theorem dL_law_490 : decode cL_law 490 = .ok (.aload_n 0, 1) := by decide +kernel
theorem dL_law_491 : decode cL_law 491 = .ok (.iload_n 3, 1) := by decide +kernel
theorem dL_law_492 : decode cL_law 492 = .ok (.iconst 2, 1) := by decide +kernel
theorem dL_law_493 : decode cL_law 493 = .ok (.iadd, 1) := by decide +kernel
theorem dL_law_494 : decode cL_law 494 = .ok (.iaload, 1) := by decide +kernel
theorem dL_law_495 : decode cL_law 495 = .ok (.ifCond .eq 7, 3) := by decide +kernel
theorem dL_law_498 : decode cL_law 498 = .ok (.iconst 1, 1) := by decide +kernel
theorem dL_law_499 : decode cL_law 499 = .ok (.goto 4, 3) := by decide +kernel
theorem dL_law_502 : decode cL_law 502 = .ok (.iconst 0, 1) := by decide +kernel
theorem dL_law_503 : decode cL_law 503 = .ok (.aload_n 0, 1) := by decide +kernel
theorem dL_law_504 : decode cL_law 504 = .ok (.iload_n 3, 1) := by decide +kernel
theorem dL_law_505 : decode cL_law 505 = .ok (.iconst 3, 1) := by decide +kernel
theorem dL_law_506 : decode cL_law 506 = .ok (.iadd, 1) := by decide +kernel
theorem dL_law_507 : decode cL_law 507 = .ok (.iaload, 1) := by decide +kernel
theorem dL_law_508 : decode cL_law 508 = .ok (.aload_n 0, 1) := by decide +kernel
theorem dL_law_509 : decode cL_law 509 = .ok (.iload_n 3, 1) := by decide +kernel
theorem dL_law_510 : decode cL_law 510 = .ok (.iconst 4, 1) := by decide +kernel
theorem dL_law_511 : decode cL_law 511 = .ok (.iadd, 1) := by decide +kernel
theorem dL_law_512 : decode cL_law 512 = .ok (.iaload, 1) := by decide +kernel
theorem dL_law_513 : decode cL_law 513 = .ok (.invokevirtual 62, 3) := by decide +kernel
theorem dL_law_516 : decode cL_law 516 = .ok (.if_icmp .eq 51, 3) := by decide +kernel
theorem dL_law_519 : decode cL_law 519 = .ok (.iconst 0, 1) := by decide +kernel
theorem dL_law_520 : decode cL_law 520 = .ok (.ireturn, 1) := by decide +kernel
theorem dL_law_521 : decode cL_law 521 = .ok (.aload_n 1, 1) := by decide +kernel
theorem dL_law_522 : decode cL_law 522 = .ok (.aload_n 0, 1) := by decide +kernel
theorem dL_law_523 : decode cL_law 523 = .ok (.iload_n 3, 1) := by decide +kernel
theorem dL_law_524 : decode cL_law 524 = .ok (.iconst 1, 1) := by decide +kernel
theorem dL_law_525 : decode cL_law 525 = .ok (.iadd, 1) := by decide +kernel
theorem dL_law_526 : decode cL_law 526 = .ok (.iaload, 1) := by decide +kernel
theorem dL_law_527 : decode cL_law 527 = .ok (.invokevirtual 63, 3) := by decide +kernel
theorem dL_law_530 : decode cL_law 530 = .ok (.aload_n 2, 1) := by decide +kernel
theorem dL_law_531 : decode cL_law 531 = .ok (.aload_n 0, 1) := by decide +kernel
theorem dL_law_532 : decode cL_law 532 = .ok (.iload_n 3, 1) := by decide +kernel
theorem dL_law_533 : decode cL_law 533 = .ok (.iconst 1, 1) := by decide +kernel
theorem dL_law_534 : decode cL_law 534 = .ok (.iadd, 1) := by decide +kernel
theorem dL_law_535 : decode cL_law 535 = .ok (.iaload, 1) := by decide +kernel
theorem dL_law_536 : decode cL_law 536 = .ok (.invokevirtual 67, 3) := by decide +kernel
theorem dL_law_539 : decode cL_law 539 = .ok (.if_icmp .eq 28, 3) := by decide +kernel
theorem dL_law_542 : decode cL_law 542 = .ok (.iconst 0, 1) := by decide +kernel
theorem dL_law_543 : decode cL_law 543 = .ok (.ireturn, 1) := by decide +kernel
theorem dL_law_544 : decode cL_law 544 = .ok (.aload_n 1, 1) := by decide +kernel
theorem dL_law_545 : decode cL_law 545 = .ok (.aload_n 0, 1) := by decide +kernel
theorem dL_law_546 : decode cL_law 546 = .ok (.iload_n 3, 1) := by decide +kernel
theorem dL_law_547 : decode cL_law 547 = .ok (.iconst 1, 1) := by decide +kernel
theorem dL_law_548 : decode cL_law 548 = .ok (.iadd, 1) := by decide +kernel
theorem dL_law_549 : decode cL_law 549 = .ok (.iaload, 1) := by decide +kernel
theorem dL_law_550 : decode cL_law 550 = .ok (.invokevirtual 68, 3) := by decide +kernel
theorem dL_law_553 : decode cL_law 553 = .ok (.aload_n 2, 1) := by decide +kernel
theorem dL_law_554 : decode cL_law 554 = .ok (.aload_n 0, 1) := by decide +kernel
theorem dL_law_555 : decode cL_law 555 = .ok (.iload_n 3, 1) := by decide +kernel
theorem dL_law_556 : decode cL_law 556 = .ok (.iconst 1, 1) := by decide +kernel
theorem dL_law_557 : decode cL_law 557 = .ok (.iadd, 1) := by decide +kernel
theorem dL_law_558 : decode cL_law 558 = .ok (.iaload, 1) := by decide +kernel
theorem dL_law_559 : decode cL_law 559 = .ok (.invokevirtual 71, 3) := by decide +kernel
theorem dL_law_562 : decode cL_law 562 = .ok (.if_icmp .eq 5, 3) := by decide +kernel
theorem dL_law_565 : decode cL_law 565 = .ok (.iconst 0, 1) := by decide +kernel
theorem dL_law_566 : decode cL_law 566 = .ok (.ireturn, 1) := by decide +kernel
theorem dL_law_567 : decode cL_law 567 = .ok (.iinc 3 5, 3) := by decide +kernel
theorem dL_law_570 : decode cL_law 570 = .ok (.goto (-542), 3) := by decide +kernel
theorem dL_law_573 : decode cL_law 573 = .ok (.iconst 1, 1) := by decide +kernel
theorem dL_law_574 : decode cL_law 574 = .ok (.ireturn, 1) := by decide +kernel
abbrev vwCl : List vw_C := [(RX0, TX0, 8), (RX1, TX1, 7)]
end
section
/-! Pure rows: least sums over a graph. R routers; tg: the routers that are the aim, or on it; E r p q: port p of router r leads to router q; cs r p: that port's cost; K: what stands for 'none'. -/
def dm_gr (R : Nat) (E : Nat → Nat → Nat → Prop) (cs : Nat → Nat → Nat) : Prop := ∀ r p q, E r p q → q < R ∧ q ≠ r ∧ 1 ≤ cs r p ∧ cs r p ≤ 9
/-- D is the row of distances, K standing for none -/
def dm_ok (R : Nat) (tg : Nat → Prop) (E : Nat → Nat → Nat → Prop) (cs : Nat → Nat → Nat) (K : Nat) (D : Nat → Nat) : Prop :=
  (∀ r, r < R → D r ≤ K) ∧ (∀ r, r < R → tg r → D r = 0) ∧ (∀ r p q, r < R → E r p q → D r ≤ cs r p + D q) ∧ (∀ r, r < R → ¬ tg r → D r < K → ∃ p q, E r p q ∧ D r = cs r p + D q)
def dm_sum (d : Nat → Nat) : Nat → Nat
  | 0 => 0
  | n + 1 => dm_sum d n + d n
theorem dm_sum_le {d e : Nat → Nat} : ∀ {n : Nat}, (∀ j, j < n → e j ≤ d j) → dm_sum e n ≤ dm_sum d n := by
  intro n
  induction n with
  | zero => intro _; exact Nat.le_refl _
  | succ n ih =>
    intro h
    have h1 := ih (fun j hj => h j (by omega))
    have h2 := h n (by omega)
    show dm_sum e n + e n ≤ dm_sum d n + d n
    omega
theorem dm_sum_lt {d e : Nat → Nat} {r : Nat} : ∀ {n : Nat}, r < n → (∀ j, j < n → e j ≤ d j) → e r < d r → dm_sum e n < dm_sum d n := by
  intro n
  induction n with
  | zero => intro h; omega
  | succ n ih =>
    intro hr h hl
    show dm_sum e n + e n < dm_sum d n + d n
    by_cases hrn : r = n
    · subst hrn
      have h1 := dm_sum_le (d := d) (e := e) (n := r) (fun j hj => h j (by omega))
      omega
    · have h1 := ih (by omega) (fun j hj => h j (by omega)) hl
      have h2 := h n (by omega)
      omega
def dm_cnt (P : Nat → Bool) : Nat → Nat
  | 0 => 0
  | n + 1 => dm_cnt P n + (if P n = true then 1 else 0)
theorem dm_cnt_le (P : Nat → Bool) (n : Nat) : dm_cnt P n ≤ n := by
  induction n with
  | zero => exact Nat.le_refl _
  | succ n ih =>
    show dm_cnt P n + (if P n = true then 1 else 0) ≤ n + 1
    split <;> omega
theorem dm_cnt_mono {P Q : Nat → Bool} : ∀ {n : Nat}, (∀ j, j < n → P j = true → Q j = true) → dm_cnt P n ≤ dm_cnt Q n := by
  intro n
  induction n with
  | zero => intro _; exact Nat.le_refl _
  | succ n ih =>
    intro h
    have h1 := ih (fun j hj => h j (by omega))
    have h2 := h n (by omega)
    show dm_cnt P n + (if P n = true then 1 else 0) ≤ dm_cnt Q n + (if Q n = true then 1 else 0)
    by_cases hp : P n = true
    · rw [if_pos hp, if_pos (h2 hp)]
      omega
    · rw [if_neg hp]
      split <;> omega
theorem dm_cnt_lt {P Q : Nat → Bool} {r : Nat} : ∀ {n : Nat}, r < n → (∀ j, j < n → P j = true → Q j = true) → ¬ P r = true → Q r = true → dm_cnt P n < dm_cnt Q n := by
  intro n
  induction n with
  | zero => intro h; omega
  | succ n ih =>
    intro hr h hp hq
    show dm_cnt P n + (if P n = true then 1 else 0) < dm_cnt Q n + (if Q n = true then 1 else 0)
    by_cases hrn : r = n
    · subst hrn
      have h1 := dm_cnt_mono (P := P) (Q := Q) (n := r) (fun j hj => h j (by omega))
      rw [if_neg hp, if_pos hq]
      omega
    · have h1 := ih (by omega) (fun j hj => h j (by omega)) hp hq
      have h2 := h n (by omega)
      by_cases hpn : P n = true
      · rw [if_pos hpn, if_pos (h2 hpn)]
        omega
      · rw [if_neg hpn]
        split <;> omega
theorem dm_cnt_0 {P : Nat → Bool} : ∀ {n : Nat}, dm_cnt P n = 0 → ∀ j, j < n → ¬ P j = true := by
  intro n
  induction n with
  | zero => intro _ j hj; omega
  | succ n ih =>
    intro h j hj hp
    have h' : dm_cnt P n + (if P n = true then 1 else 0) = 0 := h
    by_cases hjn : j = n
    · subst hjn
      rw [if_pos hp] at h'
      omega
    · exact ih (by omega) j (by omega) hp
/-- how many routers are nearer than v -/
def dm_rk (D : Nat → Nat) (R v : Nat) : Nat := dm_cnt (fun x => decide (D x < v)) R
theorem dm_rk_le (D : Nat → Nat) (R v : Nat) : dm_rk D R v ≤ R := dm_cnt_le _ _
theorem dm_rk_lt {D : Nat → Nat} {R v q : Nat} (hq : q < R) (h : D q < v) : dm_rk D R (D q) < dm_rk D R v := by
  refine dm_cnt_lt hq (fun j _ hj => ?_) ?_ ?_
  · have hj' := of_decide_eq_true hj
    exact decide_eq_true (by omega)
  · intro hj
    have hj' := of_decide_eq_true hj
    omega
  · exact decide_eq_true h
theorem dm_rk_R {D : Nat → Nat} {R r : Nat} (hr : r < R) : dm_rk D R (D r) < R := by
  have h : dm_rk D R (D r) < dm_cnt (fun _ => true) R := dm_cnt_lt hr (fun _ _ _ => rfl) (fun hj => by have hj' := of_decide_eq_true hj; omega) rfl
  exact Nat.lt_of_lt_of_le h (dm_cnt_le _ _)
section
variable {R : Nat} {tg : Nat → Prop} {E : Nat → Nat → Nat → Prop} {cs : Nat → Nat → Nat} {K : Nat} {D : Nat → Nat}
theorem dm_ex_aux (hg : dm_gr R E cs) : ∀ (n : Nat) (d : Nat → Nat), dm_sum d R < n → (∀ r, r < R → d r ≤ K) → (∀ r, r < R → tg r → d r = 0) → (∀ r, r < R → ¬ tg r → d r < K → ∃ p q, E r p q ∧ cs r p + d q ≤ d r) → ∃ D, dm_ok R tg E cs K D := by
  intro n
  induction n with
  | zero => intro d h; omega
  | succ n ih =>
    intro d hn h1 h2 h3
    by_cases hf : ∀ r p q, r < R → E r p q → d r ≤ cs r p + d q
    · exact ⟨d, h1, h2, hf, fun r hr ht hk => by
        obtain ⟨p, q, he, hle⟩ := h3 r hr ht hk
        exact ⟨p, q, he, Nat.le_antisymm (hf r p q hr he) hle⟩⟩
    · have hf' : ∃ r p q, r < R ∧ E r p q ∧ cs r p + d q < d r := by
        apply Classical.byContradiction
        intro hc
        refine hf (fun r p q hr he => ?_)
        apply Classical.byContradiction
        intro hv
        exact hc ⟨r, p, q, hr, he, by omega⟩
      obtain ⟨r, p, q, hr, he, hv⟩ := hf'
      obtain ⟨hq, hne, c1, c9⟩ := hg r p q he
      obtain ⟨d', hd'⟩ : ∃ d' : Nat → Nat, d' = fun j => if j = r then cs r p + d q else d j := ⟨_, rfl⟩
      have er : d' r = cs r p + d q := by rw [hd']; exact if_pos rfl
      have eo : ∀ j, j ≠ r → d' j = d j := fun j hj => by rw [hd']; exact if_neg hj
      have hle : ∀ j, d' j ≤ d j := fun j => by
        by_cases hj : j = r
        · subst hj
          omega
        · exact Nat.le_of_eq (eo j hj)
      refine ih d' ?_ ?_ ?_ ?_
      · have := dm_sum_lt (n := R) (d := d) (e := d') hr (fun j _ => hle j) (by omega)
        omega
      · intro j hj
        exact Nat.le_trans (hle j) (h1 j hj)
      · intro j hj ht
        have := h2 j hj ht
        have := hle j
        omega
      · intro j hj ht hk
        by_cases hjr : j = r
        · subst hjr
          exact ⟨p, q, he, by rw [er, eo q hne]; exact Nat.le_refl _⟩
        · rw [eo j hjr] at hk ⊢
          obtain ⟨p', q', he', hle'⟩ := h3 j hj ht hk
          exact ⟨p', q', he', Nat.le_trans (Nat.add_le_add_left (hle q') _) hle'⟩
/-- there are distances -/
theorem dm_ex (hg : dm_gr R E cs) (K : Nat) : ∃ D, dm_ok R tg E cs K D := by
  obtain ⟨d, h1, h2⟩ : ∃ d : Nat → Nat, (∀ r, tg r → d r = 0) ∧ (∀ r, ¬ tg r → d r = K) := by
    refine ⟨fun r => @ite _ (tg r) (Classical.propDecidable _) 0 K, fun r h => if_pos h, fun r h => if_neg h⟩
  refine dm_ex_aux hg (dm_sum d R + 1) d (Nat.lt_succ_self _) (fun r _ => ?_) (fun r _ h => h1 r h) (fun r _ h hk => ?_)
  · by_cases h : tg r
    · rw [h1 r h]
      exact Nat.zero_le _
    · exact Nat.le_of_eq (h2 r h)
  · exact absurd hk (by rw [h2 r h]; exact Nat.lt_irrefl _)
theorem dm_bound (hg : dm_gr R E cs) (hD : dm_ok R tg E cs K D) : ∀ n r, r < R → D r = n → n < K → n ≤ 9 * dm_rk D R n := by
  intro n
  induction n using Nat.strongRecOn with
  | ind n ih =>
    intro r hr hn hk
    by_cases ht : tg r
    · have := hD.2.1 r hr ht
      omega
    · obtain ⟨p, q, he, h⟩ := hD.2.2.2 r hr ht (by omega)
      obtain ⟨hq, hne, c1, c9⟩ := hg r p q he
      have h1 := ih (D q) (by omega) q hq rfl (by omega)
      have h2 : dm_rk D R (D q) < dm_rk D R n := dm_rk_lt hq (by omega)
      omega
theorem dm_small (hg : dm_gr R E cs) (hD : dm_ok R tg E cs K D) {r : Nat} (hr : r < R) (hk : D r < K) : D r ≤ 9 * R := by
  have h1 := dm_bound hg hD (D r) r hr rfl hk
  have h2 := dm_rk_le D R (D r)
  omega
/-- a row that is nowhere too small and that no port can lessen is the row of distances -/
theorem dm_fix (hg : dm_gr R E cs) (hD : dm_ok R tg E cs K D) {d : Nat → Nat} (h1 : ∀ r, r < R → D r ≤ d r) (hK : ∀ r, r < R → d r ≤ K) (h2 : ∀ r, r < R → tg r → d r = 0) (h3 : ∀ r p q, r < R → E r p q → d r ≤ cs r p + d q) : ∀ n r, r < R → D r = n → d r = n := by
  intro n
  induction n using Nat.strongRecOn with
  | ind n ih =>
    intro r hr hn
    have hle := hD.1 r hr
    have h1r := h1 r hr
    have hKr := hK r hr
    by_cases hk : D r < K
    · by_cases ht : tg r
      · have := h2 r hr ht
        omega
      · obtain ⟨p, q, he, h⟩ := hD.2.2.2 r hr ht hk
        obtain ⟨hq, hne, c1, c9⟩ := hg r p q he
        have e1 := ih (D q) (by omega) q hq rfl
        have e2 := h3 r p q hr he
        omega
    · omega
/-- one row for every K that is large enough -/
theorem dm_two (hg : dm_gr R E cs) {K' : Nat} {D' : Nat → Nat} (hD : dm_ok R tg E cs K D) (hD' : dm_ok R tg E cs K' D') (hK : 9 * R < K) (hK' : 9 * R < K') : ∀ r, r < R → (D r < K ↔ D' r < K') ∧ (D r < K → D r = D' r) := by
  have go : ∀ {K1 K2 : Nat} {D1 D2 : Nat → Nat}, dm_ok R tg E cs K1 D1 → dm_ok R tg E cs K2 D2 → 9 * R < K1 → 9 * R < K2 → ∀ n r, r < R → D1 r = n → n < K1 → D2 r ≤ n ∧ D2 r < K2 := by
    intro K1 K2 D1 D2 a1 a2 b1 b2 n
    induction n using Nat.strongRecOn with
    | ind n ih =>
      intro r hr hn hk
      have hs := dm_small hg a1 hr (by omega)
      by_cases ht : tg r
      · have := a2.2.1 r hr ht
        omega
      · obtain ⟨p, q, he, h⟩ := a1.2.2.2 r hr ht (by omega)
        obtain ⟨hq, hne, c1, c9⟩ := hg r p q he
        have e1 := ih (D1 q) (by omega) q hq rfl (by omega)
        have e2 := a2.2.2.1 r p q hr he
        omega
  intro r hr
  refine ⟨⟨fun h => (go hD hD' hK hK' _ r hr rfl h).2, fun h => (go hD' hD hK' hK _ r hr rfl h).2⟩, fun h => ?_⟩
  have x1 := go hD hD' hK hK' _ r hr rfl h
  have x2 := go hD' hD hK' hK _ r hr rfl x1.2
  omega
/-- 0 is the distance of the aim's own routers alone -/
theorem dm_zero (hg : dm_gr R E cs) (hD : dm_ok R tg E cs K D) (hK : 0 < K) {r : Nat} (hr : r < R) : D r = 0 ↔ tg r := by
  refine ⟨fun h => ?_, fun h => hD.2.1 r hr h⟩
  apply Classical.byContradiction
  intro ht
  obtain ⟨p, q, he, h'⟩ := hD.2.2.2 r hr ht (by omega)
  obtain ⟨hq, hne, c1, c9⟩ := hg r p q he
  omega
theorem dm_none (hg : dm_gr R E cs) (hD : dm_ok R tg E cs K D) (hn : ∀ r, r < R → ¬ tg r) : ∀ n r, r < R → D r = n → ¬ n < K := by
  intro n
  induction n using Nat.strongRecOn with
  | ind n ih =>
    intro r hr hn' hk
    obtain ⟨p, q, he, h'⟩ := hD.2.2.2 r hr (hn r hr) (by omega)
    obtain ⟨hq, hne, c1, c9⟩ := hg r p q he
    exact ih (D q) (by omega) q hq rfl (by omega)
/-- a whole round over all ports settles one router more -/
theorem dm_round (hg : dm_gr R E cs) (hD : dm_ok R tg E cs K D) {d d' : Nat → Nat} {m : Nat} (h1 : ∀ r, r < R → D r ≤ d' r) (h1' : ∀ r, r < R → d' r ≤ d r) (hK : ∀ r, r < R → d r ≤ K) (h2 : ∀ r, r < R → tg r → d r = 0) (h3 : ∀ r p q, r < R → E r p q → d' r ≤ cs r p + d q) (hc : dm_cnt (fun x => decide (D x < d x)) R ≤ m + 1) : dm_cnt (fun x => decide (D x < d' x)) R ≤ m := by
  by_cases hu : ∃ n r, r < R ∧ D r = n ∧ D r < d r
  · obtain ⟨n, ⟨r, hr, hn, hl⟩, hmin⟩ := pk_least (fun n => ∃ r, r < R ∧ D r = n ∧ D r < d r) hu
    have hset : ∀ q, q < R → D q < D r → d q = D q := fun q hq hlt => by
      have a := hmin (D q) (by omega)
      have b := h1 q hq
      have b' := h1' q hq
      apply Classical.byContradiction
      intro hne
      exact a ⟨q, hq, rfl, by omega⟩
    have hr' : ¬ D r < d' r := by
      have hKr := hK r hr
      by_cases ht : tg r
      · have := h2 r hr ht
        omega
      · obtain ⟨p, q, he, h⟩ := hD.2.2.2 r hr ht (by omega)
        obtain ⟨hq, hne, c1, c9⟩ := hg r p q he
        have e1 := hset q hq (by omega)
        have e2 := h3 r p q hr he
        omega
    have : dm_cnt (fun x => decide (D x < d' x)) R < dm_cnt (fun x => decide (D x < d x)) R := by
      refine dm_cnt_lt hr (fun j hj hp => ?_) (fun hp => hr' (of_decide_eq_true hp)) (decide_eq_true hl)
      have hp' := of_decide_eq_true hp
      have := h1' j hj
      exact decide_eq_true (by omega)
    omega
  · have h0 : dm_cnt (fun x => decide (D x < d' x)) R ≤ dm_cnt (fun _ => false) R := by
      refine dm_cnt_mono (fun j hj hp => ?_)
      have hp' := of_decide_eq_true hp
      have := h1' j hj
      exact absurd ⟨D j, j, hj, rfl, by omega⟩ hu
    have hz : ∀ n, dm_cnt (fun _ => false) n = 0 := by
      intro n
      induction n with
      | zero => rfl
      | succ n ih => show dm_cnt (fun _ => false) n + (if false = true then 1 else 0) = 0; rw [ih]; rfl
    rw [hz] at h0
    omega
/-- the way from r: the first of the least pairs -/
def dm_way (E : Nat → Nat → Nat → Prop) (cs : Nat → Nat → Nat) (K : Nat) (D : Nat → Nat) (r p q : Nat) : Prop :=
  E r p q ∧ D q < K ∧ ∀ p' q', E r p' q' → D q' < K → cs r p + D q < cs r p' + D q' ∨ (cs r p + D q = cs r p' + D q' ∧ (p < p' ∨ (p = p' ∧ q ≤ q')))
theorem dm_way_one {r p q p' q' : Nat} (h : dm_way E cs K D r p q) (h' : dm_way E cs K D r p' q') : p = p' ∧ q = q' := by
  have a := h.2.2 p' q' h'.1 h'.2.1
  have b := h'.2.2 p q h.1 h.2.1
  omega
/-- the way leads nearer -/
theorem dm_way_less (hg : dm_gr R E cs) (hD : dm_ok R tg E cs K D) {r p q : Nat} (hr : r < R) (ht : ¬ tg r) (hk : D r < K) (h : dm_way E cs K D r p q) : q < R ∧ D q < D r := by
  obtain ⟨p', q', he, e⟩ := hD.2.2.2 r hr ht hk
  obtain ⟨hq', hne', c1', c9'⟩ := hg r p' q' he
  obtain ⟨hq, hne, c1, c9⟩ := hg r p q h.1
  have a := h.2.2 p' q' he (by omega)
  exact ⟨hq, by omega⟩
end
end
section
/-! Rows for calls and ends over worlds: the same for every method here. -/
def xPre (D : va_G) (tys : List (ClassId × FieldType)) (ws : va_W) (sz : Nat) : State → Prop := fun U => U.heap.size = sz ∧ va_P D vwCl ws U.heap ∧ va_K D vwCl tys U ∧ va_D (fun _ => True) ws
def xB {S : Type} (D : va_G) (tys : List (ClassId × FieldType)) (A : Nat → Prop) (Wd : S → va_W) (u : S) (t : State) : Prop := va_P D vwCl (Wd u) t.heap ∧ va_K D vwCl tys t ∧ va_D A (Wd u)
/-- a contract with an int answer: arguments av, cells ws before, cells 'Wd u' behind, 'post answer u' -/
def xMi {S : Type} (l : Launch) (y : MethodName) (wsy : List Cond) (rm : Room) (D : va_G) (tys : List (ClassId × FieldType)) (av : List Value) (ws : va_W) (Wd : S → va_W) (post : Int32 → S → Prop) : Prop := ∀ sz : Nat, Met l y wsy rm (va_Pc av (xPre D tys ws sz)) (va_Qi post (xB D tys (va_A ws sz) Wd) (va_A ws sz)) 0 0 (va_A ws sz)
/-- a contract without an answer -/
def xMv {S : Type} (l : Launch) (y : MethodName) (wsy : List Cond) (rm : Room) (D : va_G) (tys : List (ClassId × FieldType)) (av : List Value) (ws : va_W) (Wd : S → va_W) (post : S → Prop) : Prop := ∀ sz : Nat, Met l y wsy rm (va_Pc av (xPre D tys ws sz)) (va_Qv post (xB D tys (va_A ws sz) Wd) (va_A ws sz)) 0 0 (va_A ws sz)
theorem xPre_blind {av : List Value} {D : va_G} {tys : List (ClassId × FieldType)} {ws : va_W} {sz : Nat} : FrameBlind (va_Pc av (xPre D tys ws sz)) := fun a U g mk q => by
  obtain ⟨q0, q1, qP, qK, qD⟩ := q
  exact ⟨q0, q1, qP, va_K.moved (u := U) (U := U.calling g mk a) (Vm.Alike.refl U.vm) qK, qD⟩
theorem xPs {D : va_G} {ws wc : va_W} {H : Heap} (hP : va_P D vwCl ws H) (isC : List Nat) (hC : isC.map (fun i => ws[i]?) = wc.map some) : va_P D vwCl wc H := by
  intro k q hk
  have h1 : (isC.map (fun i => ws[i]?))[k]? = some (some q) := by rw [hC, List.getElem?_map, hk]; rfl
  rw [List.getElem?_map] at h1
  cases hi : isC[k]? with
  | none => rw [hi] at h1; cases h1
  | some i => rw [hi] at h1; exact hP i q (Option.some.inj h1)
section
variable {p : Program} {l : Launch} {e : Env} {R : Room} {s : State} {m : MethodId} {args : Array Value} {below : List Frame} {meth : Method} {c : Code} {H : Heap} {locs : List Loc} {cells slots : Nat} {Q : State → Prop}
variable {pc : Nat} {ls : Array Slot} {rest st0 : List Value} {a : Array Value} {A : Nat → Prop} {H0 : Heap} {D : va_G} {tys tysc : List (ClassId × FieldType)} {ws wc wr : va_W}
variable {y : MethodName} {bytes cc : ByteArray} {maxL nL index : Nat} {ret : Option FieldType} {wsy ws' : List Cond} {rm : Room} {Ts : List Cond} {own C : String} {b : Addr} {As : List Value} {S : Type}
theorem xt_eq {x z : Int32} (h : x = z) (k : W p l e R s m args below meth c H locs cells slots Q (F0 m pc ls (.int z :: rest))) : W p l e R s m args below meth c H locs cells slots Q (F0 m pc ls (.int x :: rest)) := h ▸ k
theorem xc_i {post : Int32 → S → Prop} {Wd : S → va_W} (hr : va_Run p l e R s m args below meth c H locs cells slots 0 0 (F0 m pc ls st0) rest (va_Qi post (xB D tysc (va_A wc H.size) Wd) (va_A wc H.size) a) (va_A wc H.size)) (hP : va_P D vwCl ws H) (hD : va_D A ws) (hS : va_S A H0 H locs) (hA : ∀ q, H0.size ≤ q → A q) (isC isR : List Nat) (hC : isC.map (fun i => ws[i]?) = wc.map some) (hR : isR.map (fun i => ws[i]?) = wr.map some) (hn : va_nd isR = true) (hdis : ∀ i ∈ isR, i ∉ isC)
    (kk : ∀ (r : Int32) (u : S) (H1 : Heap) (locs1 : List Loc), post r u → va_P D vwCl (wr ++ Wd u) H1 → va_D A (wr ++ Wd u) → va_S A H0 H1 locs1 → W p l e R s m args below meth c H1 locs1 cells slots Q (F0 m (pc + 3) ls (.int r :: rest))) : W p l e R s m args below meth c H locs cells slots Q (F0 m pc ls st0) := by
  have hF := va_free (wc := wc) hD hS hA isC hC
  refine va_calli hr hS (fun q _ h => hF q h) hF (fun r u t H1 locs1 ht hvm hw hB hz hk hS1 => ?_)
  obtain ⟨hP1, hK1, hD1⟩ := hB
  rw [ht] at hP1
  obtain ⟨hP2, hD2⟩ := va_join (wr := wr) (w1 := Wd u) hP hD isC isR hC hR hn hdis hk hF hP1 hD1
  exact kk r u H1 locs1 hw hP2 hD2 hS1
theorem xc_v {post : S → Prop} {Wd : S → va_W} (hr : va_Run p l e R s m args below meth c H locs cells slots 0 0 (F0 m pc ls st0) rest (va_Qv post (xB D tysc (va_A wc H.size) Wd) (va_A wc H.size) a) (va_A wc H.size)) (hP : va_P D vwCl ws H) (hD : va_D A ws) (hS : va_S A H0 H locs) (hA : ∀ q, H0.size ≤ q → A q) (isC isR : List Nat) (hC : isC.map (fun i => ws[i]?) = wc.map some) (hR : isR.map (fun i => ws[i]?) = wr.map some) (hn : va_nd isR = true) (hdis : ∀ i ∈ isR, i ∉ isC)
    (kk : ∀ (u : S) (H1 : Heap) (locs1 : List Loc), post u → va_P D vwCl (wr ++ Wd u) H1 → va_D A (wr ++ Wd u) → va_S A H0 H1 locs1 → W p l e R s m args below meth c H1 locs1 cells slots Q (F0 m (pc + 3) ls rest)) : W p l e R s m args below meth c H locs cells slots Q (F0 m pc ls st0) := by
  have hF := va_free (wc := wc) hD hS hA isC hC
  refine va_callv hr hS (fun q _ h => hF q h) hF (fun u t H1 locs1 ht hvm hw hB hz hk hS1 => ?_)
  obtain ⟨hP1, hK1, hD1⟩ := hB
  rw [ht] at hP1
  obtain ⟨hP2, hD2⟩ := va_join (wr := wr) (w1 := Wd u) hP hD isC isR hC hR hn hdis hk hF hP1 hD1
  exact kk u H1 locs1 hw hP2 hD2 hS1
/-- a call by invokevirtual of a method with an int answer -/
theorem xs_Vi {nA : Nat} {post : Int32 → S → Prop} {Wd : S → va_W} {q0 ci : Nat} {fs : List Value} {qc : vw_C} (S0 : CallFix p m c cc nL s args Ts own) (hM : xMi l y wsy rm D tysc (.ref b :: As) wc Wd post) (hG : GoodIn Ts (wsV own index C y wsy)) (hw : wsy = Cond.code y bytes maxL ret :: ws') (hrm : rm.cells = 0 ∧ rm.slots = 0) (hd : y.cls = C ∧ y.cls ≠ "java/lang/invoke/MethodHandle" ∧ y.cls ≠ "java/lang/invoke/VarHandle" ∧ (parseMethodDescriptor y.desc).map (fun d => d.parameters.length) = some nA) (hnA : As.length = nA) (hRm : rm.frames + 1 ≤ R.frames ∧ 8 + (maxL + 11) + rm.locals ≤ R.locals) (hRc : cells ≤ R.cells ∧ slots ≤ R.slots)
    (hK : va_K D vwCl tysc s) (hP : va_P D vwCl ws H) (hD : va_D A ws) (hS : va_S A H0 H locs) (hA : ∀ q, H0.size ≤ q → A q) (isC isR : List Nat) (hC : isC.map (fun i => ws[i]?) = wc.map some) (hR : isR.map (fun i => ws[i]?) = wr.map some) (hnC : va_nd isC = true) (hn : va_nd isR = true) (hdis : ∀ i ∈ isR, i ∉ isC)
    (hcl : vwCl[ci]? = some qc) (hqc : qc.1 = C) (he : wc[q0]? = some (b, .inr (ci, fs))) (hsz : ls.size = nL) (hst : st0 = As.reverse ++ .ref b :: rest) (hsum : (rest.map fun v => v.category).sum ≤ 8) (hdg : decode cc pc = .ok (.invokevirtual index, 3))
    (kk : ∀ (r : Int32) (u : S) (H1 : Heap) (locs1 : List Loc), post r u → va_P D vwCl (wr ++ Wd u) H1 → va_D A (wr ++ Wd u) → va_S A H0 H1 locs1 → W p l e R s m args below meth c H1 locs1 cells slots Q (F0 m (pc + 3) ls (.int r :: rest))) : W p l e R s m args below meth c H locs cells slots Q (F0 m pc ls st0) := by
  have hPc := xPs hP isC hC
  have hDc := hD.sub isC hnC hC
  refine xc_i (va_runV (C := C) (As := As) (rest := rest) S0 (hM H.size) (cwV nA S0.2.2.2.2 hG hw hrm.1 hrm.2 hd hRm) ⟨xPre_blind, ?_, fun U hU hW => ⟨rfl, by rw [hU], by rw [hU]; exact hPc, va_K.moved hW.alike hK, hDc.weaken (fun _ _ _ _ => trivial)⟩⟩ rfl hnA hsz hst (lv_room hsum) hdg hRc) hP hD hS hA isC isR hC hR hn hdis kk
  rw [← hqc]
  exact va_recv hK hPc hcl he
/-- the same, without an answer -/
theorem xs_Vv {nA : Nat} {post : S → Prop} {Wd : S → va_W} {q0 ci : Nat} {fs : List Value} {qc : vw_C} (S0 : CallFix p m c cc nL s args Ts own) (hM : xMv l y wsy rm D tysc (.ref b :: As) wc Wd post) (hG : GoodIn Ts (wsV own index C y wsy)) (hw : wsy = Cond.code y bytes maxL ret :: ws') (hrm : rm.cells = 0 ∧ rm.slots = 0) (hd : y.cls = C ∧ y.cls ≠ "java/lang/invoke/MethodHandle" ∧ y.cls ≠ "java/lang/invoke/VarHandle" ∧ (parseMethodDescriptor y.desc).map (fun d => d.parameters.length) = some nA) (hnA : As.length = nA) (hRm : rm.frames + 1 ≤ R.frames ∧ 8 + (maxL + 11) + rm.locals ≤ R.locals) (hRc : cells ≤ R.cells ∧ slots ≤ R.slots)
    (hK : va_K D vwCl tysc s) (hP : va_P D vwCl ws H) (hD : va_D A ws) (hS : va_S A H0 H locs) (hA : ∀ q, H0.size ≤ q → A q) (isC isR : List Nat) (hC : isC.map (fun i => ws[i]?) = wc.map some) (hR : isR.map (fun i => ws[i]?) = wr.map some) (hnC : va_nd isC = true) (hn : va_nd isR = true) (hdis : ∀ i ∈ isR, i ∉ isC)
    (hcl : vwCl[ci]? = some qc) (hqc : qc.1 = C) (he : wc[q0]? = some (b, .inr (ci, fs))) (hsz : ls.size = nL) (hst : st0 = As.reverse ++ .ref b :: rest) (hsum : (rest.map fun v => v.category).sum ≤ 8) (hdg : decode cc pc = .ok (.invokevirtual index, 3))
    (kk : ∀ (u : S) (H1 : Heap) (locs1 : List Loc), post u → va_P D vwCl (wr ++ Wd u) H1 → va_D A (wr ++ Wd u) → va_S A H0 H1 locs1 → W p l e R s m args below meth c H1 locs1 cells slots Q (F0 m (pc + 3) ls rest)) : W p l e R s m args below meth c H locs cells slots Q (F0 m pc ls st0) := by
  have hPc := xPs hP isC hC
  have hDc := hD.sub isC hnC hC
  refine xc_v (va_runV (C := C) (As := As) (rest := rest) S0 (hM H.size) (cwV nA S0.2.2.2.2 hG hw hrm.1 hrm.2 hd hRm) ⟨xPre_blind, ?_, fun U hU hW => ⟨rfl, by rw [hU], by rw [hU]; exact hPc, va_K.moved hW.alike hK, hDc.weaken (fun _ _ _ _ => trivial)⟩⟩ rfl hnA hsz hst (lv_room hsum) hdg hRc) hP hD hS hA isC isR hC hR hn hdis kk
  rw [← hqc]
  exact va_recv hK hPc hcl he
/-- a static call that touches no cell -/
theorem xs_Si {nA : Nat} {post : Int32 → Unit → Prop} (S0 : CallFix p m c cc nL s args Ts own) (hM : xMi l y wsy rm D [] As [] (fun _ : Unit => []) post) (hG : GoodIn Ts (va_wsS own index y wsy)) (hw : wsy = Cond.code y bytes maxL ret :: ws') (hrm : rm.cells = 0 ∧ rm.slots = 0) (hd : y.cls ≠ "java/lang/invoke/MethodHandle" ∧ y.cls ≠ "java/lang/invoke/VarHandle" ∧ (parseMethodDescriptor y.desc).map (fun d => d.parameters.length) = some nA) (hnA : As.length = nA) (hRm : rm.frames + 1 ≤ R.frames ∧ 8 + (maxL + 11) + rm.locals ≤ R.locals) (hRc : cells ≤ R.cells ∧ slots ≤ R.slots)
    (hK : va_K D vwCl tys s) (hP : va_P D vwCl ws H) (hD : va_D A ws) (hS : va_S A H0 H locs) (hA : ∀ q, H0.size ≤ q → A q) (hsz : ls.size = nL) (hst : st0 = As.reverse ++ rest) (hsum : (rest.map fun v => v.category).sum ≤ 8) (hdg : decode cc pc = .ok (.invokestatic index, 3))
    (kk : ∀ (r : Int32) (H1 : Heap) (locs1 : List Loc), post r () → va_P D vwCl ws H1 → va_D A ws → va_S A H0 H1 locs1 → W p l e R s m args below meth c H1 locs1 cells slots Q (F0 m (pc + 3) ls (.int r :: rest))) : W p l e R s m args below meth c H locs cells slots Q (F0 m pc ls st0) := by
  have hF := va_free (wc := []) hD hS hA [] rfl
  have hr := va_runS (As := As) (rest := rest) S0 (hM H.size) (va_cwS nA S0.2.2.2.2 hG hw hrm.1 hrm.2 hd hRm) (H := H) (locs := locs) (cells := cells) (slots := slots) (g := F0 m pc ls st0) (e := e) (below := below) (meth := meth) ⟨xPre_blind, fun U hU hW => ⟨rfl, by rw [hU], fun k q h => by simp at h, va_K.moved hW.alike (hK.sub [] rfl), ⟨fun i j p q h => by simp at h, fun k q h => by simp at h⟩⟩⟩ rfl hnA hsz hst (lv_room hsum) hdg hRc
  refine va_calli hr hS (fun q _ h => hF q h) hF (fun r u t H1 locs1 ht hvm hw hB hz hk hS1 => ?_)
  refine kk r H1 locs1 hw (fun k q hq => ?_) hD hS1
  have hl := (hP k q hq).lt
  refine (hP k q hq).kept (hk q.1 hl (fun h => ?_))
  rcases h with ⟨k2, e2, h⟩ | h
  · simp at h
  · omega
/-- the end of a method with an int answer -/
theorem xr_i {post : Int32 → S → Prop} {Wd : S → va_W} {v : Int32} (hx : p.tables.exec = Jvm.exec) (hb : c.code = cc) (hr : meth.sig.returnType = some .int) (hlocks : meth.locks = false) (u : S) (hpost : post v u) (hP : va_P D vwCl (Wd u) H) (hK : va_K D vwCl tys s) (hD : va_D A (Wd u)) (hS : va_S A s.heap H locs) (hdg : decode cc pc = .ok (.ireturn, 1)) : W p l e R s m args below meth c H locs cells slots (MQ below (va_Qi post (xB D tys A Wd) A) args s cells slots A) (F0 m pc ls [.int v]) :=
  W.iret hx hb hr (fun t ht hW => ⟨⟨v, u, rfl, hpost, by rw [ht]; exact hP, va_K.moved hW.alike hK, hD⟩, hS.F ht⟩) hS.2.2 hdg hlocks
theorem xr_z {post : Int32 → S → Prop} {Wd : S → va_W} {v : Int32} (hx : p.tables.exec = Jvm.exec) (hb : c.code = cc) (hr : meth.sig.returnType = some .boolean) (hlocks : meth.locks = false) (hn : narrow .boolean (.int v) = .int v) (u : S) (hpost : post v u) (hP : va_P D vwCl (Wd u) H) (hK : va_K D vwCl tys s) (hD : va_D A (Wd u)) (hS : va_S A s.heap H locs) (hdg : decode cc pc = .ok (.ireturn, 1)) : W p l e R s m args below meth c H locs cells slots (MQ below (va_Qi post (xB D tys A Wd) A) args s cells slots A) (F0 m pc ls [.int v]) :=
  W.zret hx hb hr hn (fun t ht hW => ⟨⟨v, u, rfl, hpost, by rw [ht]; exact hP, va_K.moved hW.alike hK, hD⟩, hS.F ht⟩) hS.2.2 hdg hlocks
theorem xr_v {post : S → Prop} {Wd : S → va_W} (hx : p.tables.exec = Jvm.exec) (hb : c.code = cc) (hr : meth.sig.returnType = none) (hlocks : meth.locks = false) (u : S) (hpost : post u) (hP : va_P D vwCl (Wd u) H) (hK : va_K D vwCl tys s) (hD : va_D A (Wd u)) (hS : va_S A s.heap H locs) (hdg : decode cc pc = .ok (.return_, 1)) : W p l e R s m args below meth c H locs cells slots (MQ below (va_Qv post (xB D tys A Wd) A) args s cells slots A) (F0 m pc ls []) :=
  W.vret hx hb hr (fun t ht hW => ⟨⟨u, rfl, hpost, by rw [ht]; exact hP, va_K.moved hW.alike hK, hD⟩, hS.F ht⟩) hS.2.2 hdg hlocks
end
section
variable {l : Launch} {D : va_G} {tys : List (ClassId × FieldType)} {ws : va_W} {y : MethodName} {cc : ByteArray} {maxL : Nat} {ret : Option FieldType} {wsy ws' : List Cond} {rm : Room} {av : List Value} {lvl : List (Nat × Value)} {S : Type}
/-- a method's beginning -/
theorem xe_i {post : Int32 → S → Prop} {Wd : S → va_W} (hy : plainName y.cls = true) (hw : wsy = Cond.code y cc maxL ret :: ws') (hlen : (lg_sl av).length ≤ maxL) (hlv : lv_args 0 av = lvl)
    (body : ∀ (p : Program) (e : Env) (s : State) (m : MethodId) (below : List Frame) (meth : Method) (c : Code) (A : Nat → Prop) (ls : Array Slot), p.tables.exec = Jvm.exec → c.code = cc → meth.sig.returnType = ret → meth.locks = false → c.maxLocals = maxL → s.vm.findClass y.cls = some m.cls → (∀ w ∈ wsy, w.before av.toArray s = true) → (∀ q : Nat, s.heap.size ≤ q → A q) → va_P D vwCl ws s.heap → va_K D vwCl tys s → va_D A ws → va_S A s.heap s.heap [] → lv_has ls maxL lvl →
      W p l e (headSpec wsy rm).room s m av.toArray below meth c s.heap [] 0 0 (MQ below (va_Qi post (xB D tys A Wd) A) av.toArray s 0 0 A) (F0 m 0 ls [])) : xMi l y wsy rm D tys av ws Wd post := by
  intro sz
  refine Met.ofW (cc := cc) (maxL := maxL) (ret := ret) hy hw ?_
  intro p e s m args below meth c s₁ B hml hv
  obtain ⟨rfl, hsz, hP, hK, hD0⟩ := hv
  subst hsz
  have hl := lv_entry av (n := maxL) hlen
  rw [lg_entry_eq]
  rw [hlv] at hl
  exact body p e s m below meth c _ _ B.exec B.bytes B.returns B.notSynchronized hml (findClass_of_methodNamed B.named) (atoms_spec (ws := wsy) B.pre) (fun q h => Or.inr h) hP hK hD0.self va_S.rf hl
theorem xe_v {post : S → Prop} {Wd : S → va_W} (hy : plainName y.cls = true) (hw : wsy = Cond.code y cc maxL ret :: ws') (hlen : (lg_sl av).length ≤ maxL) (hlv : lv_args 0 av = lvl)
    (body : ∀ (p : Program) (e : Env) (s : State) (m : MethodId) (below : List Frame) (meth : Method) (c : Code) (A : Nat → Prop) (ls : Array Slot), p.tables.exec = Jvm.exec → c.code = cc → meth.sig.returnType = ret → meth.locks = false → c.maxLocals = maxL → s.vm.findClass y.cls = some m.cls → (∀ w ∈ wsy, w.before av.toArray s = true) → (∀ q : Nat, s.heap.size ≤ q → A q) → va_P D vwCl ws s.heap → va_K D vwCl tys s → va_D A ws → va_S A s.heap s.heap [] → lv_has ls maxL lvl →
      W p l e (headSpec wsy rm).room s m av.toArray below meth c s.heap [] 0 0 (MQ below (va_Qv post (xB D tys A Wd) A) av.toArray s 0 0 A) (F0 m 0 ls [])) : xMv l y wsy rm D tys av ws Wd post := by
  intro sz
  refine Met.ofW (cc := cc) (maxL := maxL) (ret := ret) hy hw ?_
  intro p e s m args below meth c s₁ B hml hv
  obtain ⟨rfl, hsz, hP, hK, hD0⟩ := hv
  subst hsz
  have hl := lv_entry av (n := maxL) hlen
  rw [lg_entry_eq]
  rw [hlv] at hl
  exact body p e s m below meth c _ _ B.exec B.bytes B.returns B.notSynchronized hml (findClass_of_methodNamed B.named) (atoms_spec (ws := wsy) B.pre) (fun q h => Or.inr h) hP hK hD0.self va_S.rf hl
end
end
section
/-! What a state is: R routers; w: the wire of each place (-1: none); c: its cost; k: which wires are cut; d, n: rows of scratch; wp, wr: the way found last. -/
abbrev xw (ad : Nat → Nat) (tt : Nat → ClassId) (R : Nat) (w c k d n : Nat → Int32) (wp wr : Int32) : va_W := [(ad 0, .inr (0, [.int (nI R), .ref (ad 1), .ref (ad 2), .ref (ad 3), .ref (ad 4), .ref (ad 5), .int wp, .int wr])), (ad 1, .inl (tt 1, 40, .inl w)), (ad 2, .inl (tt 2, 40, .inl c)), (ad 3, .inl (tt 3, 16, .inl k)), (ad 4, .inl (tt 4, 10, .inl d)), (ad 5, .inl (tt 5, 16, .inl n))]
abbrev tyX (tt : Nat → ClassId) : List (ClassId × FieldType) := [(tt 1, .int), (tt 2, .int), (tt 3, .boolean), (tt 4, .int), (tt 5, .int)]
abbrev mw (ad : Nat → Nat) (tt : Nat → ClassId) (R : Nat) (w c k d : Nat → Int32) (wp wr : Int32) : va_W := [(ad 0, .inr (1, [.int (nI R), .ref (ad 1), .ref (ad 2), .ref (ad 3), .ref (ad 4), .int wp, .int wr])), (ad 1, .inl (tt 1, 40, .inl w)), (ad 2, .inl (tt 2, 40, .inl c)), (ad 3, .inl (tt 3, 16, .inl k)), (ad 4, .inl (tt 4, 10, .inl d))]
abbrev tyM (tt : Nat → ClassId) : List (ClassId × FieldType) := [(tt 1, .int), (tt 2, .int), (tt 3, .boolean), (tt 4, .int)]
section
variable {p : Program} {l : Launch} {e : Env} {R : Room} {s : State} {m : MethodId} {args : Array Value} {below : List Frame} {meth : Method} {c : Code} {H : Heap} {locs : List Loc} {cells slots : Nat} {Q : State → Prop}
variable {pc : Nat} {ls : Array Slot} {rest : List Value} {A : Nat → Prop} {H0 : Heap} {D : va_G} {tys : List (ClassId × FieldType)} {wt : va_W} {cc : ByteArray} {nL index : Nat} {Ts : List Cond} {h0 : Nat} {fs : List Value} {v : Value}
theorem x0_get (S0 : CallFix p m c cc nL s args Ts RX0) (hin : ∀ w ∈ wsX00, w ∈ Ts) (hK : va_K D vwCl tys s) (hP : va_P D vwCl ((h0, .inr (0, fs)) :: wt) H) (k : Nat) (hk : k < 8) (hlink : (Cond.fieldLink RX0 index RX0 (TX0 k).2.1 (TX0 k).2.2.1).before args s = true) (hT : (TX0 k).1 = RX0) (hv : fs[k]? = some v) (hdg : decode cc pc = .ok (.getfield index, 3))
    (kk : W p l e R s m args below meth c H locs cells slots Q (F0 m (pc + 3) ls (v :: rest))) : W p l e R s m args below meth c H locs cells slots Q (F0 m pc ls (.ref h0 :: rest)) :=
  va_get (C := RX0) (T := TX0) (N := 8) S0.1 S0.2.1 S0.2.2.2.2 hin S0.2.2.2.1 hK hP 0 rfl rfl k hk hlink (by rw [hT]; exact fun _ h => h) hv hdg kk
theorem x1_get (S0 : CallFix p m c cc nL s args Ts RX1) (hin : ∀ w ∈ wsX10, w ∈ Ts) (hK : va_K D vwCl tys s) (hP : va_P D vwCl ((h0, .inr (1, fs)) :: wt) H) (k : Nat) (hk : k < 7) (hlink : (Cond.fieldLink RX1 index RX1 (TX1 k).2.1 (TX1 k).2.2.1).before args s = true) (hT : (TX1 k).1 = RX1) (hv : fs[k]? = some v) (hdg : decode cc pc = .ok (.getfield index, 3))
    (kk : W p l e R s m args below meth c H locs cells slots Q (F0 m (pc + 3) ls (v :: rest))) : W p l e R s m args below meth c H locs cells slots Q (F0 m pc ls (.ref h0 :: rest)) :=
  va_get (C := RX1) (T := TX1) (N := 7) S0.1 S0.2.1 S0.2.2.2.2 hin S0.2.2.2.1 hK hP 0 rfl rfl k hk hlink (by rw [hT]; exact fun _ h => h) hv hdg kk
theorem x0_put {ty : FieldType} (S0 : CallFix p m c cc nL s args Ts RX0) (hin : ∀ w ∈ wsX00, w ∈ Ts) (hK : va_K D vwCl tys s) (hP : va_P D vwCl ((h0, .inr (0, fs)) :: wt) H) (hD : va_D A ((h0, .inr (0, fs)) :: wt)) (hS : va_S A H0 H locs) (k : Nat) (hk : k < 8) (hlink : (Cond.fieldLink RX0 index RX0 (TX0 k).2.1 (TX0 k).2.2.1).before args s = true) (hT : (TX0 k).1 = RX0) (hfin : (TX0 k).2.2.2 = false) (hd : tyX0 k = ty) (hn : narrow ty v = v) (hfit : fits ty v = true) (hl : k < fs.length) (hdg : decode cc pc = .ok (.putfield index, 3))
    (kk : ∀ (H1 : Heap) (locs1 : List Loc), va_P D vwCl ((h0, .inr (0, fs.set k v)) :: wt) H1 → va_D A ((h0, .inr (0, fs.set k v)) :: wt) → va_S A H0 H1 locs1 → W p l e R s m args below meth c H1 locs1 cells slots Q (F0 m (pc + 3) ls rest)) : W p l e R s m args below meth c H locs cells slots Q (F0 m pc ls (v :: .ref h0 :: rest)) :=
  va_put (C := RX0) (T := TX0) (N := 8) S0.1 S0.2.1 S0.2.2.2.2 hin tyX0 tyX0_ok nmX0 S0.2.2.2.1 hK hP hD hS 0 rfl rfl k hk hlink (by rw [hT]; exact fun _ h => h) hfin (by rw [tyX0_ok k hk, hd]) hn hfit hl hdg kk
theorem x1_put {ty : FieldType} (S0 : CallFix p m c cc nL s args Ts RX1) (hin : ∀ w ∈ wsX10, w ∈ Ts) (hK : va_K D vwCl tys s) (hP : va_P D vwCl ((h0, .inr (1, fs)) :: wt) H) (hD : va_D A ((h0, .inr (1, fs)) :: wt)) (hS : va_S A H0 H locs) (k : Nat) (hk : k < 7) (hlink : (Cond.fieldLink RX1 index RX1 (TX1 k).2.1 (TX1 k).2.2.1).before args s = true) (hT : (TX1 k).1 = RX1) (hfin : (TX1 k).2.2.2 = false) (hd : tyX1 k = ty) (hn : narrow ty v = v) (hfit : fits ty v = true) (hl : k < fs.length) (hdg : decode cc pc = .ok (.putfield index, 3))
    (kk : ∀ (H1 : Heap) (locs1 : List Loc), va_P D vwCl ((h0, .inr (1, fs.set k v)) :: wt) H1 → va_D A ((h0, .inr (1, fs.set k v)) :: wt) → va_S A H0 H1 locs1 → W p l e R s m args below meth c H1 locs1 cells slots Q (F0 m (pc + 3) ls rest)) : W p l e R s m args below meth c H locs cells slots Q (F0 m pc ls (v :: .ref h0 :: rest)) :=
  va_put (C := RX1) (T := TX1) (N := 7) S0.1 S0.2.1 S0.2.2.2.2 hin tyX1 tyX1_ok nmX1 S0.2.2.2.1 hK hP hD hS 0 rfl rfl k hk hlink (by rw [hT]; exact fun _ h => h) hfin (by rw [tyX1_ok k hk, hd]) hn hfit hl hdg kk
end
/-- x is one of 0 .. n-1 -/
def ix (x : Int32) (n : Nat) : Prop := ∃ j : Nat, j < n ∧ x = nI j
theorem ix_of {x : Int32} {n : Nat} (hn : n < 2 ^ 31) (h0 : ¬ x < 0) (h1 : ¬ nI n ≤ x) : ix x n := by
  rcases pk_ix x hn with h | h | h
  · exact absurd h h0
  · exact absurd h h1
  · exact h
theorem ix_n0 {x : Int32} {n : Nat} (hn : n < 2 ^ 31) (h : x < 0) : ¬ ix x n := by
  rintro ⟨j, hj, rfl⟩
  exact nI_pos (by omega) h
theorem ix_n1 {x : Int32} {n : Nat} (hn : n < 2 ^ 31) (h : nI n ≤ x) : ¬ ix x n := by
  rintro ⟨j, hj, rfl⟩
  exact nI_ge hj hn h
theorem ix_nm {n : Nat} (hn : n < 2 ^ 31) : ¬ ix (-1) n := ix_n0 hn (by decide)
theorem ix_nI {j n : Nat} (hn : n < 2 ^ 31) (hj : j < 2 ^ 31) : ix (nI j) n ↔ j < n := by
  refine ⟨fun h => ?_, fun h => ⟨j, h, rfl⟩⟩
  obtain ⟨i, hi, he⟩ := h
  have := (nI_eq hj (by omega)).mp he
  omega
theorem nI_m1 {j : Nat} (hj : j < 2 ^ 31) : ¬ nI j = -1 := fun h => ix_nm (n := j + 1) (by
  rcases Nat.lt_or_ge (j + 1) (2 ^ 31) with h1 | h1
  · exact h1
  · exfalso
    have : j = 2 ^ 31 - 1 := by omega
    subst this
    exact absurd h (by decide)) ⟨j, by omega, h.symm⟩
/-- a cost is 1 .. 9 -/
def okc (x : Int32) : Prop := ∃ y : Nat, 1 ≤ y ∧ y ≤ 9 ∧ x = nI y
/-- a wire that is up -/
def upw (k : Nat → Int32) (x : Int32) : Prop := ∃ j : Nat, j < 16 ∧ x = nI j ∧ k j = 0
/-- the first port of router r on wire x, or -1 -/
def ww_po (w : Nat → Int32) (r : Nat) (x v : Int32) : Prop := (v = -1 ∧ ∀ q, q < 4 → w (4 * r + q) ≠ x) ∨ ∃ q, q < 4 ∧ v = nI q ∧ w (4 * r + q) = x ∧ ∀ q', q' < q → w (4 * r + q') ≠ x
def ww_on (w : Nat → Int32) (r : Nat) (x : Int32) : Prop := ∃ q, q < 4 ∧ w (4 * r + q) = x
theorem ww_po_on {w : Nat → Int32} {r : Nat} {x v : Int32} (h : ww_po w r x v) : v = -1 ↔ ¬ ww_on w r x := by
  rcases h with ⟨h1, h2⟩ | ⟨q, h1, h2, h3, h4⟩
  · exact ⟨fun _ ⟨q, hq, e⟩ => h2 q hq e, fun _ => h1⟩
  · exact ⟨fun e => absurd (h2.symm.trans e) (nI_m1 (by omega)), fun hn => absurd ⟨q, h1, h3⟩ hn⟩
theorem ww_po_one {w : Nat → Int32} {r : Nat} {x v v' : Int32} (h : ww_po w r x v) (h' : ww_po w r x v') : v = v' := by
  rcases h with ⟨h1, h2⟩ | ⟨q, h1, h2, h3, h4⟩
  · rcases h' with ⟨g1, g2⟩ | ⟨q', g1, g2, g3, g4⟩
    · rw [h1, g1]
    · exact absurd g3 (h2 q' g1)
  · rcases h' with ⟨g1, g2⟩ | ⟨q', g1, g2, g3, g4⟩
    · exact absurd h3 (g2 q h1)
    · have : q = q' := by
        rcases Nat.lt_trichotomy q q' with z | z | z
        · exact absurd h3 (g4 q z)
        · exact z
        · exact absurd g3 (h4 q' z)
      rw [h2, g2, this]
theorem nI_pl (r q : Nat) : nI r * 4 + nI q = nI (4 * r + q) := by
  rw [show (4 : Int32) = nI 4 from rfl, pk_mul, nI_add, Nat.mul_comm]
theorem nI_lp (r q : Nat) : 4 * nI r + nI q = nI (4 * r + q) := by
  rw [show (4 : Int32) = nI 4 from rfl, pk_mul, nI_add]
end
section
theorem okc_n0 {x : Int32} (h : x < 1) : ¬ okc x := by
  rintro ⟨y, h1, h9, rfl⟩
  exact absurd h (nI_nlt (b := 1) (a := y) h1 (by omega))
theorem okc_n1 {x : Int32} (h : 9 < x) : ¬ okc x := by
  rintro ⟨y, h1, h9, rfl⟩
  exact absurd h (nI_nlt (b := y) (a := 9) h9 (by omega))
theorem okc_of {x : Int32} (h1 : ¬ x < 1) (h9 : ¬ 9 < x) : okc x := by
  have h0 : ¬ x < 0 := fun h => h1 (by
    rw [Int32.lt_iff_toInt_lt] at h ⊢
    exact Int.lt_trans h (by decide))
  obtain ⟨j, hj, rfl⟩ := nI_of h0
  refine ⟨j, ?_, ?_, rfl⟩
  · rcases Nat.lt_or_ge j 1 with h | h
    · exact absurd (nI_lt (b := 1) h (by omega)) h1
    · exact h
  · rcases Nat.lt_or_ge 9 j with h | h
    · exact absurd (nI_lt (a := 9) h hj) h9
    · exact h
theorem ex_in {x : Int32} {j n : Nat} (e : x = nI j) (h : j < n) (hn : n < 2 ^ 31) : vp_in x n := by rw [e]; exact vp_in_nI h hn
theorem ex_cl {x : Int32} {j : Nat} (e : x = nI j) (h : j < 2 ^ 31) : x.toNatClampNeg = j := by rw [e]; exact nI_clamp h
theorem upw_iff {k : Nat → Int32} {x : Int32} {j : Nat} (e : x = nI j) (hj : j < 16) : upw k x ↔ k j = 0 := by
  refine ⟨fun ⟨i, hi, ei, h⟩ => ?_, fun h => ⟨j, hj, e, h⟩⟩
  have := (nI_eq (by omega) (by omega)).mp (e.symm.trans ei)
  subst this
  exact h
theorem upw_ix {k : Nat → Int32} {x : Int32} (h : upw k x) : ix x 16 := by
  obtain ⟨j, hj, e, -⟩ := h
  exact ⟨j, hj, e⟩
/-- port y of router x there is, and it is on a wire -/
def plg (R : Nat) (w : Nat → Int32) (x y : Int32) : Prop := ∃ i j : Nat, i < R ∧ j < 4 ∧ x = nI i ∧ y = nI j ∧ ix (w (4 * i + j)) 16
theorem plg_ix {R : Nat} {w : Nat → Int32} {x y : Int32} (h : plg R w x y) : ix x R ∧ ix y 4 := by
  obtain ⟨i, j, hi, hj, ei, ej, -⟩ := h
  exact ⟨⟨i, hi, ei⟩, ⟨j, hj, ej⟩⟩
theorem plg_iff {R : Nat} {w : Nat → Int32} {x y : Int32} {i j : Nat} (hR : R ≤ 10) (hi : i < R) (hj : j < 4) (ei : x = nI i) (ej : y = nI j) : plg R w x y ↔ ix (w (4 * i + j)) 16 := by
  refine ⟨fun ⟨i', j', hi', hj', ei', ej', h⟩ => ?_, fun h => ⟨i, j, hi, hj, ei, ej, h⟩⟩
  have h1 := (nI_eq (by omega) (by omega)).mp (ei.symm.trans ei')
  have h2 := (nI_eq (by omega) (by omega)).mp (ej.symm.trans ej')
  subst h1
  subst h2
  exact h
/-- an aim that there is -/
def aim (R : Nat) (k : Nat → Int32) (ov t : Int32) : Prop := (ov ≠ 0 → upw k t) ∧ (ov = 0 → ix t R)
end
section
set_option maxHeartbeats 4000000 in
set_option maxRecDepth 100000 in
theorem k_X0_isRouter (l : Launch) (D : va_G) (ad : Nat → Nat) (tt : Nat → ClassId) (R : Nat) (w c k d n : Nat → Int32) (wp wr : Int32) (x : Int32) (hR : R ≤ 10) : xMi l yX0_isRouter wsX0_isRouter { frames := 0, cells := 0, slots := 0, locals := 0 } D (tyX tt) [.ref (ad 0), .int x] (xw ad tt R w c k d n wp wr) (fun _ : Unit => xw ad tt R w c k d n wp wr) (fun v _ => (v = 1 ∧ ix x R) ∨ (v = 0 ∧ ¬ ix x R)) := by
  refine xe_i (cc := cX0_isRouter) (maxL := 2) (ret := (some .boolean)) (lvl := [(0, .ref (ad 0)), (1, .int x)]) (by decide) rfl (Nat.le_of_ble_eq_true rfl) rfl ?_
  intro p e s m below meth cd A ls hx hb hr hlocks hml hown hts hA hP hK hD hS hl
  have hin : ∀ w ∈ wsX00, w ∈ wsX0_isRouter := fun _ h => List.mem_cons_of_mem _ (List.mem_append_right _ h)
  have S0 : CallFix p m cd cX0_isRouter 2 s (([.ref (ad 0), .int x] : List Value).toArray) wsX0_isRouter RX0 := ⟨hx, hb, hml, hown, hts⟩
  obtain ⟨H, hH⟩ : ∃ H, H = s.heap := ⟨_, rfl⟩
  obtain ⟨locs, hlocs⟩ : ∃ q : List Loc, q = [] := ⟨_, rfl⟩
  have hP : va_P D vwCl (xw ad tt R w c k d n wp wr) H := by rw [hH]; exact hP
  have hS : va_S A s.heap H locs := by rw [hH, hlocs]; exact hS
  suffices hgo : W p l e (headSpec wsX0_isRouter ({ frames := 0, cells := 0, slots := 0, locals := 0 } : Room)).room s m (([.ref (ad 0), .int x] : List Value).toArray) below meth cd H locs 0 0 (MQ below (va_Qi (fun v _ => (v = 1 ∧ ix x R) ∨ (v = 0 ∧ ¬ ix x R)) (xB D (tyX tt) A (fun _ : Unit => xw ad tt R w c k d n wp wr)) A) ([.ref (ad 0), .int x] : List Value).toArray s 0 0 A) (F0 m 0 ls []) by rw [hH, hlocs] at hgo; exact hgo
  clear hH hlocs
  have f_routers := hts (.fieldLink RX0 18 "WireWays" "routers" "I") (by decide +kernel)
  refine lv_iload_n hx hb dX0_isRouter_0 rfl (lv_at hl 1 rfl) ?_
  refine lv_if_lt (tgt := 16) hx hb dX0_isRouter_1 (by decide) (fun c_1 => ?_) (fun c_1 => ?_)
  · have hn := ix_n0 (n := R) (by omega) c_1
    refine lv_iconst (v := 0) hx hb dX0_isRouter_16 (by decide) ?_
    exact xr_z hx hb hr hlocks rfl () (Or.inr ⟨rfl, hn⟩) hP hK hD hS dX0_isRouter_17
  · refine lv_iload_n hx hb dX0_isRouter_4 rfl (lv_at hl 1 rfl) ?_
    refine lv_aload_n hx hb dX0_isRouter_5 rfl (lv_at hl 0 rfl) ?_
    refine x0_get (v := .int (nI R)) S0 hin hK hP 0 (by decide) f_routers rfl rfl dX0_isRouter_6 ?_
    refine lv_icmp_ge (tgt := 16) hx hb dX0_isRouter_9 (by decide) (fun c_2 => ?_) (fun c_2 => ?_)
    · have hn := ix_n1 (n := R) (by omega) c_2
      refine lv_iconst (v := 0) hx hb dX0_isRouter_16 (by decide) ?_
      exact xr_z hx hb hr hlocks rfl () (Or.inr ⟨rfl, hn⟩) hP hK hD hS dX0_isRouter_17
    · refine lv_iconst (v := 1) hx hb dX0_isRouter_12 (by decide) ?_
      refine lv_goto (tgt := 17) hx hb dX0_isRouter_13 (by decide) ?_
      exact xr_z hx hb hr hlocks rfl () (Or.inl ⟨rfl, ix_of (by omega) (by assumption) (by assumption)⟩) hP hK hD hS dX0_isRouter_17
set_option maxHeartbeats 4000000 in
set_option maxRecDepth 100000 in
theorem k_X0_isWire (l : Launch) (D : va_G) (x : Int32) : xMi l yX0_isWire wsX0_isWire { frames := 0, cells := 0, slots := 0, locals := 0 } D [] [.int x] ([]) (fun _ : Unit => []) (fun v _ => (v = 1 ∧ ix x 16) ∨ (v = 0 ∧ ¬ ix x 16)) := by
  refine xe_i (cc := cX0_isWire) (maxL := 1) (ret := (some .boolean)) (lvl := [(0, .int x)]) (by decide) rfl (Nat.le_of_ble_eq_true rfl) rfl ?_
  intro p e s m below meth cd A ls hx hb hr hlocks hml hown hts hA hP hK hD hS hl
  have S0 : CallFix p m cd cX0_isWire 1 s (([.int x] : List Value).toArray) wsX0_isWire RX0 := ⟨hx, hb, hml, hown, hts⟩
  obtain ⟨H, hH⟩ : ∃ H, H = s.heap := ⟨_, rfl⟩
  obtain ⟨locs, hlocs⟩ : ∃ q : List Loc, q = [] := ⟨_, rfl⟩
  have hP : va_P D vwCl ([]) H := by rw [hH]; exact hP
  have hS : va_S A s.heap H locs := by rw [hH, hlocs]; exact hS
  suffices hgo : W p l e (headSpec wsX0_isWire ({ frames := 0, cells := 0, slots := 0, locals := 0 } : Room)).room s m (([.int x] : List Value).toArray) below meth cd H locs 0 0 (MQ below (va_Qi (fun v _ => (v = 1 ∧ ix x 16) ∨ (v = 0 ∧ ¬ ix x 16)) (xB D [] A (fun _ : Unit => [])) A) ([.int x] : List Value).toArray s 0 0 A) (F0 m 0 ls []) by rw [hH, hlocs] at hgo; exact hgo
  clear hH hlocs
  refine lv_iload_n hx hb dX0_isWire_0 rfl (lv_at hl 0 rfl) ?_
  refine lv_if_lt (tgt := 14) hx hb dX0_isWire_1 (by decide) (fun c_1 => ?_) (fun c_1 => ?_)
  · have hn := ix_n0 (n := 16) (by omega) c_1
    refine lv_iconst (v := 0) hx hb dX0_isWire_14 (by decide) ?_
    exact xr_z hx hb hr hlocks rfl () (Or.inr ⟨rfl, hn⟩) hP hK hD hS dX0_isWire_15
  · refine lv_iload_n hx hb dX0_isWire_4 rfl (lv_at hl 0 rfl) ?_
    refine lv_bipush (v := 16) hx hb dX0_isWire_5 (by decide) ?_
    refine lv_icmp_ge (tgt := 14) hx hb dX0_isWire_7 (by decide) (fun c_2 => ?_) (fun c_2 => ?_)
    · have hn := ix_n1 (n := 16) (by omega) c_2
      refine lv_iconst (v := 0) hx hb dX0_isWire_14 (by decide) ?_
      exact xr_z hx hb hr hlocks rfl () (Or.inr ⟨rfl, hn⟩) hP hK hD hS dX0_isWire_15
    · refine lv_iconst (v := 1) hx hb dX0_isWire_10 (by decide) ?_
      refine lv_goto (tgt := 15) hx hb dX0_isWire_11 (by decide) ?_
      exact xr_z hx hb hr hlocks rfl () (Or.inl ⟨rfl, ix_of (by omega) (by assumption) (by assumption)⟩) hP hK hD hS dX0_isWire_15
set_option maxHeartbeats 4000000 in
set_option maxRecDepth 100000 in
theorem k_X1_isRouter (l : Launch) (D : va_G) (ad : Nat → Nat) (tt : Nat → ClassId) (R : Nat) (w c k d : Nat → Int32) (wp wr : Int32) (x : Int32) (hR : R ≤ 10) : xMi l yX1_isRouter wsX1_isRouter { frames := 0, cells := 0, slots := 0, locals := 0 } D (tyM tt) [.ref (ad 0), .int x] (mw ad tt R w c k d wp wr) (fun _ : Unit => mw ad tt R w c k d wp wr) (fun v _ => (v = 1 ∧ ix x R) ∨ (v = 0 ∧ ¬ ix x R)) := by
  refine xe_i (cc := cX1_isRouter) (maxL := 2) (ret := (some .boolean)) (lvl := [(0, .ref (ad 0)), (1, .int x)]) (by decide) rfl (Nat.le_of_ble_eq_true rfl) rfl ?_
  intro p e s m below meth cd A ls hx hb hr hlocks hml hown hts hA hP hK hD hS hl
  have hin : ∀ w ∈ wsX10, w ∈ wsX1_isRouter := fun _ h => List.mem_cons_of_mem _ (List.mem_append_right _ h)
  have S0 : CallFix p m cd cX1_isRouter 2 s (([.ref (ad 0), .int x] : List Value).toArray) wsX1_isRouter RX1 := ⟨hx, hb, hml, hown, hts⟩
  obtain ⟨H, hH⟩ : ∃ H, H = s.heap := ⟨_, rfl⟩
  obtain ⟨locs, hlocs⟩ : ∃ q : List Loc, q = [] := ⟨_, rfl⟩
  have hP : va_P D vwCl (mw ad tt R w c k d wp wr) H := by rw [hH]; exact hP
  have hS : va_S A s.heap H locs := by rw [hH, hlocs]; exact hS
  suffices hgo : W p l e (headSpec wsX1_isRouter ({ frames := 0, cells := 0, slots := 0, locals := 0 } : Room)).room s m (([.ref (ad 0), .int x] : List Value).toArray) below meth cd H locs 0 0 (MQ below (va_Qi (fun v _ => (v = 1 ∧ ix x R) ∨ (v = 0 ∧ ¬ ix x R)) (xB D (tyM tt) A (fun _ : Unit => mw ad tt R w c k d wp wr)) A) ([.ref (ad 0), .int x] : List Value).toArray s 0 0 A) (F0 m 0 ls []) by rw [hH, hlocs] at hgo; exact hgo
  clear hH hlocs
  have f_routers := hts (.fieldLink RX1 23 "WireWaysModel" "routers" "I") (by decide +kernel)
  refine lv_iload_n hx hb dX1_isRouter_0 rfl (lv_at hl 1 rfl) ?_
  refine lv_if_lt (tgt := 16) hx hb dX1_isRouter_1 (by decide) (fun c_1 => ?_) (fun c_1 => ?_)
  · have hn := ix_n0 (n := R) (by omega) c_1
    refine lv_iconst (v := 0) hx hb dX1_isRouter_16 (by decide) ?_
    exact xr_z hx hb hr hlocks rfl () (Or.inr ⟨rfl, hn⟩) hP hK hD hS dX1_isRouter_17
  · refine lv_iload_n hx hb dX1_isRouter_4 rfl (lv_at hl 1 rfl) ?_
    refine lv_aload_n hx hb dX1_isRouter_5 rfl (lv_at hl 0 rfl) ?_
    refine x1_get (v := .int (nI R)) S0 hin hK hP 0 (by decide) f_routers rfl rfl dX1_isRouter_6 ?_
    refine lv_icmp_ge (tgt := 16) hx hb dX1_isRouter_9 (by decide) (fun c_2 => ?_) (fun c_2 => ?_)
    · have hn := ix_n1 (n := R) (by omega) c_2
      refine lv_iconst (v := 0) hx hb dX1_isRouter_16 (by decide) ?_
      exact xr_z hx hb hr hlocks rfl () (Or.inr ⟨rfl, hn⟩) hP hK hD hS dX1_isRouter_17
    · refine lv_iconst (v := 1) hx hb dX1_isRouter_12 (by decide) ?_
      refine lv_goto (tgt := 17) hx hb dX1_isRouter_13 (by decide) ?_
      exact xr_z hx hb hr hlocks rfl () (Or.inl ⟨rfl, ix_of (by omega) (by assumption) (by assumption)⟩) hP hK hD hS dX1_isRouter_17
set_option maxHeartbeats 4000000 in
set_option maxRecDepth 100000 in
theorem k_X1_isWire (l : Launch) (D : va_G) (x : Int32) : xMi l yX1_isWire wsX1_isWire { frames := 0, cells := 0, slots := 0, locals := 0 } D [] [.int x] ([]) (fun _ : Unit => []) (fun v _ => (v = 1 ∧ ix x 16) ∨ (v = 0 ∧ ¬ ix x 16)) := by
  refine xe_i (cc := cX1_isWire) (maxL := 1) (ret := (some .boolean)) (lvl := [(0, .int x)]) (by decide) rfl (Nat.le_of_ble_eq_true rfl) rfl ?_
  intro p e s m below meth cd A ls hx hb hr hlocks hml hown hts hA hP hK hD hS hl
  have S0 : CallFix p m cd cX1_isWire 1 s (([.int x] : List Value).toArray) wsX1_isWire RX1 := ⟨hx, hb, hml, hown, hts⟩
  obtain ⟨H, hH⟩ : ∃ H, H = s.heap := ⟨_, rfl⟩
  obtain ⟨locs, hlocs⟩ : ∃ q : List Loc, q = [] := ⟨_, rfl⟩
  have hP : va_P D vwCl ([]) H := by rw [hH]; exact hP
  have hS : va_S A s.heap H locs := by rw [hH, hlocs]; exact hS
  suffices hgo : W p l e (headSpec wsX1_isWire ({ frames := 0, cells := 0, slots := 0, locals := 0 } : Room)).room s m (([.int x] : List Value).toArray) below meth cd H locs 0 0 (MQ below (va_Qi (fun v _ => (v = 1 ∧ ix x 16) ∨ (v = 0 ∧ ¬ ix x 16)) (xB D [] A (fun _ : Unit => [])) A) ([.int x] : List Value).toArray s 0 0 A) (F0 m 0 ls []) by rw [hH, hlocs] at hgo; exact hgo
  clear hH hlocs
  refine lv_iload_n hx hb dX1_isWire_0 rfl (lv_at hl 0 rfl) ?_
  refine lv_if_lt (tgt := 14) hx hb dX1_isWire_1 (by decide) (fun c_1 => ?_) (fun c_1 => ?_)
  · have hn := ix_n0 (n := 16) (by omega) c_1
    refine lv_iconst (v := 0) hx hb dX1_isWire_14 (by decide) ?_
    exact xr_z hx hb hr hlocks rfl () (Or.inr ⟨rfl, hn⟩) hP hK hD hS dX1_isWire_15
  · refine lv_iload_n hx hb dX1_isWire_4 rfl (lv_at hl 0 rfl) ?_
    refine lv_bipush (v := 16) hx hb dX1_isWire_5 (by decide) ?_
    refine lv_icmp_ge (tgt := 14) hx hb dX1_isWire_7 (by decide) (fun c_2 => ?_) (fun c_2 => ?_)
    · have hn := ix_n1 (n := 16) (by omega) c_2
      refine lv_iconst (v := 0) hx hb dX1_isWire_14 (by decide) ?_
      exact xr_z hx hb hr hlocks rfl () (Or.inr ⟨rfl, hn⟩) hP hK hD hS dX1_isWire_15
    · refine lv_iconst (v := 1) hx hb dX1_isWire_10 (by decide) ?_
      refine lv_goto (tgt := 15) hx hb dX1_isWire_11 (by decide) ?_
      exact xr_z hx hb hr hlocks rfl () (Or.inl ⟨rfl, ix_of (by omega) (by assumption) (by assumption)⟩) hP hK hD hS dX1_isWire_15
set_option maxHeartbeats 4000000 in
set_option maxRecDepth 100000 in
theorem k_X0_isCost (l : Launch) (D : va_G) (x : Int32) : xMi l yX0_isCost wsX0_isCost { frames := 0, cells := 0, slots := 0, locals := 0 } D [] [.int x] ([]) (fun _ : Unit => []) (fun v _ => (v = 1 ∧ okc x) ∨ (v = 0 ∧ ¬ okc x)) := by
  refine xe_i (cc := cX0_isCost) (maxL := 1) (ret := (some .boolean)) (lvl := [(0, .int x)]) (by decide) rfl (Nat.le_of_ble_eq_true rfl) rfl ?_
  intro p e s m below meth cd A ls hx hb hr hlocks hml hown hts hA hP hK hD hS hl
  have S0 : CallFix p m cd cX0_isCost 1 s (([.int x] : List Value).toArray) wsX0_isCost RX0 := ⟨hx, hb, hml, hown, hts⟩
  obtain ⟨H, hH⟩ : ∃ H, H = s.heap := ⟨_, rfl⟩
  obtain ⟨locs, hlocs⟩ : ∃ q : List Loc, q = [] := ⟨_, rfl⟩
  have hP : va_P D vwCl ([]) H := by rw [hH]; exact hP
  have hS : va_S A s.heap H locs := by rw [hH, hlocs]; exact hS
  suffices hgo : W p l e (headSpec wsX0_isCost ({ frames := 0, cells := 0, slots := 0, locals := 0 } : Room)).room s m (([.int x] : List Value).toArray) below meth cd H locs 0 0 (MQ below (va_Qi (fun v _ => (v = 1 ∧ okc x) ∨ (v = 0 ∧ ¬ okc x)) (xB D [] A (fun _ : Unit => [])) A) ([.int x] : List Value).toArray s 0 0 A) (F0 m 0 ls []) by rw [hH, hlocs] at hgo; exact hgo
  clear hH hlocs
  refine lv_iload_n hx hb dX0_isCost_0 rfl (lv_at hl 0 rfl) ?_
  refine lv_iconst (v := 1) hx hb dX0_isCost_1 (by decide) ?_
  refine lv_icmp_lt (tgt := 15) hx hb dX0_isCost_2 (by decide) (fun c_1 => ?_) (fun c_1 => ?_)
  · have hn := okc_n0 c_1
    refine lv_iconst (v := 0) hx hb dX0_isCost_15 (by decide) ?_
    exact xr_z hx hb hr hlocks rfl () (Or.inr ⟨rfl, hn⟩) hP hK hD hS dX0_isCost_16
  · refine lv_iload_n hx hb dX0_isCost_5 rfl (lv_at hl 0 rfl) ?_
    refine lv_bipush (v := 9) hx hb dX0_isCost_6 (by decide) ?_
    refine lv_icmp_gt (tgt := 15) hx hb dX0_isCost_8 (by decide) (fun c_2 => ?_) (fun c_2 => ?_)
    · have hn := okc_n1 c_2
      refine lv_iconst (v := 0) hx hb dX0_isCost_15 (by decide) ?_
      exact xr_z hx hb hr hlocks rfl () (Or.inr ⟨rfl, hn⟩) hP hK hD hS dX0_isCost_16
    · refine lv_iconst (v := 1) hx hb dX0_isCost_11 (by decide) ?_
      refine lv_goto (tgt := 16) hx hb dX0_isCost_12 (by decide) ?_
      exact xr_z hx hb hr hlocks rfl () (Or.inl ⟨rfl, okc_of (by assumption) (by assumption)⟩) hP hK hD hS dX0_isCost_16
set_option maxHeartbeats 4000000 in
set_option maxRecDepth 100000 in
theorem k_X0_placeOf (l : Launch) (D : va_G) (x y : Int32) : xMi l yX0_placeOf wsX0_placeOf { frames := 0, cells := 0, slots := 0, locals := 0 } D [] [.int x, .int y] ([]) (fun _ : Unit => []) (fun v _ => v = x * 4 + y) := by
  refine xe_i (cc := cX0_placeOf) (maxL := 2) (ret := (some .int)) (lvl := [(0, .int x), (1, .int y)]) (by decide) rfl (Nat.le_of_ble_eq_true rfl) rfl ?_
  intro p e s m below meth cd A ls hx hb hr hlocks hml hown hts hA hP hK hD hS hl
  have S0 : CallFix p m cd cX0_placeOf 2 s (([.int x, .int y] : List Value).toArray) wsX0_placeOf RX0 := ⟨hx, hb, hml, hown, hts⟩
  obtain ⟨H, hH⟩ : ∃ H, H = s.heap := ⟨_, rfl⟩
  obtain ⟨locs, hlocs⟩ : ∃ q : List Loc, q = [] := ⟨_, rfl⟩
  have hP : va_P D vwCl ([]) H := by rw [hH]; exact hP
  have hS : va_S A s.heap H locs := by rw [hH, hlocs]; exact hS
  suffices hgo : W p l e (headSpec wsX0_placeOf ({ frames := 0, cells := 0, slots := 0, locals := 0 } : Room)).room s m (([.int x, .int y] : List Value).toArray) below meth cd H locs 0 0 (MQ below (va_Qi (fun v _ => v = x * 4 + y) (xB D [] A (fun _ : Unit => [])) A) ([.int x, .int y] : List Value).toArray s 0 0 A) (F0 m 0 ls []) by rw [hH, hlocs] at hgo; exact hgo
  clear hH hlocs
  refine lv_iload_n hx hb dX0_placeOf_0 rfl (lv_at hl 0 rfl) ?_
  refine lv_iconst (v := 4) hx hb dX0_placeOf_1 (by decide) ?_
  refine lv_imul hx hb dX0_placeOf_2 ?_
  refine lv_iload_n hx hb dX0_placeOf_3 rfl (lv_at hl 1 rfl) ?_
  refine lv_iadd hx hb dX0_placeOf_4 ?_
  exact xr_i hx hb hr hlocks () rfl hP hK hD hS dX0_placeOf_5
end
section
set_option maxHeartbeats 4000000 in
set_option maxRecDepth 100000 in
theorem k_X0_isPort (l : Launch) (D : va_G) (ad : Nat → Nat) (tt : Nat → ClassId) (R : Nat) (w c k d n : Nat → Int32) (wp wr : Int32) (x y : Int32) (hR : R ≤ 10) : xMi l yX0_isPort wsX0_isPort { frames := 1, cells := 0, slots := 0, locals := 21 } D (tyX tt) [.ref (ad 0), .int x, .int y] (xw ad tt R w c k d n wp wr) (fun _ : Unit => xw ad tt R w c k d n wp wr) (fun v _ => (v = 1 ∧ ix x R ∧ ix y 4) ∨ (v = 0 ∧ ¬ (ix x R ∧ ix y 4))) := by
  refine xe_i (cc := cX0_isPort) (maxL := 3) (ret := (some .boolean)) (lvl := [(0, .ref (ad 0)), (1, .int x), (2, .int y)]) (by decide) rfl (Nat.le_of_ble_eq_true rfl) rfl ?_
  intro p e s m below meth cd A ls hx hb hr hlocks hml hown hts hA hP hK hD hS hl
  have hin : ∀ w ∈ wsX00, w ∈ wsX0_isPort := fun _ h => List.mem_cons_of_mem _ (List.mem_append_right _ h)
  have S0 : CallFix p m cd cX0_isPort 3 s (([.ref (ad 0), .int x, .int y] : List Value).toArray) wsX0_isPort RX0 := ⟨hx, hb, hml, hown, hts⟩
  obtain ⟨H, hH⟩ : ∃ H, H = s.heap := ⟨_, rfl⟩
  obtain ⟨locs, hlocs⟩ : ∃ q : List Loc, q = [] := ⟨_, rfl⟩
  have hP : va_P D vwCl (xw ad tt R w c k d n wp wr) H := by rw [hH]; exact hP
  have hS : va_S A s.heap H locs := by rw [hH, hlocs]; exact hS
  suffices hgo : W p l e (headSpec wsX0_isPort ({ frames := 1, cells := 0, slots := 0, locals := 21 } : Room)).room s m (([.ref (ad 0), .int x, .int y] : List Value).toArray) below meth cd H locs 0 0 (MQ below (va_Qi (fun v _ => (v = 1 ∧ ix x R ∧ ix y 4) ∨ (v = 0 ∧ ¬ (ix x R ∧ ix y 4))) (xB D (tyX tt) A (fun _ : Unit => xw ad tt R w c k d n wp wr)) A) ([.ref (ad 0), .int x, .int y] : List Value).toArray s 0 0 A) (F0 m 0 ls []) by rw [hH, hlocs] at hgo; exact hgo
  clear hH hlocs
  refine lv_aload_n hx hb dX0_isPort_0 rfl (lv_at hl 0 rfl) ?_
  refine lv_iload_n hx hb dX0_isPort_1 rfl (lv_at hl 1 rfl) ?_
  refine xs_Vi (wr := []) (q0 := 0) (ci := 0) (nA := 1) (As := [.int x]) (rest := []) S0 (k_X0_isRouter l D ad tt R w c k d n wp wr x hR) gX0_isPort_X0_isRouter rfl ⟨rfl, rfl⟩ (by decide +kernel) rfl ⟨Nat.le_of_ble_eq_true rfl, Nat.le_of_ble_eq_true rfl⟩ ⟨Nat.le_of_ble_eq_true rfl, Nat.le_of_ble_eq_true rfl⟩ hK hP hD hS hA [0, 1, 2, 3, 4, 5] [] rfl rfl (by decide) (by decide) (by decide) rfl rfl rfl hl.1 rfl (Nat.le_of_ble_eq_true rfl) dX0_isPort_2 (fun r_1 u H locs hw hP hD hS => ?_)
  have hP : va_P D vwCl (xw ad tt R w c k d n wp wr) H := hP
  have hD : va_D A (xw ad tt R w c k d n wp wr) := hD
  rcases hw with ⟨rfl, h_r⟩ | ⟨rfl, h_r⟩
  · refine lv_if_eq (tgt := 21) hx hb dX0_isPort_5 (by decide) (fun c_2 => absurd c_2 (by decide)) (fun c_2 => ?_)
    refine lv_iload_n hx hb dX0_isPort_8 rfl (lv_at hl 2 rfl) ?_
    refine lv_if_lt (tgt := 21) hx hb dX0_isPort_9 (by decide) (fun c_3 => ?_) (fun c_3 => ?_)
    · have hn := ix_n0 (n := 4) (by omega) c_3
      refine lv_iconst (v := 0) hx hb dX0_isPort_21 (by decide) ?_
      exact xr_z hx hb hr hlocks rfl () (Or.inr ⟨rfl, fun h => by first | exact hn h.2 | exact h_r h.1⟩) hP hK hD hS dX0_isPort_22
    · refine lv_iload_n hx hb dX0_isPort_12 rfl (lv_at hl 2 rfl) ?_
      refine lv_iconst (v := 4) hx hb dX0_isPort_13 (by decide) ?_
      refine lv_icmp_ge (tgt := 21) hx hb dX0_isPort_14 (by decide) (fun c_4 => ?_) (fun c_4 => ?_)
      · have hn := ix_n1 (n := 4) (by omega) c_4
        refine lv_iconst (v := 0) hx hb dX0_isPort_21 (by decide) ?_
        exact xr_z hx hb hr hlocks rfl () (Or.inr ⟨rfl, fun h => by first | exact hn h.2 | exact h_r h.1⟩) hP hK hD hS dX0_isPort_22
      · refine lv_iconst (v := 1) hx hb dX0_isPort_17 (by decide) ?_
        refine lv_goto (tgt := 22) hx hb dX0_isPort_18 (by decide) ?_
        exact xr_z hx hb hr hlocks rfl () (Or.inl ⟨rfl, h_r, ix_of (by omega) (by assumption) (by assumption)⟩) hP hK hD hS dX0_isPort_22
  · refine lv_if_eq (tgt := 21) hx hb dX0_isPort_5 (by decide) (fun c_5 => ?_) (fun c_5 => absurd c_5 (by decide))
    refine lv_iconst (v := 0) hx hb dX0_isPort_21 (by decide) ?_
    exact xr_z hx hb hr hlocks rfl () (Or.inr ⟨rfl, fun h => by first | exact hn h.2 | exact h_r h.1⟩) hP hK hD hS dX0_isPort_22
set_option maxHeartbeats 4000000 in
set_option maxRecDepth 100000 in
theorem k_X1_isPlace (l : Launch) (D : va_G) (ad : Nat → Nat) (tt : Nat → ClassId) (R : Nat) (w c k d : Nat → Int32) (wp wr : Int32) (x y : Int32) (hR : R ≤ 10) : xMi l yX1_isPlace wsX1_isPlace { frames := 1, cells := 0, slots := 0, locals := 21 } D (tyM tt) [.ref (ad 0), .int x, .int y] (mw ad tt R w c k d wp wr) (fun _ : Unit => mw ad tt R w c k d wp wr) (fun v _ => (v = 1 ∧ ix x R ∧ ix y 4) ∨ (v = 0 ∧ ¬ (ix x R ∧ ix y 4))) := by
  refine xe_i (cc := cX1_isPlace) (maxL := 3) (ret := (some .boolean)) (lvl := [(0, .ref (ad 0)), (1, .int x), (2, .int y)]) (by decide) rfl (Nat.le_of_ble_eq_true rfl) rfl ?_
  intro p e s m below meth cd A ls hx hb hr hlocks hml hown hts hA hP hK hD hS hl
  have hin : ∀ w ∈ wsX10, w ∈ wsX1_isPlace := fun _ h => List.mem_cons_of_mem _ (List.mem_append_right _ h)
  have S0 : CallFix p m cd cX1_isPlace 3 s (([.ref (ad 0), .int x, .int y] : List Value).toArray) wsX1_isPlace RX1 := ⟨hx, hb, hml, hown, hts⟩
  obtain ⟨H, hH⟩ : ∃ H, H = s.heap := ⟨_, rfl⟩
  obtain ⟨locs, hlocs⟩ : ∃ q : List Loc, q = [] := ⟨_, rfl⟩
  have hP : va_P D vwCl (mw ad tt R w c k d wp wr) H := by rw [hH]; exact hP
  have hS : va_S A s.heap H locs := by rw [hH, hlocs]; exact hS
  suffices hgo : W p l e (headSpec wsX1_isPlace ({ frames := 1, cells := 0, slots := 0, locals := 21 } : Room)).room s m (([.ref (ad 0), .int x, .int y] : List Value).toArray) below meth cd H locs 0 0 (MQ below (va_Qi (fun v _ => (v = 1 ∧ ix x R ∧ ix y 4) ∨ (v = 0 ∧ ¬ (ix x R ∧ ix y 4))) (xB D (tyM tt) A (fun _ : Unit => mw ad tt R w c k d wp wr)) A) ([.ref (ad 0), .int x, .int y] : List Value).toArray s 0 0 A) (F0 m 0 ls []) by rw [hH, hlocs] at hgo; exact hgo
  clear hH hlocs
  refine lv_aload_n hx hb dX1_isPlace_0 rfl (lv_at hl 0 rfl) ?_
  refine lv_iload_n hx hb dX1_isPlace_1 rfl (lv_at hl 1 rfl) ?_
  refine xs_Vi (wr := []) (q0 := 0) (ci := 1) (nA := 1) (As := [.int x]) (rest := []) S0 (k_X1_isRouter l D ad tt R w c k d wp wr x hR) gX1_isPlace_X1_isRouter rfl ⟨rfl, rfl⟩ (by decide +kernel) rfl ⟨Nat.le_of_ble_eq_true rfl, Nat.le_of_ble_eq_true rfl⟩ ⟨Nat.le_of_ble_eq_true rfl, Nat.le_of_ble_eq_true rfl⟩ hK hP hD hS hA [0, 1, 2, 3, 4] [] rfl rfl (by decide) (by decide) (by decide) rfl rfl rfl hl.1 rfl (Nat.le_of_ble_eq_true rfl) dX1_isPlace_2 (fun r_1 u H locs hw hP hD hS => ?_)
  have hP : va_P D vwCl (mw ad tt R w c k d wp wr) H := hP
  have hD : va_D A (mw ad tt R w c k d wp wr) := hD
  rcases hw with ⟨rfl, h_r⟩ | ⟨rfl, h_r⟩
  · refine lv_if_eq (tgt := 21) hx hb dX1_isPlace_5 (by decide) (fun c_2 => absurd c_2 (by decide)) (fun c_2 => ?_)
    refine lv_iload_n hx hb dX1_isPlace_8 rfl (lv_at hl 2 rfl) ?_
    refine lv_if_lt (tgt := 21) hx hb dX1_isPlace_9 (by decide) (fun c_3 => ?_) (fun c_3 => ?_)
    · have hn := ix_n0 (n := 4) (by omega) c_3
      refine lv_iconst (v := 0) hx hb dX1_isPlace_21 (by decide) ?_
      exact xr_z hx hb hr hlocks rfl () (Or.inr ⟨rfl, fun h => by first | exact hn h.2 | exact h_r h.1⟩) hP hK hD hS dX1_isPlace_22
    · refine lv_iload_n hx hb dX1_isPlace_12 rfl (lv_at hl 2 rfl) ?_
      refine lv_iconst (v := 4) hx hb dX1_isPlace_13 (by decide) ?_
      refine lv_icmp_ge (tgt := 21) hx hb dX1_isPlace_14 (by decide) (fun c_4 => ?_) (fun c_4 => ?_)
      · have hn := ix_n1 (n := 4) (by omega) c_4
        refine lv_iconst (v := 0) hx hb dX1_isPlace_21 (by decide) ?_
        exact xr_z hx hb hr hlocks rfl () (Or.inr ⟨rfl, fun h => by first | exact hn h.2 | exact h_r h.1⟩) hP hK hD hS dX1_isPlace_22
      · refine lv_iconst (v := 1) hx hb dX1_isPlace_17 (by decide) ?_
        refine lv_goto (tgt := 22) hx hb dX1_isPlace_18 (by decide) ?_
        exact xr_z hx hb hr hlocks rfl () (Or.inl ⟨rfl, h_r, ix_of (by omega) (by assumption) (by assumption)⟩) hP hK hD hS dX1_isPlace_22
  · refine lv_if_eq (tgt := 21) hx hb dX1_isPlace_5 (by decide) (fun c_5 => ?_) (fun c_5 => absurd c_5 (by decide))
    refine lv_iconst (v := 0) hx hb dX1_isPlace_21 (by decide) ?_
    exact xr_z hx hb hr hlocks rfl () (Or.inr ⟨rfl, fun h => by first | exact hn h.2 | exact h_r h.1⟩) hP hK hD hS dX1_isPlace_22
set_option maxHeartbeats 4000000 in
set_option maxRecDepth 100000 in
theorem k_X0_isUp (l : Launch) (D : va_G) (ad : Nat → Nat) (tt : Nat → ClassId) (R : Nat) (w c k d n : Nat → Int32) (wp wr : Int32) (x : Int32) : xMi l yX0_isUp wsX0_isUp { frames := 1, cells := 0, slots := 0, locals := 20 } D (tyX tt) [.ref (ad 0), .int x] (xw ad tt R w c k d n wp wr) (fun _ : Unit => xw ad tt R w c k d n wp wr) (fun v _ => (v = 1 ∧ upw k x) ∨ (v = 0 ∧ ¬ upw k x)) := by
  refine xe_i (cc := cX0_isUp) (maxL := 2) (ret := (some .boolean)) (lvl := [(0, .ref (ad 0)), (1, .int x)]) (by decide) rfl (Nat.le_of_ble_eq_true rfl) rfl ?_
  intro p e s m below meth cd A ls hx hb hr hlocks hml hown hts hA hP hK hD hS hl
  have hin : ∀ w ∈ wsX00, w ∈ wsX0_isUp := fun _ h => List.mem_cons_of_mem _ (List.mem_append_right _ h)
  have S0 : CallFix p m cd cX0_isUp 2 s (([.ref (ad 0), .int x] : List Value).toArray) wsX0_isUp RX0 := ⟨hx, hb, hml, hown, hts⟩
  obtain ⟨H, hH⟩ : ∃ H, H = s.heap := ⟨_, rfl⟩
  obtain ⟨locs, hlocs⟩ : ∃ q : List Loc, q = [] := ⟨_, rfl⟩
  have hP : va_P D vwCl (xw ad tt R w c k d n wp wr) H := by rw [hH]; exact hP
  have hS : va_S A s.heap H locs := by rw [hH, hlocs]; exact hS
  suffices hgo : W p l e (headSpec wsX0_isUp ({ frames := 1, cells := 0, slots := 0, locals := 20 } : Room)).room s m (([.ref (ad 0), .int x] : List Value).toArray) below meth cd H locs 0 0 (MQ below (va_Qi (fun v _ => (v = 1 ∧ upw k x) ∨ (v = 0 ∧ ¬ upw k x)) (xB D (tyX tt) A (fun _ : Unit => xw ad tt R w c k d n wp wr)) A) ([.ref (ad 0), .int x] : List Value).toArray s 0 0 A) (F0 m 0 ls []) by rw [hH, hlocs] at hgo; exact hgo
  clear hH hlocs
  have f_isCut := hts (.fieldLink RX0 29 "WireWays" "isCut" "[Z") (by decide +kernel)
  refine lv_iload_n hx hb dX0_isUp_0 rfl (lv_at hl 1 rfl) ?_
  refine xs_Si (nA := 1) (As := [.int x]) (rest := []) S0 (k_X0_isWire l D x) gX0_isUp_X0_isWire rfl ⟨rfl, rfl⟩ (by decide +kernel) rfl ⟨Nat.le_of_ble_eq_true rfl, Nat.le_of_ble_eq_true rfl⟩ ⟨Nat.le_of_ble_eq_true rfl, Nat.le_of_ble_eq_true rfl⟩ hK hP hD hS hA hl.1 rfl (Nat.le_of_ble_eq_true rfl) dX0_isUp_1 (fun r_1 H locs hw hP hD hS => ?_)
  rcases hw with ⟨rfl, h_w⟩ | ⟨rfl, h_w⟩
  · refine lv_if_eq (tgt := 20) hx hb dX0_isUp_4 (by decide) (fun c_2 => absurd c_2 (by decide)) (fun c_2 => ?_)
    obtain ⟨j, hj, ej⟩ := h_w
    refine lv_aload_n hx hb dX0_isUp_7 rfl (lv_at hl 0 rfl) ?_
    refine x0_get (v := .ref (ad 3)) S0 hin hK hP 3 (by decide) f_isCut rfl rfl dX0_isUp_8 ?_
    refine lv_iload_n hx hb dX0_isUp_11 rfl (lv_at hl 1 rfl) ?_
    refine va_zald hx hb hK hP 3 2 rfl rfl (ex_in ej (by omega) (by omega)) dX0_isUp_12 ?_
    refine xt_eq (z := k j) (congrArg k (ex_cl ej (by omega))) ?_
    refine lv_if_ne (tgt := 20) hx hb dX0_isUp_13 (by decide) (fun c_3 => ?_) (fun c_3 => ?_)
    · refine lv_iconst (v := 0) hx hb dX0_isUp_20 (by decide) ?_
      exact xr_z hx hb hr hlocks rfl () (Or.inr ⟨rfl, fun h => by first | exact h_w (upw_ix h) | exact absurd ((upw_iff ej hj).mp h) (by assumption)⟩) hP hK hD hS dX0_isUp_21
    · refine lv_iconst (v := 1) hx hb dX0_isUp_16 (by decide) ?_
      refine lv_goto (tgt := 21) hx hb dX0_isUp_17 (by decide) ?_
      exact xr_z hx hb hr hlocks rfl () (Or.inl ⟨rfl, (upw_iff ej hj).mpr (by assumption)⟩) hP hK hD hS dX0_isUp_21
  · refine lv_if_eq (tgt := 20) hx hb dX0_isUp_4 (by decide) (fun c_4 => ?_) (fun c_4 => absurd c_4 (by decide))
    refine lv_iconst (v := 0) hx hb dX0_isUp_20 (by decide) ?_
    exact xr_z hx hb hr hlocks rfl () (Or.inr ⟨rfl, fun h => by first | exact h_w (upw_ix h) | exact absurd ((upw_iff ej hj).mp h) (by assumption)⟩) hP hK hD hS dX0_isUp_21
set_option maxHeartbeats 4000000 in
set_option maxRecDepth 100000 in
theorem k_X0_portOn (l : Launch) (D : va_G) (ad : Nat → Nat) (tt : Nat → ClassId) (R : Nat) (w c k d n : Nat → Int32) (wp wr : Int32) (r : Nat) (x : Int32) (hr10 : r < 10) : xMi l yX0_portOn wsX0_portOn { frames := 1, cells := 0, slots := 0, locals := 21 } D (tyX tt) [.ref (ad 0), .int (nI r), .int x] (xw ad tt R w c k d n wp wr) (fun _ : Unit => xw ad tt R w c k d n wp wr) (fun v _ => ww_po w r x v) := by
  refine xe_i (cc := cX0_portOn) (maxL := 4) (ret := (some .int)) (lvl := [(0, .ref (ad 0)), (1, .int (nI r)), (2, .int x)]) (by decide) rfl (Nat.le_of_ble_eq_true rfl) rfl ?_
  intro p e s m below meth cd A ls hx hb hr hlocks hml hown hts hA hP hK hD hS hl
  have hin : ∀ w ∈ wsX00, w ∈ wsX0_portOn := fun _ h => List.mem_cons_of_mem _ (List.mem_append_right _ h)
  have S0 : CallFix p m cd cX0_portOn 4 s (([.ref (ad 0), .int (nI r), .int x] : List Value).toArray) wsX0_portOn RX0 := ⟨hx, hb, hml, hown, hts⟩
  obtain ⟨H, hH⟩ : ∃ H, H = s.heap := ⟨_, rfl⟩
  obtain ⟨locs, hlocs⟩ : ∃ q : List Loc, q = [] := ⟨_, rfl⟩
  have hP : va_P D vwCl (xw ad tt R w c k d n wp wr) H := by rw [hH]; exact hP
  have hS : va_S A s.heap H locs := by rw [hH, hlocs]; exact hS
  suffices hgo : W p l e (headSpec wsX0_portOn ({ frames := 1, cells := 0, slots := 0, locals := 21 } : Room)).room s m (([.ref (ad 0), .int (nI r), .int x] : List Value).toArray) below meth cd H locs 0 0 (MQ below (va_Qi (fun v _ => ww_po w r x v) (xB D (tyX tt) A (fun _ : Unit => xw ad tt R w c k d n wp wr)) A) ([.ref (ad 0), .int (nI r), .int x] : List Value).toArray s 0 0 A) (F0 m 0 ls []) by rw [hH, hlocs] at hgo; exact hgo
  clear hH hlocs
  have f_wireAt := hts (.fieldLink RX0 22 "WireWays" "wireAt" "[I") (by decide +kernel)
  refine lv_iconst (v := 0) hx hb dX0_portOn_0 (by decide) ?_
  refine lv_istore_n (lv' := [(3, .int 0), (0, .ref (ad 0)), (1, .int (nI r)), (2, .int x)]) hx hb dX0_portOn_1 rfl hl (by decide) rfl (fun ls hl => ?_)
  have lp2 : ∀ (fuel : Nat) (q : Nat), (q ≤ 4) → (∀ q', q' < q → w (4 * r + q') ≠ x) → 4 - q < fuel → ∀ (H : Heap) (locs : List Loc) (ls : Array Slot), va_P D vwCl (xw ad tt R w c k d n wp wr) H → va_D A (xw ad tt R w c k d n wp wr) → va_S A s.heap H locs → lv_has ls 4 [(3, .int (nI q)), (0, .ref (ad 0)), (1, .int (nI r)), (2, .int x)] → W p l e (headSpec wsX0_portOn ({ frames := 1, cells := 0, slots := 0, locals := 21 } : Room)).room s m ([.ref (ad 0), .int (nI r), .int x] : List Value).toArray below meth cd H locs 0 0 (MQ below (va_Qi (fun v _ => ww_po w r x v) (xB D (tyX tt) A (fun _ : Unit => xw ad tt R w c k d n wp wr)) A) ([.ref (ad 0), .int (nI r), .int x] : List Value).toArray s 0 0 A) (F0 m 2 ls []) := by
    intro fuel
    induction fuel with
    | zero => intro q hq hno hm; exact absurd hm (Nat.not_lt_zero _)
    | succ fuel ih2 =>
      intro q hq hno hm H locs ls hP hD hS hl
      refine lv_iload_n hx hb dX0_portOn_2 rfl (lv_at hl 0 rfl) ?_
      refine lv_iconst (v := 4) hx hb dX0_portOn_3 (by decide) ?_
      refine lv_icmp_ge (tgt := 29) hx hb dX0_portOn_4 (by decide) (fun c_1 => ?_) (fun c_1 => ?_)
      · have hq4 : 4 ≤ q := (nI_leI (a := 4) (by omega) (by omega)).mp c_1
        refine lv_iconst (v := (-1)) hx hb dX0_portOn_29 (by decide) ?_
        exact xr_i hx hb hr hlocks () (Or.inl ⟨rfl, fun q' h => hno q' (by omega)⟩) hP hK hD hS dX0_portOn_30
      · have hq4 : q < 4 := Nat.lt_of_not_le (fun h => c_1 (nI_le (a := 4) h (by omega)))
        refine lv_aload_n hx hb dX0_portOn_7 rfl (lv_at hl 1 rfl) ?_
        refine x0_get (v := .ref (ad 1)) S0 hin hK hP 1 (by decide) f_wireAt rfl rfl dX0_portOn_8 ?_
        refine lv_iload_n hx hb dX0_portOn_11 rfl (lv_at hl 2 rfl) ?_
        refine lv_iload_n hx hb dX0_portOn_12 rfl (lv_at hl 0 rfl) ?_
        refine xs_Si (nA := 2) (As := [.int (nI r), .int (nI q)]) (rest := [.ref (ad 1)]) S0 (k_X0_placeOf l D (nI r) (nI q)) gX0_portOn_X0_placeOf rfl ⟨rfl, rfl⟩ (by decide +kernel) rfl ⟨Nat.le_of_ble_eq_true rfl, Nat.le_of_ble_eq_true rfl⟩ ⟨Nat.le_of_ble_eq_true rfl, Nat.le_of_ble_eq_true rfl⟩ hK hP hD hS hA hl.1 rfl (Nat.le_of_ble_eq_true rfl) dX0_portOn_13 (fun r_2 H locs hw hP hD hS => ?_)
        have hw : r_2 = nI (4 * r + q) := by rw [hw]; exact nI_pl _ _
        subst hw
        refine va_iald hx hb hK hP 1 0 rfl rfl (vp_in_nI (by omega) (by omega)) dX0_portOn_16 ?_
        refine xt_eq (z := w (4 * r + q)) (congrArg w (nI_clamp (by omega))) ?_
        refine lv_iload_n hx hb dX0_portOn_17 rfl (lv_at hl 3 rfl) ?_
        refine lv_icmp_ne (tgt := 23) hx hb dX0_portOn_18 (by decide) (fun c_3 => ?_) (fun c_3 => ?_)
        · refine lv_iinc (v := nI (q + 1)) (lv' := [(3, .int (nI (q + 1))), (0, .ref (ad 0)), (1, .int (nI r)), (2, .int x)]) hx hb dX0_portOn_23 hl (k := 0) rfl (nI_1 q) (by decide) rfl (fun ls hl => ?_)
          refine lv_goto (tgt := 2) hx hb dX0_portOn_26 (by decide) ?_
          exact ih2 (q + 1) (by omega) (lt_s hno c_3) (by omega) H locs ls hP hD hS (lv_sub hl [0, 1, 2, 3] rfl)
        · refine lv_iload_n hx hb dX0_portOn_21 rfl (lv_at hl 0 rfl) ?_
          exact xr_i hx hb hr hlocks () (Or.inr ⟨q, hq4, rfl, c_3, hno⟩) hP hK hD hS dX0_portOn_22
  exact lp2 _ 0 (by omega) (fun q h => absurd h (Nat.not_lt_zero q)) (Nat.lt_succ_self _) H locs ls hP hD hS (lv_sub hl [0, 1, 2, 3] rfl)
set_option maxHeartbeats 4000000 in
set_option maxRecDepth 100000 in
theorem k_X1_portOn (l : Launch) (D : va_G) (ad : Nat → Nat) (tt : Nat → ClassId) (R : Nat) (w c k d : Nat → Int32) (wp wr : Int32) (r : Nat) (x : Int32) (hr10 : r < 10) : xMi l yX1_portOn wsX1_portOn { frames := 0, cells := 0, slots := 0, locals := 0 } D (tyM tt) [.ref (ad 0), .int (nI r), .int x] (mw ad tt R w c k d wp wr) (fun _ : Unit => mw ad tt R w c k d wp wr) (fun v _ => ww_po w r x v) := by
  refine xe_i (cc := cX1_portOn) (maxL := 4) (ret := (some .int)) (lvl := [(0, .ref (ad 0)), (1, .int (nI r)), (2, .int x)]) (by decide) rfl (Nat.le_of_ble_eq_true rfl) rfl ?_
  intro p e s m below meth cd A ls hx hb hr hlocks hml hown hts hA hP hK hD hS hl
  have hin : ∀ w ∈ wsX10, w ∈ wsX1_portOn := fun _ h => List.mem_cons_of_mem _ (List.mem_append_right _ h)
  have S0 : CallFix p m cd cX1_portOn 4 s (([.ref (ad 0), .int (nI r), .int x] : List Value).toArray) wsX1_portOn RX1 := ⟨hx, hb, hml, hown, hts⟩
  obtain ⟨H, hH⟩ : ∃ H, H = s.heap := ⟨_, rfl⟩
  obtain ⟨locs, hlocs⟩ : ∃ q : List Loc, q = [] := ⟨_, rfl⟩
  have hP : va_P D vwCl (mw ad tt R w c k d wp wr) H := by rw [hH]; exact hP
  have hS : va_S A s.heap H locs := by rw [hH, hlocs]; exact hS
  suffices hgo : W p l e (headSpec wsX1_portOn ({ frames := 0, cells := 0, slots := 0, locals := 0 } : Room)).room s m (([.ref (ad 0), .int (nI r), .int x] : List Value).toArray) below meth cd H locs 0 0 (MQ below (va_Qi (fun v _ => ww_po w r x v) (xB D (tyM tt) A (fun _ : Unit => mw ad tt R w c k d wp wr)) A) ([.ref (ad 0), .int (nI r), .int x] : List Value).toArray s 0 0 A) (F0 m 0 ls []) by rw [hH, hlocs] at hgo; exact hgo
  clear hH hlocs
  have f_wireOf := hts (.fieldLink RX1 7 "WireWaysModel" "wireOf" "[I") (by decide +kernel)
  refine lv_iconst (v := 0) hx hb dX1_portOn_0 (by decide) ?_
  refine lv_istore_n (lv' := [(3, .int 0), (0, .ref (ad 0)), (1, .int (nI r)), (2, .int x)]) hx hb dX1_portOn_1 rfl hl (by decide) rfl (fun ls hl => ?_)
  have lp2 : ∀ (fuel : Nat) (q : Nat), (q ≤ 4) → (∀ q', q' < q → w (4 * r + q') ≠ x) → 4 - q < fuel → ∀ (H : Heap) (locs : List Loc) (ls : Array Slot), va_P D vwCl (mw ad tt R w c k d wp wr) H → va_D A (mw ad tt R w c k d wp wr) → va_S A s.heap H locs → lv_has ls 4 [(3, .int (nI q)), (0, .ref (ad 0)), (1, .int (nI r)), (2, .int x)] → W p l e (headSpec wsX1_portOn ({ frames := 0, cells := 0, slots := 0, locals := 0 } : Room)).room s m ([.ref (ad 0), .int (nI r), .int x] : List Value).toArray below meth cd H locs 0 0 (MQ below (va_Qi (fun v _ => ww_po w r x v) (xB D (tyM tt) A (fun _ : Unit => mw ad tt R w c k d wp wr)) A) ([.ref (ad 0), .int (nI r), .int x] : List Value).toArray s 0 0 A) (F0 m 2 ls []) := by
    intro fuel
    induction fuel with
    | zero => intro q hq hno hm; exact absurd hm (Nat.not_lt_zero _)
    | succ fuel ih2 =>
      intro q hq hno hm H locs ls hP hD hS hl
      refine lv_iload_n hx hb dX1_portOn_2 rfl (lv_at hl 0 rfl) ?_
      refine lv_iconst (v := 4) hx hb dX1_portOn_3 (by decide) ?_
      refine lv_icmp_ge (tgt := 29) hx hb dX1_portOn_4 (by decide) (fun c_1 => ?_) (fun c_1 => ?_)
      · have hq4 : 4 ≤ q := (nI_leI (a := 4) (by omega) (by omega)).mp c_1
        refine lv_iconst (v := (-1)) hx hb dX1_portOn_29 (by decide) ?_
        exact xr_i hx hb hr hlocks () (Or.inl ⟨rfl, fun q' h => hno q' (by omega)⟩) hP hK hD hS dX1_portOn_30
      · have hq4 : q < 4 := Nat.lt_of_not_le (fun h => c_1 (nI_le (a := 4) h (by omega)))
        refine lv_aload_n hx hb dX1_portOn_7 rfl (lv_at hl 1 rfl) ?_
        refine x1_get (v := .ref (ad 1)) S0 hin hK hP 1 (by decide) f_wireOf rfl rfl dX1_portOn_8 ?_
        refine lv_iconst (v := 4) hx hb dX1_portOn_11 (by decide) ?_
        refine lv_iload_n hx hb dX1_portOn_12 rfl (lv_at hl 2 rfl) ?_
        refine lv_imul hx hb dX1_portOn_13 ?_
        refine lv_iload_n hx hb dX1_portOn_14 rfl (lv_at hl 0 rfl) ?_
        refine lv_iadd hx hb dX1_portOn_15 ?_
        refine xt_eq (z := nI (4 * r + q)) (nI_lp r q) ?_
        refine va_iald hx hb hK hP 1 0 rfl rfl (vp_in_nI (by omega) (by omega)) dX1_portOn_16 ?_
        refine xt_eq (z := w (4 * r + q)) (congrArg w (nI_clamp (by omega))) ?_
        refine lv_iload_n hx hb dX1_portOn_17 rfl (lv_at hl 3 rfl) ?_
        refine lv_icmp_ne (tgt := 23) hx hb dX1_portOn_18 (by decide) (fun c_2 => ?_) (fun c_2 => ?_)
        · refine lv_iinc (v := nI (q + 1)) (lv' := [(3, .int (nI (q + 1))), (0, .ref (ad 0)), (1, .int (nI r)), (2, .int x)]) hx hb dX1_portOn_23 hl (k := 0) rfl (nI_1 q) (by decide) rfl (fun ls hl => ?_)
          refine lv_goto (tgt := 2) hx hb dX1_portOn_26 (by decide) ?_
          exact ih2 (q + 1) (by omega) (lt_s hno c_2) (by omega) H locs ls hP hD hS (lv_sub hl [0, 1, 2, 3] rfl)
        · refine lv_iload_n hx hb dX1_portOn_21 rfl (lv_at hl 0 rfl) ?_
          exact xr_i hx hb hr hlocks () (Or.inr ⟨q, hq4, rfl, c_2, hno⟩) hP hK hD hS dX1_portOn_22
  exact lp2 _ 0 (by omega) (fun q h => absurd h (Nat.not_lt_zero q)) (Nat.lt_succ_self _) H locs ls hP hD hS (lv_sub hl [0, 1, 2, 3] rfl)
set_option maxHeartbeats 4000000 in
set_option maxRecDepth 100000 in
theorem k_X0_isPluggedPort (l : Launch) (D : va_G) (ad : Nat → Nat) (tt : Nat → ClassId) (R : Nat) (w c k d n : Nat → Int32) (wp wr : Int32) (x y : Int32) (hR : R ≤ 10) : xMi l yX0_isPluggedPort wsX0_isPluggedPort { frames := 2, cells := 0, slots := 0, locals := 43 } D (tyX tt) [.ref (ad 0), .int x, .int y] (xw ad tt R w c k d n wp wr) (fun _ : Unit => xw ad tt R w c k d n wp wr) (fun v _ => (v = 1 ∧ plg R w x y) ∨ (v = 0 ∧ ¬ plg R w x y)) := by
  refine xe_i (cc := cX0_isPluggedPort) (maxL := 3) (ret := (some .boolean)) (lvl := [(0, .ref (ad 0)), (1, .int x), (2, .int y)]) (by decide) rfl (Nat.le_of_ble_eq_true rfl) rfl ?_
  intro p e s m below meth cd A ls hx hb hr hlocks hml hown hts hA hP hK hD hS hl
  have hin : ∀ w ∈ wsX00, w ∈ wsX0_isPluggedPort := fun _ h => List.mem_cons_of_mem _ (List.mem_append_right _ h)
  have S0 : CallFix p m cd cX0_isPluggedPort 3 s (([.ref (ad 0), .int x, .int y] : List Value).toArray) wsX0_isPluggedPort RX0 := ⟨hx, hb, hml, hown, hts⟩
  obtain ⟨H, hH⟩ : ∃ H, H = s.heap := ⟨_, rfl⟩
  obtain ⟨locs, hlocs⟩ : ∃ q : List Loc, q = [] := ⟨_, rfl⟩
  have hP : va_P D vwCl (xw ad tt R w c k d n wp wr) H := by rw [hH]; exact hP
  have hS : va_S A s.heap H locs := by rw [hH, hlocs]; exact hS
  suffices hgo : W p l e (headSpec wsX0_isPluggedPort ({ frames := 2, cells := 0, slots := 0, locals := 43 } : Room)).room s m (([.ref (ad 0), .int x, .int y] : List Value).toArray) below meth cd H locs 0 0 (MQ below (va_Qi (fun v _ => (v = 1 ∧ plg R w x y) ∨ (v = 0 ∧ ¬ plg R w x y)) (xB D (tyX tt) A (fun _ : Unit => xw ad tt R w c k d n wp wr)) A) ([.ref (ad 0), .int x, .int y] : List Value).toArray s 0 0 A) (F0 m 0 ls []) by rw [hH, hlocs] at hgo; exact hgo
  clear hH hlocs
  have f_wireAt := hts (.fieldLink RX0 22 "WireWays" "wireAt" "[I") (by decide +kernel)
  refine lv_aload_n hx hb dX0_isPluggedPort_0 rfl (lv_at hl 0 rfl) ?_
  refine lv_iload_n hx hb dX0_isPluggedPort_1 rfl (lv_at hl 1 rfl) ?_
  refine lv_iload_n hx hb dX0_isPluggedPort_2 rfl (lv_at hl 2 rfl) ?_
  refine xs_Vi (wr := []) (q0 := 0) (ci := 0) (nA := 2) (As := [.int x, .int y]) (rest := []) S0 (k_X0_isPort l D ad tt R w c k d n wp wr x y hR) gX0_isPluggedPort_X0_isPort rfl ⟨rfl, rfl⟩ (by decide +kernel) rfl ⟨Nat.le_of_ble_eq_true rfl, Nat.le_of_ble_eq_true rfl⟩ ⟨Nat.le_of_ble_eq_true rfl, Nat.le_of_ble_eq_true rfl⟩ hK hP hD hS hA [0, 1, 2, 3, 4, 5] [] rfl rfl (by decide) (by decide) (by decide) rfl rfl rfl hl.1 rfl (Nat.le_of_ble_eq_true rfl) dX0_isPluggedPort_3 (fun r_1 u H locs hw hP hD hS => ?_)
  have hP : va_P D vwCl (xw ad tt R w c k d n wp wr) H := hP
  have hD : va_D A (xw ad tt R w c k d n wp wr) := hD
  rcases hw with ⟨rfl, h_p⟩ | ⟨rfl, h_p⟩
  · refine lv_if_eq (tgt := 29) hx hb dX0_isPluggedPort_6 (by decide) (fun c_2 => absurd c_2 (by decide)) (fun c_2 => ?_)
    obtain ⟨⟨i, hi, ei⟩, ⟨j, hj, ej⟩⟩ := h_p
    refine lv_aload_n hx hb dX0_isPluggedPort_9 rfl (lv_at hl 0 rfl) ?_
    refine x0_get (v := .ref (ad 1)) S0 hin hK hP 1 (by decide) f_wireAt rfl rfl dX0_isPluggedPort_10 ?_
    refine lv_iload_n hx hb dX0_isPluggedPort_13 rfl (lv_at hl 1 rfl) ?_
    refine lv_iload_n hx hb dX0_isPluggedPort_14 rfl (lv_at hl 2 rfl) ?_
    refine xs_Si (nA := 2) (As := [.int x, .int y]) (rest := [.ref (ad 1)]) S0 (k_X0_placeOf l D x y) gX0_isPluggedPort_X0_placeOf rfl ⟨rfl, rfl⟩ (by decide +kernel) rfl ⟨Nat.le_of_ble_eq_true rfl, Nat.le_of_ble_eq_true rfl⟩ ⟨Nat.le_of_ble_eq_true rfl, Nat.le_of_ble_eq_true rfl⟩ hK hP hD hS hA hl.1 rfl (Nat.le_of_ble_eq_true rfl) dX0_isPluggedPort_15 (fun r_3 H locs hw hP hD hS => ?_)
    have hw : r_3 = nI (4 * i + j) := by rw [hw, ei, ej]; exact nI_pl _ _
    subst hw
    refine va_iald hx hb hK hP 1 0 rfl rfl (vp_in_nI (by omega) (by omega)) dX0_isPluggedPort_18 ?_
    refine xt_eq (z := w (4 * i + j)) (congrArg w (nI_clamp (by omega))) ?_
    refine xs_Si (nA := 1) (As := [.int (w (4 * i + j))]) (rest := []) S0 (k_X0_isWire l D (w (4 * i + j))) gX0_isPluggedPort_X0_isWire rfl ⟨rfl, rfl⟩ (by decide +kernel) rfl ⟨Nat.le_of_ble_eq_true rfl, Nat.le_of_ble_eq_true rfl⟩ ⟨Nat.le_of_ble_eq_true rfl, Nat.le_of_ble_eq_true rfl⟩ hK hP hD hS hA hl.1 rfl (Nat.le_of_ble_eq_true rfl) dX0_isPluggedPort_19 (fun r_4 H locs hw hP hD hS => ?_)
    rcases hw with ⟨rfl, h_w⟩ | ⟨rfl, h_w⟩
    · refine lv_if_eq (tgt := 29) hx hb dX0_isPluggedPort_22 (by decide) (fun c_5 => absurd c_5 (by decide)) (fun c_5 => ?_)
      refine lv_iconst (v := 1) hx hb dX0_isPluggedPort_25 (by decide) ?_
      refine lv_goto (tgt := 30) hx hb dX0_isPluggedPort_26 (by decide) ?_
      exact xr_z hx hb hr hlocks rfl () (Or.inl ⟨rfl, (plg_iff hR hi hj ei ej).mpr h_w⟩) hP hK hD hS dX0_isPluggedPort_30
    · refine lv_if_eq (tgt := 29) hx hb dX0_isPluggedPort_22 (by decide) (fun c_6 => ?_) (fun c_6 => absurd c_6 (by decide))
      refine lv_iconst (v := 0) hx hb dX0_isPluggedPort_29 (by decide) ?_
      exact xr_z hx hb hr hlocks rfl () (Or.inr ⟨rfl, fun h => by first | exact h_p (plg_ix h) | exact h_w ((plg_iff hR hi hj ei ej).mp h)⟩) hP hK hD hS dX0_isPluggedPort_30
  · refine lv_if_eq (tgt := 29) hx hb dX0_isPluggedPort_6 (by decide) (fun c_7 => ?_) (fun c_7 => absurd c_7 (by decide))
    refine lv_iconst (v := 0) hx hb dX0_isPluggedPort_29 (by decide) ?_
    exact xr_z hx hb hr hlocks rfl () (Or.inr ⟨rfl, fun h => by first | exact h_p (plg_ix h) | exact h_w ((plg_iff hR hi hj ei ej).mp h)⟩) hP hK hD hS dX0_isPluggedPort_30
set_option maxHeartbeats 4000000 in
set_option maxRecDepth 100000 in
theorem k_X0_isAim (l : Launch) (D : va_G) (ad : Nat → Nat) (tt : Nat → ClassId) (R : Nat) (w c k d n : Nat → Int32) (wp wr : Int32) (ov t : Int32) (hR : R ≤ 10) : xMi l yX0_isAim wsX0_isAim { frames := 2, cells := 0, slots := 0, locals := 41 } D (tyX tt) [.ref (ad 0), .int ov, .int t] (xw ad tt R w c k d n wp wr) (fun _ : Unit => xw ad tt R w c k d n wp wr) (fun v _ => (v = 1 ∧ aim R k ov t) ∨ (v = 0 ∧ ¬ aim R k ov t)) := by
  refine xe_i (cc := cX0_isAim) (maxL := 3) (ret := (some .boolean)) (lvl := [(0, .ref (ad 0)), (1, .int ov), (2, .int t)]) (by decide) rfl (Nat.le_of_ble_eq_true rfl) rfl ?_
  intro p e s m below meth cd A ls hx hb hr hlocks hml hown hts hA hP hK hD hS hl
  have hin : ∀ w ∈ wsX00, w ∈ wsX0_isAim := fun _ h => List.mem_cons_of_mem _ (List.mem_append_right _ h)
  have S0 : CallFix p m cd cX0_isAim 3 s (([.ref (ad 0), .int ov, .int t] : List Value).toArray) wsX0_isAim RX0 := ⟨hx, hb, hml, hown, hts⟩
  obtain ⟨H, hH⟩ : ∃ H, H = s.heap := ⟨_, rfl⟩
  obtain ⟨locs, hlocs⟩ : ∃ q : List Loc, q = [] := ⟨_, rfl⟩
  have hP : va_P D vwCl (xw ad tt R w c k d n wp wr) H := by rw [hH]; exact hP
  have hS : va_S A s.heap H locs := by rw [hH, hlocs]; exact hS
  suffices hgo : W p l e (headSpec wsX0_isAim ({ frames := 2, cells := 0, slots := 0, locals := 41 } : Room)).room s m (([.ref (ad 0), .int ov, .int t] : List Value).toArray) below meth cd H locs 0 0 (MQ below (va_Qi (fun v _ => (v = 1 ∧ aim R k ov t) ∨ (v = 0 ∧ ¬ aim R k ov t)) (xB D (tyX tt) A (fun _ : Unit => xw ad tt R w c k d n wp wr)) A) ([.ref (ad 0), .int ov, .int t] : List Value).toArray s 0 0 A) (F0 m 0 ls []) by rw [hH, hlocs] at hgo; exact hgo
  clear hH hlocs
  refine lv_iload_n hx hb dX0_isAim_0 rfl (lv_at hl 1 rfl) ?_
  refine lv_if_eq (tgt := 12) hx hb dX0_isAim_1 (by decide) (fun c_1 => ?_) (fun c_1 => ?_)
  · refine lv_aload_n hx hb dX0_isAim_12 rfl (lv_at hl 0 rfl) ?_
    refine lv_iload_n hx hb dX0_isAim_13 rfl (lv_at hl 2 rfl) ?_
    refine xs_Vi (wr := []) (q0 := 0) (ci := 0) (nA := 1) (As := [.int t]) (rest := []) S0 (k_X0_isRouter l D ad tt R w c k d n wp wr t hR) gX0_isAim_X0_isRouter rfl ⟨rfl, rfl⟩ (by decide +kernel) rfl ⟨Nat.le_of_ble_eq_true rfl, Nat.le_of_ble_eq_true rfl⟩ ⟨Nat.le_of_ble_eq_true rfl, Nat.le_of_ble_eq_true rfl⟩ hK hP hD hS hA [0, 1, 2, 3, 4, 5] [] rfl rfl (by decide) (by decide) (by decide) rfl rfl rfl hl.1 rfl (Nat.le_of_ble_eq_true rfl) dX0_isAim_14 (fun r_2 u H locs hw hP hD hS => ?_)
    have hP : va_P D vwCl (xw ad tt R w c k d n wp wr) H := hP
    have hD : va_D A (xw ad tt R w c k d n wp wr) := hD
    rcases hw with ⟨rfl, h_r⟩ | ⟨rfl, h_r⟩
    · exact xr_z hx hb hr hlocks rfl () (Or.inl ⟨rfl, by first | exact ⟨fun _ => h_u, fun h => absurd h (by assumption)⟩ | exact ⟨fun h => absurd (by assumption) h, fun _ => h_r⟩⟩) hP hK hD hS dX0_isAim_17
    · exact xr_z hx hb hr hlocks rfl () (Or.inr ⟨rfl, fun h => by first | exact h_u (h.1 (by assumption)) | exact h_r (h.2 (by assumption))⟩) hP hK hD hS dX0_isAim_17
  · refine lv_aload_n hx hb dX0_isAim_4 rfl (lv_at hl 0 rfl) ?_
    refine lv_iload_n hx hb dX0_isAim_5 rfl (lv_at hl 2 rfl) ?_
    refine xs_Vi (wr := []) (q0 := 0) (ci := 0) (nA := 1) (As := [.int t]) (rest := []) S0 (k_X0_isUp l D ad tt R w c k d n wp wr t) gX0_isAim_X0_isUp rfl ⟨rfl, rfl⟩ (by decide +kernel) rfl ⟨Nat.le_of_ble_eq_true rfl, Nat.le_of_ble_eq_true rfl⟩ ⟨Nat.le_of_ble_eq_true rfl, Nat.le_of_ble_eq_true rfl⟩ hK hP hD hS hA [0, 1, 2, 3, 4, 5] [] rfl rfl (by decide) (by decide) (by decide) rfl rfl rfl hl.1 rfl (Nat.le_of_ble_eq_true rfl) dX0_isAim_6 (fun r_3 u H locs hw hP hD hS => ?_)
    have hP : va_P D vwCl (xw ad tt R w c k d n wp wr) H := hP
    have hD : va_D A (xw ad tt R w c k d n wp wr) := hD
    rcases hw with ⟨rfl, h_u⟩ | ⟨rfl, h_u⟩
    · refine lv_goto (tgt := 17) hx hb dX0_isAim_9 (by decide) ?_
      exact xr_z hx hb hr hlocks rfl () (Or.inl ⟨rfl, by first | exact ⟨fun _ => h_u, fun h => absurd h (by assumption)⟩ | exact ⟨fun h => absurd (by assumption) h, fun _ => h_r⟩⟩) hP hK hD hS dX0_isAim_17
    · refine lv_goto (tgt := 17) hx hb dX0_isAim_9 (by decide) ?_
      exact xr_z hx hb hr hlocks rfl () (Or.inr ⟨rfl, fun h => by first | exact h_u (h.1 (by assumption)) | exact h_r (h.2 (by assumption))⟩) hP hK hD hS dX0_isAim_17
end
section
/-! What the calls that change something answer and do: one relation for both sides. -/
def plc (R : Nat) (w : Nat → Int32) (x y z q : Int32) (i j : Nat) : Prop := i < R ∧ j < 4 ∧ x = nI i ∧ y = nI j ∧ ix z 16 ∧ okc q ∧ w (4 * i + j) = -1 ∧ ¬ ww_on w i z
def drc (R : Nat) (w : Nat → Int32) (x y : Int32) (i j : Nat) : Prop := i < R ∧ j < 4 ∧ x = nI i ∧ y = nI j ∧ w (4 * i + j) ≠ -1
def r_plug (R : Nat) (w c : Nat → Int32) (x y z q v : Int32) (u : (Nat → Int32) × (Nat → Int32)) : Prop := (v = 1 ∧ ∃ i j, plc R w x y z q i j ∧ u.1 = upd w (4 * i + j) z ∧ u.2 = upd c (4 * i + j) q) ∨ (v = 0 ∧ (¬ ∃ i j, plc R w x y z q i j) ∧ u.1 = w ∧ u.2 = c)
def r_draw (R : Nat) (w : Nat → Int32) (x y v : Int32) (u : Nat → Int32) : Prop := (v = 1 ∧ ∃ i j, drc R w x y i j ∧ u = upd w (4 * i + j) (-1)) ∨ (v = 0 ∧ (¬ ∃ i j, drc R w x y i j) ∧ u = w)
def r_cost (R : Nat) (w c : Nat → Int32) (x y q v : Int32) (u : Nat → Int32) : Prop := (∃ i j, drc R w x y i j ∧ okc q ∧ v = c (4 * i + j) ∧ u = upd c (4 * i + j) q) ∨ (v = -1 ∧ (¬ ((∃ i j, drc R w x y i j) ∧ okc q)) ∧ u = c)
def r_cut (k : Nat → Int32) (z v : Int32) (u : Nat → Int32) : Prop := (v = 1 ∧ ∃ a, a < 16 ∧ z = nI a ∧ k a = 0 ∧ u = upd k a 1) ∨ (v = 0 ∧ (¬ ∃ a, a < 16 ∧ z = nI a ∧ k a = 0) ∧ u = k)
def r_mend (k : Nat → Int32) (z v : Int32) (u : Nat → Int32) : Prop := (v = 1 ∧ ∃ a, a < 16 ∧ z = nI a ∧ k a ≠ 0 ∧ u = upd k a 0) ∨ (v = 0 ∧ (¬ ∃ a, a < 16 ∧ z = nI a ∧ k a ≠ 0) ∧ u = k)
section
variable {R : Nat} {w c k : Nat → Int32} {x y z q v v' : Int32} {i j : Nat}
theorem plc_p (h : ∃ i j, plc R w x y z q i j) : ix x R ∧ ix y 4 := by
  obtain ⟨i, j, h1, h2, h3, h4, -⟩ := h
  exact ⟨⟨i, h1, h3⟩, ⟨j, h2, h4⟩⟩
theorem plc_w (h : ∃ i j, plc R w x y z q i j) : ix z 16 := by
  obtain ⟨i, j, h1, h2, h3, h4, h5, -⟩ := h
  exact h5
theorem plc_c (h : ∃ i j, plc R w x y z q i j) : okc q := by
  obtain ⟨i, j, h1, h2, h3, h4, h5, h6, -⟩ := h
  exact h6
theorem nI_ij {i j i' j' : Nat} (hR : R ≤ 10) (hi : i < R) (hj : j < 4) (hi' : i' < R) (hj' : j' < 4) (e1 : nI i = nI i') (e2 : nI j = nI j') : i = i' ∧ j = j' := ⟨(nI_eq (by omega) (by omega)).mp e1, (nI_eq (by omega) (by omega)).mp e2⟩
theorem plc_e (hR : R ≤ 10) (hi : i < R) (hj : j < 4) (h : ∃ i' j', plc R w (nI i) (nI j) z q i' j') : w (4 * i + j) = -1 ∧ ¬ ww_on w i z := by
  obtain ⟨i', j', h1, h2, h3, h4, h5, h6, h7, h8⟩ := h
  obtain ⟨rfl, rfl⟩ := nI_ij hR hi hj h1 h2 h3 h4
  exact ⟨h7, h8⟩
theorem drc_p (h : ∃ i j, drc R w x y i j) : ix x R ∧ ix y 4 := by
  obtain ⟨i, j, h1, h2, h3, h4, -⟩ := h
  exact ⟨⟨i, h1, h3⟩, ⟨j, h2, h4⟩⟩
theorem drc_e (hR : R ≤ 10) (hi : i < R) (hj : j < 4) (h : ∃ i' j', drc R w (nI i) (nI j) i' j') : w (4 * i + j) ≠ -1 := by
  obtain ⟨i', j', h1, h2, h3, h4, h5⟩ := h
  obtain ⟨rfl, rfl⟩ := nI_ij hR hi hj h1 h2 h3 h4
  exact h5
theorem drc_plg (hR : R ≤ 10) (hW : ∀ a, a < 40 → w a = -1 ∨ ix (w a) 16) (h : ∃ i j, drc R w x y i j) : plg R w x y := by
  obtain ⟨i, j, h1, h2, h3, h4, h5⟩ := h
  exact ⟨i, j, h1, h2, h3, h4, (hW _ (by omega)).resolve_left h5⟩
theorem ix_m1 {a : Int32} (h : ix a 16) : a ≠ -1 := fun e => ix_nm (n := 16) (by omega) (e ▸ h)
theorem ww_on_of {r v : Nat} {x a : Int32} (h : ww_po w r x a) (hn : ¬ a = -1) : ww_on w r x := by
  apply Classical.byContradiction
  intro h1
  exact hn ((ww_po_on h).mpr h1)
theorem okc_ofle {x : Int32} (h1 : ¬ x < 1) (h9 : x ≤ 9) : okc x := okc_of h1 (fun h => by
  rw [Int32.lt_iff_toInt_lt] at h
  rw [Int32.le_iff_toInt_le] at h9
  omega)
theorem okc_nle {x : Int32} (h : ¬ x ≤ 9) : ¬ okc x := okc_n1 (by
  rw [Int32.le_iff_toInt_le] at h
  rw [Int32.lt_iff_toInt_lt]
  omega)
theorem cut_w (h : ∃ a, a < 16 ∧ z = nI a ∧ k a = 0) : ix z 16 := by
  obtain ⟨a, h1, h2, -⟩ := h
  exact ⟨a, h1, h2⟩
theorem cut_e {a : Nat} (ha : a < 16) (h : ∃ b, b < 16 ∧ nI a = nI b ∧ k b = 0) : k a = 0 := by
  obtain ⟨b, h1, h2, h3⟩ := h
  have := (nI_eq (by omega) (by omega)).mp h2
  subst this
  exact h3
theorem mend_w (h : ∃ a, a < 16 ∧ z = nI a ∧ k a ≠ 0) : ix z 16 := by
  obtain ⟨a, h1, h2, -⟩ := h
  exact ⟨a, h1, h2⟩
theorem mend_e {a : Nat} (ha : a < 16) (h : ∃ b, b < 16 ∧ nI a = nI b ∧ k b ≠ 0) : k a ≠ 0 := by
  obtain ⟨b, h1, h2, h3⟩ := h
  have := (nI_eq (by omega) (by omega)).mp h2
  subst this
  exact h3
theorem vn_1 : vp_nar .boolean 1 = 1 := by decide
theorem vn_0 : vp_nar .boolean 0 = 0 := by decide
theorem r_plug_one (hR : R ≤ 10) {u u' : (Nat → Int32) × (Nat → Int32)} (h : r_plug R w c x y z q v u) (h' : r_plug R w c x y z q v' u') : v = v' ∧ u = u' := by
  obtain ⟨u1, u2⟩ := u
  obtain ⟨t1, t2⟩ := u'
  rcases h with ⟨a1, i, j, a2, a3, a4⟩ | ⟨a1, a2, a3, a4⟩ <;> rcases h' with ⟨b1, i', j', b2, b3, b4⟩ | ⟨b1, b2, b3, b4⟩
  · obtain ⟨rfl, rfl⟩ := nI_ij hR a2.1 a2.2.1 b2.1 b2.2.1 (a2.2.2.1.symm.trans b2.2.2.1) (a2.2.2.2.1.symm.trans b2.2.2.2.1)
    dsimp only at a3 a4 b3 b4
    exact ⟨a1.trans b1.symm, by rw [a3, a4, b3, b4]⟩
  · exact absurd ⟨i, j, a2⟩ b2
  · exact absurd ⟨i', j', b2⟩ a2
  · dsimp only at a3 a4 b3 b4
    exact ⟨a1.trans b1.symm, by rw [a3, a4, b3, b4]⟩
theorem r_draw_one (hR : R ≤ 10) {u u' : Nat → Int32} (h : r_draw R w x y v u) (h' : r_draw R w x y v' u') : v = v' ∧ u = u' := by
  rcases h with ⟨a1, i, j, a2, a3⟩ | ⟨a1, a2, a3⟩ <;> rcases h' with ⟨b1, i', j', b2, b3⟩ | ⟨b1, b2, b3⟩
  · obtain ⟨rfl, rfl⟩ := nI_ij hR a2.1 a2.2.1 b2.1 b2.2.1 (a2.2.2.1.symm.trans b2.2.2.1) (a2.2.2.2.1.symm.trans b2.2.2.2.1)
    exact ⟨a1.trans b1.symm, by rw [a3, b3]⟩
  · exact absurd ⟨i, j, a2⟩ b2
  · exact absurd ⟨i', j', b2⟩ a2
  · exact ⟨a1.trans b1.symm, by rw [a3, b3]⟩
theorem r_cost_one (hR : R ≤ 10) {u u' : Nat → Int32} (h : r_cost R w c x y q v u) (h' : r_cost R w c x y q v' u') : v = v' ∧ u = u' := by
  rcases h with ⟨i, j, a2, a3, a4, a5⟩ | ⟨a1, a2, a3⟩ <;> rcases h' with ⟨i', j', b2, b3, b4, b5⟩ | ⟨b1, b2, b3⟩
  · obtain ⟨rfl, rfl⟩ := nI_ij hR a2.1 a2.2.1 b2.1 b2.2.1 (a2.2.2.1.symm.trans b2.2.2.1) (a2.2.2.2.1.symm.trans b2.2.2.2.1)
    exact ⟨a4.trans b4.symm, by rw [a5, b5]⟩
  · exact absurd ⟨⟨i, j, a2⟩, a3⟩ b2
  · exact absurd ⟨⟨i', j', b2⟩, b3⟩ a2
  · exact ⟨a1.trans b1.symm, by rw [a3, b3]⟩
theorem r_cut_one {u u' : Nat → Int32} (h : r_cut k z v u) (h' : r_cut k z v' u') : v = v' ∧ u = u' := by
  rcases h with ⟨a1, i, a2, a3, a4, a5⟩ | ⟨a1, a2, a3⟩ <;> rcases h' with ⟨b1, i', b2, b3, b4, b5⟩ | ⟨b1, b2, b3⟩
  · have := (nI_eq (by omega) (by omega)).mp (a3.symm.trans b3)
    subst this
    exact ⟨a1.trans b1.symm, by rw [a5, b5]⟩
  · exact absurd ⟨i, a2, a3, a4⟩ b2
  · exact absurd ⟨i', b2, b3, b4⟩ a2
  · exact ⟨a1.trans b1.symm, by rw [a3, b3]⟩
theorem r_mend_one {u u' : Nat → Int32} (h : r_mend k z v u) (h' : r_mend k z v' u') : v = v' ∧ u = u' := by
  rcases h with ⟨a1, i, a2, a3, a4, a5⟩ | ⟨a1, a2, a3⟩ <;> rcases h' with ⟨b1, i', b2, b3, b4, b5⟩ | ⟨b1, b2, b3⟩
  · have := (nI_eq (by omega) (by omega)).mp (a3.symm.trans b3)
    subst this
    exact ⟨a1.trans b1.symm, by rw [a5, b5]⟩
  · exact absurd ⟨i, a2, a3, a4⟩ b2
  · exact absurd ⟨i', b2, b3, b4⟩ a2
  · exact ⟨a1.trans b1.symm, by rw [a3, b3]⟩
end
end
section
set_option maxHeartbeats 4000000 in
set_option maxRecDepth 100000 in
theorem k_X0_plug (l : Launch) (D : va_G) (ad : Nat → Nat) (tt : Nat → ClassId) (R : Nat) (w c k d n : Nat → Int32) (wp wr : Int32) (x y z q : Int32) (hR : R ≤ 10) (hW : ∀ a, a < 40 → w a = -1 ∨ ix (w a) 16) : xMi l yX0_plug wsX0_plug { frames := 2, cells := 0, slots := 0, locals := 44 } D (tyX tt) [.ref (ad 0), .int x, .int y, .int z, .int q] (xw ad tt R w c k d n wp wr) (fun u : (Nat → Int32) × (Nat → Int32) => xw ad tt R u.1 u.2 k d n wp wr) (fun v u => r_plug R w c x y z q v u) := by
  refine xe_i (cc := cX0_plug) (maxL := 6) (ret := (some .boolean)) (lvl := [(0, .ref (ad 0)), (1, .int x), (2, .int y), (3, .int z), (4, .int q)]) (by decide) rfl (Nat.le_of_ble_eq_true rfl) rfl ?_
  intro p e s m below meth cd A ls hx hb hr hlocks hml hown hts hA hP hK hD hS hl
  have hin : ∀ w ∈ wsX00, w ∈ wsX0_plug := fun _ h => List.mem_cons_of_mem _ (List.mem_append_right _ h)
  have S0 : CallFix p m cd cX0_plug 6 s (([.ref (ad 0), .int x, .int y, .int z, .int q] : List Value).toArray) wsX0_plug RX0 := ⟨hx, hb, hml, hown, hts⟩
  obtain ⟨H, hH⟩ : ∃ H, H = s.heap := ⟨_, rfl⟩
  obtain ⟨locs, hlocs⟩ : ∃ q : List Loc, q = [] := ⟨_, rfl⟩
  have hP : va_P D vwCl (xw ad tt R w c k d n wp wr) H := by rw [hH]; exact hP
  have hS : va_S A s.heap H locs := by rw [hH, hlocs]; exact hS
  suffices hgo : W p l e (headSpec wsX0_plug ({ frames := 2, cells := 0, slots := 0, locals := 44 } : Room)).room s m (([.ref (ad 0), .int x, .int y, .int z, .int q] : List Value).toArray) below meth cd H locs 0 0 (MQ below (va_Qi (fun v u => r_plug R w c x y z q v u) (xB D (tyX tt) A (fun u : (Nat → Int32) × (Nat → Int32) => xw ad tt R u.1 u.2 k d n wp wr)) A) ([.ref (ad 0), .int x, .int y, .int z, .int q] : List Value).toArray s 0 0 A) (F0 m 0 ls []) by rw [hH, hlocs] at hgo; exact hgo
  clear hH hlocs
  have f_wireAt := hts (.fieldLink RX0 22 "WireWays" "wireAt" "[I") (by decide +kernel)
  have f_costAt := hts (.fieldLink RX0 26 "WireWays" "costAt" "[I") (by decide +kernel)
  refine lv_aload_n hx hb dX0_plug_0 rfl (lv_at hl 0 rfl) ?_
  refine lv_iload_n hx hb dX0_plug_1 rfl (lv_at hl 1 rfl) ?_
  refine lv_iload_n hx hb dX0_plug_2 rfl (lv_at hl 2 rfl) ?_
  refine xs_Vi (wr := []) (q0 := 0) (ci := 0) (nA := 2) (As := [.int x, .int y]) (rest := []) S0 (k_X0_isPort l D ad tt R w c k d n wp wr x y hR) gX0_plug_X0_isPort rfl ⟨rfl, rfl⟩ (by decide +kernel) rfl ⟨Nat.le_of_ble_eq_true rfl, Nat.le_of_ble_eq_true rfl⟩ ⟨Nat.le_of_ble_eq_true rfl, Nat.le_of_ble_eq_true rfl⟩ hK hP hD hS hA [0, 1, 2, 3, 4, 5] [] rfl rfl (by decide) (by decide) (by decide) rfl rfl rfl hl.1 rfl (Nat.le_of_ble_eq_true rfl) dX0_plug_3 (fun r_1 u H locs hw hP hD hS => ?_)
  have hP : va_P D vwCl (xw ad tt R w c k d n wp wr) H := hP
  have hD : va_D A (xw ad tt R w c k d n wp wr) := hD
  rcases hw with ⟨rfl, h_p⟩ | ⟨rfl, h_p⟩
  · refine lv_if_eq (tgt := 24) hx hb dX0_plug_6 (by decide) (fun c_2 => absurd c_2 (by decide)) (fun c_2 => ?_)
    refine lv_iload_n hx hb dX0_plug_9 rfl (lv_at hl 3 rfl) ?_
    refine xs_Si (nA := 1) (As := [.int z]) (rest := []) S0 (k_X0_isWire l D z) gX0_plug_X0_isWire rfl ⟨rfl, rfl⟩ (by decide +kernel) rfl ⟨Nat.le_of_ble_eq_true rfl, Nat.le_of_ble_eq_true rfl⟩ ⟨Nat.le_of_ble_eq_true rfl, Nat.le_of_ble_eq_true rfl⟩ hK hP hD hS hA hl.1 rfl (Nat.le_of_ble_eq_true rfl) dX0_plug_10 (fun r_3 H locs hw hP hD hS => ?_)
    rcases hw with ⟨rfl, h_w⟩ | ⟨rfl, h_w⟩
    · refine lv_if_eq (tgt := 24) hx hb dX0_plug_13 (by decide) (fun c_4 => absurd c_4 (by decide)) (fun c_4 => ?_)
      refine lv_iload hx hb dX0_plug_16 (lv_at hl 4 rfl) ?_
      refine xs_Si (nA := 1) (As := [.int q]) (rest := []) S0 (k_X0_isCost l D q) gX0_plug_X0_isCost rfl ⟨rfl, rfl⟩ (by decide +kernel) rfl ⟨Nat.le_of_ble_eq_true rfl, Nat.le_of_ble_eq_true rfl⟩ ⟨Nat.le_of_ble_eq_true rfl, Nat.le_of_ble_eq_true rfl⟩ hK hP hD hS hA hl.1 rfl (Nat.le_of_ble_eq_true rfl) dX0_plug_18 (fun r_5 H locs hw hP hD hS => ?_)
      rcases hw with ⟨rfl, h_c⟩ | ⟨rfl, h_c⟩
      · refine lv_if_ne (tgt := 26) hx hb dX0_plug_21 (by decide) (fun c_6 => ?_) (fun c_6 => absurd c_6 (by decide))
        obtain ⟨⟨i, hi, rfl⟩, ⟨j, hj, rfl⟩⟩ := h_p
        refine lv_iload_n hx hb dX0_plug_26 rfl (lv_at hl 1 rfl) ?_
        refine lv_iload_n hx hb dX0_plug_27 rfl (lv_at hl 2 rfl) ?_
        refine xs_Si (nA := 2) (As := [.int (nI i), .int (nI j)]) (rest := []) S0 (k_X0_placeOf l D (nI i) (nI j)) gX0_plug_X0_placeOf rfl ⟨rfl, rfl⟩ (by decide +kernel) rfl ⟨Nat.le_of_ble_eq_true rfl, Nat.le_of_ble_eq_true rfl⟩ ⟨Nat.le_of_ble_eq_true rfl, Nat.le_of_ble_eq_true rfl⟩ hK hP hD hS hA hl.1 rfl (Nat.le_of_ble_eq_true rfl) dX0_plug_28 (fun r_7 H locs hw hP hD hS => ?_)
        have hw : r_7 = nI (4 * i + j) := by rw [hw]; exact nI_pl _ _
        subst hw
        refine lv_istore (lv' := [(5, .int (nI (4 * i + j))), (0, .ref (ad 0)), (1, .int (nI i)), (2, .int (nI j)), (3, .int z), (4, .int q)]) hx hb dX0_plug_31 hl (by decide) rfl (fun ls hl => ?_)
        refine lv_aload_n hx hb dX0_plug_33 rfl (lv_at hl 1 rfl) ?_
        refine x0_get (v := .ref (ad 1)) S0 hin hK hP 1 (by decide) f_wireAt rfl rfl dX0_plug_34 ?_
        refine lv_iload hx hb dX0_plug_37 (lv_at hl 0 rfl) ?_
        refine va_iald hx hb hK hP 1 0 rfl rfl (vp_in_nI (by omega) (by omega)) dX0_plug_39 ?_
        refine xt_eq (z := w (4 * i + j)) (congrArg w (nI_clamp (by omega))) ?_
        refine xs_Si (nA := 1) (As := [.int (w (4 * i + j))]) (rest := []) S0 (k_X0_isWire l D (w (4 * i + j))) gX0_plug_X0_isWire rfl ⟨rfl, rfl⟩ (by decide +kernel) rfl ⟨Nat.le_of_ble_eq_true rfl, Nat.le_of_ble_eq_true rfl⟩ ⟨Nat.le_of_ble_eq_true rfl, Nat.le_of_ble_eq_true rfl⟩ hK hP hD hS hA hl.1 rfl (Nat.le_of_ble_eq_true rfl) dX0_plug_40 (fun r_8 H locs hw hP hD hS => ?_)
        rcases hw with ⟨rfl, h_w2⟩ | ⟨rfl, h_w2⟩
        · refine lv_if_ne (tgt := 56) hx hb dX0_plug_43 (by decide) (fun c_9 => ?_) (fun c_9 => absurd c_9 (by decide))
          refine lv_iconst (v := 0) hx hb dX0_plug_56 (by decide) ?_
          exact xr_z hx hb hr hlocks rfl (w, c) (Or.inr ⟨rfl, fun h => by first | exact h_p (plc_p h) | exact h_w (plc_w h) | exact h_c (plc_c h) | exact absurd (plc_e hR hi hj h).1 (ix_m1 h_w2) | exact (plc_e hR hi hj h).2 (ww_on_of (v := 0) h_po hR), rfl, rfl⟩) hP hK hD hS dX0_plug_57
        · refine lv_if_ne (tgt := 56) hx hb dX0_plug_43 (by decide) (fun c_10 => absurd c_10 (by decide)) (fun c_10 => ?_)
          refine lv_aload_n hx hb dX0_plug_46 rfl (lv_at hl 1 rfl) ?_
          refine lv_iload_n hx hb dX0_plug_47 rfl (lv_at hl 2 rfl) ?_
          refine lv_iload_n hx hb dX0_plug_48 rfl (lv_at hl 4 rfl) ?_
          refine xs_Vi (wr := []) (q0 := 0) (ci := 0) (nA := 2) (As := [.int (nI i), .int z]) (rest := []) S0 (k_X0_portOn l D ad tt R w c k d n wp wr i z (by omega)) gX0_plug_X0_portOn rfl ⟨rfl, rfl⟩ (by decide +kernel) rfl ⟨Nat.le_of_ble_eq_true rfl, Nat.le_of_ble_eq_true rfl⟩ ⟨Nat.le_of_ble_eq_true rfl, Nat.le_of_ble_eq_true rfl⟩ hK hP hD hS hA [0, 1, 2, 3, 4, 5] [] rfl rfl (by decide) (by decide) (by decide) rfl rfl rfl hl.1 rfl (Nat.le_of_ble_eq_true rfl) dX0_plug_49 (fun r_11 u H locs hw hP hD hS => ?_)
          have hP : va_P D vwCl (xw ad tt R w c k d n wp wr) H := hP
          have hD : va_D A (xw ad tt R w c k d n wp wr) := hD
          have h_po := hw
          refine lv_iconst (v := (-1)) hx hb dX0_plug_52 (by decide) ?_
          refine lv_icmp_eq (tgt := 58) hx hb dX0_plug_53 (by decide) (fun c_12 => ?_) (fun c_12 => ?_)
          · refine lv_aload_n hx hb dX0_plug_58 rfl (lv_at hl 1 rfl) ?_
            refine x0_get (v := .ref (ad 1)) S0 hin hK hP 1 (by decide) f_wireAt rfl rfl dX0_plug_59 ?_
            refine lv_iload hx hb dX0_plug_62 (lv_at hl 0 rfl) ?_
            refine lv_iload_n hx hb dX0_plug_64 rfl (lv_at hl 4 rfl) ?_
            refine va_iast hx hb hK hP hD hS 1 0 rfl rfl (vp_in_nI (by omega) (by omega)) dX0_plug_65 (fun H locs hP hD hS => ?_)
            rw [(nI_clamp (by omega))] at hP hD
            have hP : va_P D vwCl (xw ad tt R (upd w (4 * i + j) z) c k d n wp wr) H := hP
            have hD : va_D A (xw ad tt R (upd w (4 * i + j) z) c k d n wp wr) := hD
            refine lv_aload_n hx hb dX0_plug_66 rfl (lv_at hl 1 rfl) ?_
            refine x0_get (v := .ref (ad 2)) S0 hin hK hP 2 (by decide) f_costAt rfl rfl dX0_plug_67 ?_
            refine lv_iload hx hb dX0_plug_70 (lv_at hl 0 rfl) ?_
            refine lv_iload hx hb dX0_plug_72 (lv_at hl 5 rfl) ?_
            refine va_iast hx hb hK hP hD hS 2 1 rfl rfl (vp_in_nI (by omega) (by omega)) dX0_plug_74 (fun H locs hP hD hS => ?_)
            rw [(nI_clamp (by omega))] at hP hD
            have hP : va_P D vwCl (xw ad tt R (upd w (4 * i + j) z) (upd c (4 * i + j) q) k d n wp wr) H := hP
            have hD : va_D A (xw ad tt R (upd w (4 * i + j) z) (upd c (4 * i + j) q) k d n wp wr) := hD
            refine lv_iconst (v := 1) hx hb dX0_plug_75 (by decide) ?_
            exact xr_z hx hb hr hlocks rfl (upd w (4 * i + j) z, upd c (4 * i + j) q) (Or.inl ⟨rfl, i, j, ⟨hi, hj, rfl, rfl, h_w, h_c, (hW _ (by omega)).resolve_right h_w2, (ww_po_on h_po).mp c_12⟩, rfl, rfl⟩) hP hK hD hS dX0_plug_76
          · refine lv_iconst (v := 0) hx hb dX0_plug_56 (by decide) ?_
            exact xr_z hx hb hr hlocks rfl (w, c) (Or.inr ⟨rfl, fun h => by first | exact h_p (plc_p h) | exact h_w (plc_w h) | exact h_c (plc_c h) | exact absurd (plc_e hR hi hj h).1 (ix_m1 h_w2) | exact (plc_e hR hi hj h).2 (ww_on_of (v := 0) h_po c_12), rfl, rfl⟩) hP hK hD hS dX0_plug_57
      · refine lv_if_ne (tgt := 26) hx hb dX0_plug_21 (by decide) (fun c_13 => absurd c_13 (by decide)) (fun c_13 => ?_)
        refine lv_iconst (v := 0) hx hb dX0_plug_24 (by decide) ?_
        exact xr_z hx hb hr hlocks rfl (w, c) (Or.inr ⟨rfl, fun h => by first | exact h_p (plc_p h) | exact h_w (plc_w h) | exact h_c (plc_c h) | exact absurd (plc_e hR hi hj h).1 (ix_m1 h_w2) | exact (plc_e hR hi hj h).2 (ww_on_of (v := 0) h_po hR), rfl, rfl⟩) hP hK hD hS dX0_plug_25
    · refine lv_if_eq (tgt := 24) hx hb dX0_plug_13 (by decide) (fun c_14 => ?_) (fun c_14 => absurd c_14 (by decide))
      refine lv_iconst (v := 0) hx hb dX0_plug_24 (by decide) ?_
      exact xr_z hx hb hr hlocks rfl (w, c) (Or.inr ⟨rfl, fun h => by first | exact h_p (plc_p h) | exact h_w (plc_w h) | exact h_c (plc_c h) | exact absurd (plc_e hR hi hj h).1 (ix_m1 h_w2) | exact (plc_e hR hi hj h).2 (ww_on_of (v := 0) h_po hR), rfl, rfl⟩) hP hK hD hS dX0_plug_25
  · refine lv_if_eq (tgt := 24) hx hb dX0_plug_6 (by decide) (fun c_15 => ?_) (fun c_15 => absurd c_15 (by decide))
    refine lv_iconst (v := 0) hx hb dX0_plug_24 (by decide) ?_
    exact xr_z hx hb hr hlocks rfl (w, c) (Or.inr ⟨rfl, fun h => by first | exact h_p (plc_p h) | exact h_w (plc_w h) | exact h_c (plc_c h) | exact absurd (plc_e hR hi hj h).1 (ix_m1 h_w2) | exact (plc_e hR hi hj h).2 (ww_on_of (v := 0) h_po hR), rfl, rfl⟩) hP hK hD hS dX0_plug_25
set_option maxHeartbeats 4000000 in
set_option maxRecDepth 100000 in
theorem k_X1_plug (l : Launch) (D : va_G) (ad : Nat → Nat) (tt : Nat → ClassId) (R : Nat) (w c k d : Nat → Int32) (wp wr : Int32) (x y z q : Int32) (hR : R ≤ 10) : xMi l yX1_plug wsX1_plug { frames := 2, cells := 0, slots := 0, locals := 43 } D (tyM tt) [.ref (ad 0), .int x, .int y, .int z, .int q] (mw ad tt R w c k d wp wr) (fun u : (Nat → Int32) × (Nat → Int32) => mw ad tt R u.1 u.2 k d wp wr) (fun v u => r_plug R w c x y z q v u) := by
  refine xe_i (cc := cX1_plug) (maxL := 5) (ret := (some .boolean)) (lvl := [(0, .ref (ad 0)), (1, .int x), (2, .int y), (3, .int z), (4, .int q)]) (by decide) rfl (Nat.le_of_ble_eq_true rfl) rfl ?_
  intro p e s m below meth cd A ls hx hb hr hlocks hml hown hts hA hP hK hD hS hl
  have hin : ∀ w ∈ wsX10, w ∈ wsX1_plug := fun _ h => List.mem_cons_of_mem _ (List.mem_append_right _ h)
  have S0 : CallFix p m cd cX1_plug 5 s (([.ref (ad 0), .int x, .int y, .int z, .int q] : List Value).toArray) wsX1_plug RX1 := ⟨hx, hb, hml, hown, hts⟩
  obtain ⟨H, hH⟩ : ∃ H, H = s.heap := ⟨_, rfl⟩
  obtain ⟨locs, hlocs⟩ : ∃ q : List Loc, q = [] := ⟨_, rfl⟩
  have hP : va_P D vwCl (mw ad tt R w c k d wp wr) H := by rw [hH]; exact hP
  have hS : va_S A s.heap H locs := by rw [hH, hlocs]; exact hS
  suffices hgo : W p l e (headSpec wsX1_plug ({ frames := 2, cells := 0, slots := 0, locals := 43 } : Room)).room s m (([.ref (ad 0), .int x, .int y, .int z, .int q] : List Value).toArray) below meth cd H locs 0 0 (MQ below (va_Qi (fun v u => r_plug R w c x y z q v u) (xB D (tyM tt) A (fun u : (Nat → Int32) × (Nat → Int32) => mw ad tt R u.1 u.2 k d wp wr)) A) ([.ref (ad 0), .int x, .int y, .int z, .int q] : List Value).toArray s 0 0 A) (F0 m 0 ls []) by rw [hH, hlocs] at hgo; exact hgo
  clear hH hlocs
  have f_wireOf := hts (.fieldLink RX1 7 "WireWaysModel" "wireOf" "[I") (by decide +kernel)
  have f_costOf := hts (.fieldLink RX1 13 "WireWaysModel" "costOf" "[I") (by decide +kernel)
  refine lv_aload_n hx hb dX1_plug_0 rfl (lv_at hl 0 rfl) ?_
  refine lv_iload_n hx hb dX1_plug_1 rfl (lv_at hl 1 rfl) ?_
  refine lv_iload_n hx hb dX1_plug_2 rfl (lv_at hl 2 rfl) ?_
  refine xs_Vi (wr := []) (q0 := 0) (ci := 1) (nA := 2) (As := [.int x, .int y]) (rest := []) S0 (k_X1_isPlace l D ad tt R w c k d wp wr x y hR) gX1_plug_X1_isPlace rfl ⟨rfl, rfl⟩ (by decide +kernel) rfl ⟨Nat.le_of_ble_eq_true rfl, Nat.le_of_ble_eq_true rfl⟩ ⟨Nat.le_of_ble_eq_true rfl, Nat.le_of_ble_eq_true rfl⟩ hK hP hD hS hA [0, 1, 2, 3, 4] [] rfl rfl (by decide) (by decide) (by decide) rfl rfl rfl hl.1 rfl (Nat.le_of_ble_eq_true rfl) dX1_plug_3 (fun r_1 u H locs hw hP hD hS => ?_)
  have hP : va_P D vwCl (mw ad tt R w c k d wp wr) H := hP
  have hD : va_D A (mw ad tt R w c k d wp wr) := hD
  rcases hw with ⟨rfl, h_p⟩ | ⟨rfl, h_p⟩
  · refine lv_if_eq (tgt := 29) hx hb dX1_plug_6 (by decide) (fun c_2 => absurd c_2 (by decide)) (fun c_2 => ?_)
    refine lv_iload_n hx hb dX1_plug_9 rfl (lv_at hl 3 rfl) ?_
    refine xs_Si (nA := 1) (As := [.int z]) (rest := []) S0 (k_X1_isWire l D z) gX1_plug_X1_isWire rfl ⟨rfl, rfl⟩ (by decide +kernel) rfl ⟨Nat.le_of_ble_eq_true rfl, Nat.le_of_ble_eq_true rfl⟩ ⟨Nat.le_of_ble_eq_true rfl, Nat.le_of_ble_eq_true rfl⟩ hK hP hD hS hA hl.1 rfl (Nat.le_of_ble_eq_true rfl) dX1_plug_10 (fun r_3 H locs hw hP hD hS => ?_)
    rcases hw with ⟨rfl, h_w⟩ | ⟨rfl, h_w⟩
    · refine lv_if_eq (tgt := 29) hx hb dX1_plug_13 (by decide) (fun c_4 => absurd c_4 (by decide)) (fun c_4 => ?_)
      refine lv_iload hx hb dX1_plug_16 (lv_at hl 4 rfl) ?_
      refine lv_iconst (v := 1) hx hb dX1_plug_18 (by decide) ?_
      refine lv_icmp_lt (tgt := 29) hx hb dX1_plug_19 (by decide) (fun c_5 => ?_) (fun c_5 => ?_)
      · have h_c := okc_n0 c_5
        refine lv_iconst (v := 0) hx hb dX1_plug_29 (by decide) ?_
        exact xr_z hx hb hr hlocks rfl (w, c) (Or.inr ⟨rfl, fun h => by first | exact h_p (plc_p h) | exact h_w (plc_w h) | exact h_c (plc_c h) | exact h_e (plc_e hR hi hj h).1 | exact (plc_e hR hi hj h).2 (ww_on_of (v := 0) h_po c_5), rfl, rfl⟩) hP hK hD hS dX1_plug_30
      · refine lv_iload hx hb dX1_plug_22 (lv_at hl 4 rfl) ?_
        refine lv_bipush (v := 9) hx hb dX1_plug_24 (by decide) ?_
        refine lv_icmp_le (tgt := 31) hx hb dX1_plug_26 (by decide) (fun c_6 => ?_) (fun c_6 => ?_)
        · have h_c := okc_ofle (by assumption) c_6
          obtain ⟨⟨i, hi, rfl⟩, ⟨j, hj, rfl⟩⟩ := h_p
          refine lv_aload_n hx hb dX1_plug_31 rfl (lv_at hl 0 rfl) ?_
          refine x1_get (v := .ref (ad 1)) S0 hin hK hP 1 (by decide) f_wireOf rfl rfl dX1_plug_32 ?_
          refine lv_iconst (v := 4) hx hb dX1_plug_35 (by decide) ?_
          refine lv_iload_n hx hb dX1_plug_36 rfl (lv_at hl 1 rfl) ?_
          refine lv_imul hx hb dX1_plug_37 ?_
          refine lv_iload_n hx hb dX1_plug_38 rfl (lv_at hl 2 rfl) ?_
          refine lv_iadd hx hb dX1_plug_39 ?_
          refine xt_eq (z := nI (4 * i + j)) (nI_lp i j) ?_
          refine va_iald hx hb hK hP 1 0 rfl rfl (vp_in_nI (by omega) (by omega)) dX1_plug_40 ?_
          refine xt_eq (z := w (4 * i + j)) (congrArg w (nI_clamp (by omega))) ?_
          refine lv_iconst (v := (-1)) hx hb dX1_plug_41 (by decide) ?_
          refine lv_icmp_ne (tgt := 55) hx hb dX1_plug_42 (by decide) (fun c_7 => ?_) (fun c_7 => ?_)
          · have h_e := c_7
            refine lv_iconst (v := 0) hx hb dX1_plug_55 (by decide) ?_
            exact xr_z hx hb hr hlocks rfl (w, c) (Or.inr ⟨rfl, fun h => by first | exact h_p (plc_p h) | exact h_w (plc_w h) | exact h_c (plc_c h) | exact h_e (plc_e hR hi hj h).1 | exact (plc_e hR hi hj h).2 (ww_on_of (v := 0) h_po c_7), rfl, rfl⟩) hP hK hD hS dX1_plug_56
          · have h_e := c_7
            refine lv_aload_n hx hb dX1_plug_45 rfl (lv_at hl 0 rfl) ?_
            refine lv_iload_n hx hb dX1_plug_46 rfl (lv_at hl 1 rfl) ?_
            refine lv_iload_n hx hb dX1_plug_47 rfl (lv_at hl 3 rfl) ?_
            refine xs_Vi (wr := []) (q0 := 0) (ci := 1) (nA := 2) (As := [.int (nI i), .int z]) (rest := []) S0 (k_X1_portOn l D ad tt R w c k d wp wr i z (by omega)) gX1_plug_X1_portOn rfl ⟨rfl, rfl⟩ (by decide +kernel) rfl ⟨Nat.le_of_ble_eq_true rfl, Nat.le_of_ble_eq_true rfl⟩ ⟨Nat.le_of_ble_eq_true rfl, Nat.le_of_ble_eq_true rfl⟩ hK hP hD hS hA [0, 1, 2, 3, 4] [] rfl rfl (by decide) (by decide) (by decide) rfl rfl rfl hl.1 rfl (Nat.le_of_ble_eq_true rfl) dX1_plug_48 (fun r_8 u H locs hw hP hD hS => ?_)
            have hP : va_P D vwCl (mw ad tt R w c k d wp wr) H := hP
            have hD : va_D A (mw ad tt R w c k d wp wr) := hD
            have h_po := hw
            refine lv_iconst (v := (-1)) hx hb dX1_plug_51 (by decide) ?_
            refine lv_icmp_eq (tgt := 57) hx hb dX1_plug_52 (by decide) (fun c_9 => ?_) (fun c_9 => ?_)
            · refine lv_aload_n hx hb dX1_plug_57 rfl (lv_at hl 0 rfl) ?_
              refine x1_get (v := .ref (ad 1)) S0 hin hK hP 1 (by decide) f_wireOf rfl rfl dX1_plug_58 ?_
              refine lv_iconst (v := 4) hx hb dX1_plug_61 (by decide) ?_
              refine lv_iload_n hx hb dX1_plug_62 rfl (lv_at hl 1 rfl) ?_
              refine lv_imul hx hb dX1_plug_63 ?_
              refine lv_iload_n hx hb dX1_plug_64 rfl (lv_at hl 2 rfl) ?_
              refine lv_iadd hx hb dX1_plug_65 ?_
              refine xt_eq (z := nI (4 * i + j)) (nI_lp i j) ?_
              refine lv_iload_n hx hb dX1_plug_66 rfl (lv_at hl 3 rfl) ?_
              refine va_iast hx hb hK hP hD hS 1 0 rfl rfl (vp_in_nI (by omega) (by omega)) dX1_plug_67 (fun H locs hP hD hS => ?_)
              rw [(nI_clamp (by omega))] at hP hD
              have hP : va_P D vwCl (mw ad tt R (upd w (4 * i + j) z) c k d wp wr) H := hP
              have hD : va_D A (mw ad tt R (upd w (4 * i + j) z) c k d wp wr) := hD
              refine lv_aload_n hx hb dX1_plug_68 rfl (lv_at hl 0 rfl) ?_
              refine x1_get (v := .ref (ad 2)) S0 hin hK hP 2 (by decide) f_costOf rfl rfl dX1_plug_69 ?_
              refine lv_iconst (v := 4) hx hb dX1_plug_72 (by decide) ?_
              refine lv_iload_n hx hb dX1_plug_73 rfl (lv_at hl 1 rfl) ?_
              refine lv_imul hx hb dX1_plug_74 ?_
              refine lv_iload_n hx hb dX1_plug_75 rfl (lv_at hl 2 rfl) ?_
              refine lv_iadd hx hb dX1_plug_76 ?_
              refine xt_eq (z := nI (4 * i + j)) (nI_lp i j) ?_
              refine lv_iload hx hb dX1_plug_77 (lv_at hl 4 rfl) ?_
              refine va_iast hx hb hK hP hD hS 2 1 rfl rfl (vp_in_nI (by omega) (by omega)) dX1_plug_79 (fun H locs hP hD hS => ?_)
              rw [(nI_clamp (by omega))] at hP hD
              have hP : va_P D vwCl (mw ad tt R (upd w (4 * i + j) z) (upd c (4 * i + j) q) k d wp wr) H := hP
              have hD : va_D A (mw ad tt R (upd w (4 * i + j) z) (upd c (4 * i + j) q) k d wp wr) := hD
              refine lv_iconst (v := 1) hx hb dX1_plug_80 (by decide) ?_
              exact xr_z hx hb hr hlocks rfl (upd w (4 * i + j) z, upd c (4 * i + j) q) (Or.inl ⟨rfl, i, j, ⟨hi, hj, rfl, rfl, h_w, h_c, h_e, (ww_po_on h_po).mp c_9⟩, rfl, rfl⟩) hP hK hD hS dX1_plug_81
            · refine lv_iconst (v := 0) hx hb dX1_plug_55 (by decide) ?_
              exact xr_z hx hb hr hlocks rfl (w, c) (Or.inr ⟨rfl, fun h => by first | exact h_p (plc_p h) | exact h_w (plc_w h) | exact h_c (plc_c h) | exact h_e (plc_e hR hi hj h).1 | exact (plc_e hR hi hj h).2 (ww_on_of (v := 0) h_po c_9), rfl, rfl⟩) hP hK hD hS dX1_plug_56
        · have h_c := okc_nle c_6
          refine lv_iconst (v := 0) hx hb dX1_plug_29 (by decide) ?_
          exact xr_z hx hb hr hlocks rfl (w, c) (Or.inr ⟨rfl, fun h => by first | exact h_p (plc_p h) | exact h_w (plc_w h) | exact h_c (plc_c h) | exact h_e (plc_e hR hi hj h).1 | exact (plc_e hR hi hj h).2 (ww_on_of (v := 0) h_po c_6), rfl, rfl⟩) hP hK hD hS dX1_plug_30
    · refine lv_if_eq (tgt := 29) hx hb dX1_plug_13 (by decide) (fun c_10 => ?_) (fun c_10 => absurd c_10 (by decide))
      refine lv_iconst (v := 0) hx hb dX1_plug_29 (by decide) ?_
      exact xr_z hx hb hr hlocks rfl (w, c) (Or.inr ⟨rfl, fun h => by first | exact h_p (plc_p h) | exact h_w (plc_w h) | exact h_c (plc_c h) | exact h_e (plc_e hR hi hj h).1 | exact (plc_e hR hi hj h).2 (ww_on_of (v := 0) h_po hR), rfl, rfl⟩) hP hK hD hS dX1_plug_30
  · refine lv_if_eq (tgt := 29) hx hb dX1_plug_6 (by decide) (fun c_11 => ?_) (fun c_11 => absurd c_11 (by decide))
    refine lv_iconst (v := 0) hx hb dX1_plug_29 (by decide) ?_
    exact xr_z hx hb hr hlocks rfl (w, c) (Or.inr ⟨rfl, fun h => by first | exact h_p (plc_p h) | exact h_w (plc_w h) | exact h_c (plc_c h) | exact h_e (plc_e hR hi hj h).1 | exact (plc_e hR hi hj h).2 (ww_on_of (v := 0) h_po hR), rfl, rfl⟩) hP hK hD hS dX1_plug_30
set_option maxHeartbeats 4000000 in
set_option maxRecDepth 100000 in
theorem k_X0_draw (l : Launch) (D : va_G) (ad : Nat → Nat) (tt : Nat → ClassId) (R : Nat) (w c k d n : Nat → Int32) (wp wr : Int32) (x y : Int32) (hR : R ≤ 10) (hW : ∀ a, a < 40 → w a = -1 ∨ ix (w a) 16) : xMi l yX0_draw wsX0_draw { frames := 3, cells := 0, slots := 0, locals := 65 } D (tyX tt) [.ref (ad 0), .int x, .int y] (xw ad tt R w c k d n wp wr) (fun u : Nat → Int32 => xw ad tt R u c k d n wp wr) (fun v u => r_draw R w x y v u) := by
  refine xe_i (cc := cX0_draw) (maxL := 3) (ret := (some .boolean)) (lvl := [(0, .ref (ad 0)), (1, .int x), (2, .int y)]) (by decide) rfl (Nat.le_of_ble_eq_true rfl) rfl ?_
  intro p e s m below meth cd A ls hx hb hr hlocks hml hown hts hA hP hK hD hS hl
  have hin : ∀ w ∈ wsX00, w ∈ wsX0_draw := fun _ h => List.mem_cons_of_mem _ (List.mem_append_right _ h)
  have S0 : CallFix p m cd cX0_draw 3 s (([.ref (ad 0), .int x, .int y] : List Value).toArray) wsX0_draw RX0 := ⟨hx, hb, hml, hown, hts⟩
  obtain ⟨H, hH⟩ : ∃ H, H = s.heap := ⟨_, rfl⟩
  obtain ⟨locs, hlocs⟩ : ∃ q : List Loc, q = [] := ⟨_, rfl⟩
  have hP : va_P D vwCl (xw ad tt R w c k d n wp wr) H := by rw [hH]; exact hP
  have hS : va_S A s.heap H locs := by rw [hH, hlocs]; exact hS
  suffices hgo : W p l e (headSpec wsX0_draw ({ frames := 3, cells := 0, slots := 0, locals := 65 } : Room)).room s m (([.ref (ad 0), .int x, .int y] : List Value).toArray) below meth cd H locs 0 0 (MQ below (va_Qi (fun v u => r_draw R w x y v u) (xB D (tyX tt) A (fun u : Nat → Int32 => xw ad tt R u c k d n wp wr)) A) ([.ref (ad 0), .int x, .int y] : List Value).toArray s 0 0 A) (F0 m 0 ls []) by rw [hH, hlocs] at hgo; exact hgo
  clear hH hlocs
  have f_wireAt := hts (.fieldLink RX0 22 "WireWays" "wireAt" "[I") (by decide +kernel)
  refine lv_aload_n hx hb dX0_draw_0 rfl (lv_at hl 0 rfl) ?_
  refine lv_iload_n hx hb dX0_draw_1 rfl (lv_at hl 1 rfl) ?_
  refine lv_iload_n hx hb dX0_draw_2 rfl (lv_at hl 2 rfl) ?_
  refine xs_Vi (wr := []) (q0 := 0) (ci := 0) (nA := 2) (As := [.int x, .int y]) (rest := []) S0 (k_X0_isPluggedPort l D ad tt R w c k d n wp wr x y hR) gX0_draw_X0_isPluggedPort rfl ⟨rfl, rfl⟩ (by decide +kernel) rfl ⟨Nat.le_of_ble_eq_true rfl, Nat.le_of_ble_eq_true rfl⟩ ⟨Nat.le_of_ble_eq_true rfl, Nat.le_of_ble_eq_true rfl⟩ hK hP hD hS hA [0, 1, 2, 3, 4, 5] [] rfl rfl (by decide) (by decide) (by decide) rfl rfl rfl hl.1 rfl (Nat.le_of_ble_eq_true rfl) dX0_draw_3 (fun r_1 u H locs hw hP hD hS => ?_)
  have hP : va_P D vwCl (xw ad tt R w c k d n wp wr) H := hP
  have hD : va_D A (xw ad tt R w c k d n wp wr) := hD
  rcases hw with ⟨rfl, h_p⟩ | ⟨rfl, h_p⟩
  · refine lv_if_ne (tgt := 11) hx hb dX0_draw_6 (by decide) (fun c_2 => ?_) (fun c_2 => absurd c_2 (by decide))
    obtain ⟨i, j, hi, hj, rfl, rfl, h_i⟩ := h_p
    refine lv_aload_n hx hb dX0_draw_11 rfl (lv_at hl 0 rfl) ?_
    refine x0_get (v := .ref (ad 1)) S0 hin hK hP 1 (by decide) f_wireAt rfl rfl dX0_draw_12 ?_
    refine lv_iload_n hx hb dX0_draw_15 rfl (lv_at hl 1 rfl) ?_
    refine lv_iload_n hx hb dX0_draw_16 rfl (lv_at hl 2 rfl) ?_
    refine xs_Si (nA := 2) (As := [.int (nI i), .int (nI j)]) (rest := [.ref (ad 1)]) S0 (k_X0_placeOf l D (nI i) (nI j)) gX0_draw_X0_placeOf rfl ⟨rfl, rfl⟩ (by decide +kernel) rfl ⟨Nat.le_of_ble_eq_true rfl, Nat.le_of_ble_eq_true rfl⟩ ⟨Nat.le_of_ble_eq_true rfl, Nat.le_of_ble_eq_true rfl⟩ hK hP hD hS hA hl.1 rfl (Nat.le_of_ble_eq_true rfl) dX0_draw_17 (fun r_3 H locs hw hP hD hS => ?_)
    have hw : r_3 = nI (4 * i + j) := by rw [hw]; exact nI_pl _ _
    subst hw
    refine lv_iconst (v := (-1)) hx hb dX0_draw_20 (by decide) ?_
    refine va_iast hx hb hK hP hD hS 1 0 rfl rfl (vp_in_nI (by omega) (by omega)) dX0_draw_21 (fun H locs hP hD hS => ?_)
    rw [(nI_clamp (by omega))] at hP hD
    have hP : va_P D vwCl (xw ad tt R (upd w (4 * i + j) (-1)) c k d n wp wr) H := hP
    have hD : va_D A (xw ad tt R (upd w (4 * i + j) (-1)) c k d n wp wr) := hD
    refine lv_iconst (v := 1) hx hb dX0_draw_22 (by decide) ?_
    exact xr_z hx hb hr hlocks rfl (upd w (4 * i + j) (-1)) (Or.inl ⟨rfl, i, j, ⟨hi, hj, rfl, rfl, ix_m1 h_i⟩, rfl⟩) hP hK hD hS dX0_draw_23
  · refine lv_if_ne (tgt := 11) hx hb dX0_draw_6 (by decide) (fun c_4 => absurd c_4 (by decide)) (fun c_4 => ?_)
    refine lv_iconst (v := 0) hx hb dX0_draw_9 (by decide) ?_
    exact xr_z hx hb hr hlocks rfl w (Or.inr ⟨rfl, fun h => h_p (drc_plg hR hW h), rfl⟩) hP hK hD hS dX0_draw_10
set_option maxHeartbeats 4000000 in
set_option maxRecDepth 100000 in
theorem k_X1_draw (l : Launch) (D : va_G) (ad : Nat → Nat) (tt : Nat → ClassId) (R : Nat) (w c k d : Nat → Int32) (wp wr : Int32) (x y : Int32) (hR : R ≤ 10) : xMi l yX1_draw wsX1_draw { frames := 2, cells := 0, slots := 0, locals := 43 } D (tyM tt) [.ref (ad 0), .int x, .int y] (mw ad tt R w c k d wp wr) (fun u : Nat → Int32 => mw ad tt R u c k d wp wr) (fun v u => r_draw R w x y v u) := by
  refine xe_i (cc := cX1_draw) (maxL := 3) (ret := (some .boolean)) (lvl := [(0, .ref (ad 0)), (1, .int x), (2, .int y)]) (by decide) rfl (Nat.le_of_ble_eq_true rfl) rfl ?_
  intro p e s m below meth cd A ls hx hb hr hlocks hml hown hts hA hP hK hD hS hl
  have hin : ∀ w ∈ wsX10, w ∈ wsX1_draw := fun _ h => List.mem_cons_of_mem _ (List.mem_append_right _ h)
  have S0 : CallFix p m cd cX1_draw 3 s (([.ref (ad 0), .int x, .int y] : List Value).toArray) wsX1_draw RX1 := ⟨hx, hb, hml, hown, hts⟩
  obtain ⟨H, hH⟩ : ∃ H, H = s.heap := ⟨_, rfl⟩
  obtain ⟨locs, hlocs⟩ : ∃ q : List Loc, q = [] := ⟨_, rfl⟩
  have hP : va_P D vwCl (mw ad tt R w c k d wp wr) H := by rw [hH]; exact hP
  have hS : va_S A s.heap H locs := by rw [hH, hlocs]; exact hS
  suffices hgo : W p l e (headSpec wsX1_draw ({ frames := 2, cells := 0, slots := 0, locals := 43 } : Room)).room s m (([.ref (ad 0), .int x, .int y] : List Value).toArray) below meth cd H locs 0 0 (MQ below (va_Qi (fun v u => r_draw R w x y v u) (xB D (tyM tt) A (fun u : Nat → Int32 => mw ad tt R u c k d wp wr)) A) ([.ref (ad 0), .int x, .int y] : List Value).toArray s 0 0 A) (F0 m 0 ls []) by rw [hH, hlocs] at hgo; exact hgo
  clear hH hlocs
  have f_wireOf := hts (.fieldLink RX1 7 "WireWaysModel" "wireOf" "[I") (by decide +kernel)
  refine lv_aload_n hx hb dX1_draw_0 rfl (lv_at hl 0 rfl) ?_
  refine lv_iload_n hx hb dX1_draw_1 rfl (lv_at hl 1 rfl) ?_
  refine lv_iload_n hx hb dX1_draw_2 rfl (lv_at hl 2 rfl) ?_
  refine xs_Vi (wr := []) (q0 := 0) (ci := 1) (nA := 2) (As := [.int x, .int y]) (rest := []) S0 (k_X1_isPlace l D ad tt R w c k d wp wr x y hR) gX1_draw_X1_isPlace rfl ⟨rfl, rfl⟩ (by decide +kernel) rfl ⟨Nat.le_of_ble_eq_true rfl, Nat.le_of_ble_eq_true rfl⟩ ⟨Nat.le_of_ble_eq_true rfl, Nat.le_of_ble_eq_true rfl⟩ hK hP hD hS hA [0, 1, 2, 3, 4] [] rfl rfl (by decide) (by decide) (by decide) rfl rfl rfl hl.1 rfl (Nat.le_of_ble_eq_true rfl) dX1_draw_3 (fun r_1 u H locs hw hP hD hS => ?_)
  have hP : va_P D vwCl (mw ad tt R w c k d wp wr) H := hP
  have hD : va_D A (mw ad tt R w c k d wp wr) := hD
  rcases hw with ⟨rfl, h_p⟩ | ⟨rfl, h_p⟩
  · refine lv_if_eq (tgt := 23) hx hb dX1_draw_6 (by decide) (fun c_2 => absurd c_2 (by decide)) (fun c_2 => ?_)
    obtain ⟨⟨i, hi, rfl⟩, ⟨j, hj, rfl⟩⟩ := h_p
    refine lv_aload_n hx hb dX1_draw_9 rfl (lv_at hl 0 rfl) ?_
    refine x1_get (v := .ref (ad 1)) S0 hin hK hP 1 (by decide) f_wireOf rfl rfl dX1_draw_10 ?_
    refine lv_iconst (v := 4) hx hb dX1_draw_13 (by decide) ?_
    refine lv_iload_n hx hb dX1_draw_14 rfl (lv_at hl 1 rfl) ?_
    refine lv_imul hx hb dX1_draw_15 ?_
    refine lv_iload_n hx hb dX1_draw_16 rfl (lv_at hl 2 rfl) ?_
    refine lv_iadd hx hb dX1_draw_17 ?_
    refine xt_eq (z := nI (4 * i + j)) (nI_lp i j) ?_
    refine va_iald hx hb hK hP 1 0 rfl rfl (vp_in_nI (by omega) (by omega)) dX1_draw_18 ?_
    refine xt_eq (z := w (4 * i + j)) (congrArg w (nI_clamp (by omega))) ?_
    refine lv_iconst (v := (-1)) hx hb dX1_draw_19 (by decide) ?_
    refine lv_icmp_ne (tgt := 25) hx hb dX1_draw_20 (by decide) (fun c_3 => ?_) (fun c_3 => ?_)
    · have h_e := c_3
      refine lv_aload_n hx hb dX1_draw_25 rfl (lv_at hl 0 rfl) ?_
      refine x1_get (v := .ref (ad 1)) S0 hin hK hP 1 (by decide) f_wireOf rfl rfl dX1_draw_26 ?_
      refine lv_iconst (v := 4) hx hb dX1_draw_29 (by decide) ?_
      refine lv_iload_n hx hb dX1_draw_30 rfl (lv_at hl 1 rfl) ?_
      refine lv_imul hx hb dX1_draw_31 ?_
      refine lv_iload_n hx hb dX1_draw_32 rfl (lv_at hl 2 rfl) ?_
      refine lv_iadd hx hb dX1_draw_33 ?_
      refine xt_eq (z := nI (4 * i + j)) (nI_lp i j) ?_
      refine lv_iconst (v := (-1)) hx hb dX1_draw_34 (by decide) ?_
      refine va_iast hx hb hK hP hD hS 1 0 rfl rfl (vp_in_nI (by omega) (by omega)) dX1_draw_35 (fun H locs hP hD hS => ?_)
      rw [(nI_clamp (by omega))] at hP hD
      have hP : va_P D vwCl (mw ad tt R (upd w (4 * i + j) (-1)) c k d wp wr) H := hP
      have hD : va_D A (mw ad tt R (upd w (4 * i + j) (-1)) c k d wp wr) := hD
      refine lv_iconst (v := 1) hx hb dX1_draw_36 (by decide) ?_
      exact xr_z hx hb hr hlocks rfl (upd w (4 * i + j) (-1)) (Or.inl ⟨rfl, i, j, ⟨hi, hj, rfl, rfl, h_e⟩, rfl⟩) hP hK hD hS dX1_draw_37
    · have h_e := c_3
      refine lv_iconst (v := 0) hx hb dX1_draw_23 (by decide) ?_
      exact xr_z hx hb hr hlocks rfl w (Or.inr ⟨rfl, fun h => by first | exact h_p (drc_p h) | exact drc_e hR hi hj h h_e, rfl⟩) hP hK hD hS dX1_draw_24
  · refine lv_if_eq (tgt := 23) hx hb dX1_draw_6 (by decide) (fun c_4 => ?_) (fun c_4 => absurd c_4 (by decide))
    refine lv_iconst (v := 0) hx hb dX1_draw_23 (by decide) ?_
    exact xr_z hx hb hr hlocks rfl w (Or.inr ⟨rfl, fun h => by first | exact h_p (drc_p h) | exact drc_e hR hi hj h h_e, rfl⟩) hP hK hD hS dX1_draw_24
set_option maxHeartbeats 4000000 in
set_option maxRecDepth 100000 in
theorem k_X0_cost (l : Launch) (D : va_G) (ad : Nat → Nat) (tt : Nat → ClassId) (R : Nat) (w c k d n : Nat → Int32) (wp wr : Int32) (x y q : Int32) (hR : R ≤ 10) (hW : ∀ a, a < 40 → w a = -1 ∨ ix (w a) 16) : xMi l yX0_cost wsX0_cost { frames := 3, cells := 0, slots := 0, locals := 65 } D (tyX tt) [.ref (ad 0), .int x, .int y, .int q] (xw ad tt R w c k d n wp wr) (fun u : Nat → Int32 => xw ad tt R w u k d n wp wr) (fun v u => r_cost R w c x y q v u) := by
  refine xe_i (cc := cX0_cost) (maxL := 6) (ret := (some .int)) (lvl := [(0, .ref (ad 0)), (1, .int x), (2, .int y), (3, .int q)]) (by decide) rfl (Nat.le_of_ble_eq_true rfl) rfl ?_
  intro p e s m below meth cd A ls hx hb hr hlocks hml hown hts hA hP hK hD hS hl
  have hin : ∀ w ∈ wsX00, w ∈ wsX0_cost := fun _ h => List.mem_cons_of_mem _ (List.mem_append_right _ h)
  have S0 : CallFix p m cd cX0_cost 6 s (([.ref (ad 0), .int x, .int y, .int q] : List Value).toArray) wsX0_cost RX0 := ⟨hx, hb, hml, hown, hts⟩
  obtain ⟨H, hH⟩ : ∃ H, H = s.heap := ⟨_, rfl⟩
  obtain ⟨locs, hlocs⟩ : ∃ q : List Loc, q = [] := ⟨_, rfl⟩
  have hP : va_P D vwCl (xw ad tt R w c k d n wp wr) H := by rw [hH]; exact hP
  have hS : va_S A s.heap H locs := by rw [hH, hlocs]; exact hS
  suffices hgo : W p l e (headSpec wsX0_cost ({ frames := 3, cells := 0, slots := 0, locals := 65 } : Room)).room s m (([.ref (ad 0), .int x, .int y, .int q] : List Value).toArray) below meth cd H locs 0 0 (MQ below (va_Qi (fun v u => r_cost R w c x y q v u) (xB D (tyX tt) A (fun u : Nat → Int32 => xw ad tt R w u k d n wp wr)) A) ([.ref (ad 0), .int x, .int y, .int q] : List Value).toArray s 0 0 A) (F0 m 0 ls []) by rw [hH, hlocs] at hgo; exact hgo
  clear hH hlocs
  have f_costAt := hts (.fieldLink RX0 26 "WireWays" "costAt" "[I") (by decide +kernel)
  refine lv_aload_n hx hb dX0_cost_0 rfl (lv_at hl 0 rfl) ?_
  refine lv_iload_n hx hb dX0_cost_1 rfl (lv_at hl 1 rfl) ?_
  refine lv_iload_n hx hb dX0_cost_2 rfl (lv_at hl 2 rfl) ?_
  refine xs_Vi (wr := []) (q0 := 0) (ci := 0) (nA := 2) (As := [.int x, .int y]) (rest := []) S0 (k_X0_isPluggedPort l D ad tt R w c k d n wp wr x y hR) gX0_cost_X0_isPluggedPort rfl ⟨rfl, rfl⟩ (by decide +kernel) rfl ⟨Nat.le_of_ble_eq_true rfl, Nat.le_of_ble_eq_true rfl⟩ ⟨Nat.le_of_ble_eq_true rfl, Nat.le_of_ble_eq_true rfl⟩ hK hP hD hS hA [0, 1, 2, 3, 4, 5] [] rfl rfl (by decide) (by decide) (by decide) rfl rfl rfl hl.1 rfl (Nat.le_of_ble_eq_true rfl) dX0_cost_3 (fun r_1 u H locs hw hP hD hS => ?_)
  have hP : va_P D vwCl (xw ad tt R w c k d n wp wr) H := hP
  have hD : va_D A (xw ad tt R w c k d n wp wr) := hD
  rcases hw with ⟨rfl, h_p⟩ | ⟨rfl, h_p⟩
  · refine lv_if_eq (tgt := 16) hx hb dX0_cost_6 (by decide) (fun c_2 => absurd c_2 (by decide)) (fun c_2 => ?_)
    refine lv_iload_n hx hb dX0_cost_9 rfl (lv_at hl 3 rfl) ?_
    refine xs_Si (nA := 1) (As := [.int q]) (rest := []) S0 (k_X0_isCost l D q) gX0_cost_X0_isCost rfl ⟨rfl, rfl⟩ (by decide +kernel) rfl ⟨Nat.le_of_ble_eq_true rfl, Nat.le_of_ble_eq_true rfl⟩ ⟨Nat.le_of_ble_eq_true rfl, Nat.le_of_ble_eq_true rfl⟩ hK hP hD hS hA hl.1 rfl (Nat.le_of_ble_eq_true rfl) dX0_cost_10 (fun r_3 H locs hw hP hD hS => ?_)
    rcases hw with ⟨rfl, h_c⟩ | ⟨rfl, h_c⟩
    · refine lv_if_ne (tgt := 18) hx hb dX0_cost_13 (by decide) (fun c_4 => ?_) (fun c_4 => absurd c_4 (by decide))
      obtain ⟨i, j, hi, hj, rfl, rfl, h_i⟩ := h_p
      refine lv_iload_n hx hb dX0_cost_18 rfl (lv_at hl 1 rfl) ?_
      refine lv_iload_n hx hb dX0_cost_19 rfl (lv_at hl 2 rfl) ?_
      refine xs_Si (nA := 2) (As := [.int (nI i), .int (nI j)]) (rest := []) S0 (k_X0_placeOf l D (nI i) (nI j)) gX0_cost_X0_placeOf rfl ⟨rfl, rfl⟩ (by decide +kernel) rfl ⟨Nat.le_of_ble_eq_true rfl, Nat.le_of_ble_eq_true rfl⟩ ⟨Nat.le_of_ble_eq_true rfl, Nat.le_of_ble_eq_true rfl⟩ hK hP hD hS hA hl.1 rfl (Nat.le_of_ble_eq_true rfl) dX0_cost_20 (fun r_5 H locs hw hP hD hS => ?_)
      have hw : r_5 = nI (4 * i + j) := by rw [hw]; exact nI_pl _ _
      subst hw
      refine lv_istore (lv' := [(4, .int (nI (4 * i + j))), (0, .ref (ad 0)), (1, .int (nI i)), (2, .int (nI j)), (3, .int q)]) hx hb dX0_cost_23 hl (by decide) rfl (fun ls hl => ?_)
      refine lv_aload_n hx hb dX0_cost_25 rfl (lv_at hl 1 rfl) ?_
      refine x0_get (v := .ref (ad 2)) S0 hin hK hP 2 (by decide) f_costAt rfl rfl dX0_cost_26 ?_
      refine lv_iload hx hb dX0_cost_29 (lv_at hl 0 rfl) ?_
      refine va_iald hx hb hK hP 2 1 rfl rfl (vp_in_nI (by omega) (by omega)) dX0_cost_31 ?_
      refine xt_eq (z := c (4 * i + j)) (congrArg c (nI_clamp (by omega))) ?_
      refine lv_istore (lv' := [(5, .int (c (4 * i + j))), (4, .int (nI (4 * i + j))), (0, .ref (ad 0)), (1, .int (nI i)), (2, .int (nI j)), (3, .int q)]) hx hb dX0_cost_32 hl (by decide) rfl (fun ls hl => ?_)
      refine lv_aload_n hx hb dX0_cost_34 rfl (lv_at hl 2 rfl) ?_
      refine x0_get (v := .ref (ad 2)) S0 hin hK hP 2 (by decide) f_costAt rfl rfl dX0_cost_35 ?_
      refine lv_iload hx hb dX0_cost_38 (lv_at hl 1 rfl) ?_
      refine lv_iload_n hx hb dX0_cost_40 rfl (lv_at hl 5 rfl) ?_
      refine va_iast hx hb hK hP hD hS 2 1 rfl rfl (vp_in_nI (by omega) (by omega)) dX0_cost_41 (fun H locs hP hD hS => ?_)
      rw [(nI_clamp (by omega))] at hP hD
      have hP : va_P D vwCl (xw ad tt R w (upd c (4 * i + j) q) k d n wp wr) H := hP
      have hD : va_D A (xw ad tt R w (upd c (4 * i + j) q) k d n wp wr) := hD
      refine lv_iload hx hb dX0_cost_42 (lv_at hl 0 rfl) ?_
      exact xr_i hx hb hr hlocks (upd c (4 * i + j) q) (Or.inl ⟨i, j, ⟨hi, hj, rfl, rfl, ix_m1 h_i⟩, h_c, rfl, rfl⟩) hP hK hD hS dX0_cost_44
    · refine lv_if_ne (tgt := 18) hx hb dX0_cost_13 (by decide) (fun c_6 => absurd c_6 (by decide)) (fun c_6 => ?_)
      refine lv_iconst (v := (-1)) hx hb dX0_cost_16 (by decide) ?_
      exact xr_i hx hb hr hlocks c (Or.inr ⟨rfl, fun h => by first | exact h_p (drc_plg hR hW h.1) | exact h_c h.2, rfl⟩) hP hK hD hS dX0_cost_17
  · refine lv_if_eq (tgt := 16) hx hb dX0_cost_6 (by decide) (fun c_7 => ?_) (fun c_7 => absurd c_7 (by decide))
    refine lv_iconst (v := (-1)) hx hb dX0_cost_16 (by decide) ?_
    exact xr_i hx hb hr hlocks c (Or.inr ⟨rfl, fun h => by first | exact h_p (drc_plg hR hW h.1) | exact h_c h.2, rfl⟩) hP hK hD hS dX0_cost_17
set_option maxHeartbeats 4000000 in
set_option maxRecDepth 100000 in
theorem k_X1_cost (l : Launch) (D : va_G) (ad : Nat → Nat) (tt : Nat → ClassId) (R : Nat) (w c k d : Nat → Int32) (wp wr : Int32) (x y q : Int32) (hR : R ≤ 10) : xMi l yX1_cost wsX1_cost { frames := 2, cells := 0, slots := 0, locals := 43 } D (tyM tt) [.ref (ad 0), .int x, .int y, .int q] (mw ad tt R w c k d wp wr) (fun u : Nat → Int32 => mw ad tt R w u k d wp wr) (fun v u => r_cost R w c x y q v u) := by
  refine xe_i (cc := cX1_cost) (maxL := 5) (ret := (some .int)) (lvl := [(0, .ref (ad 0)), (1, .int x), (2, .int y), (3, .int q)]) (by decide) rfl (Nat.le_of_ble_eq_true rfl) rfl ?_
  intro p e s m below meth cd A ls hx hb hr hlocks hml hown hts hA hP hK hD hS hl
  have hin : ∀ w ∈ wsX10, w ∈ wsX1_cost := fun _ h => List.mem_cons_of_mem _ (List.mem_append_right _ h)
  have S0 : CallFix p m cd cX1_cost 5 s (([.ref (ad 0), .int x, .int y, .int q] : List Value).toArray) wsX1_cost RX1 := ⟨hx, hb, hml, hown, hts⟩
  obtain ⟨H, hH⟩ : ∃ H, H = s.heap := ⟨_, rfl⟩
  obtain ⟨locs, hlocs⟩ : ∃ q : List Loc, q = [] := ⟨_, rfl⟩
  have hP : va_P D vwCl (mw ad tt R w c k d wp wr) H := by rw [hH]; exact hP
  have hS : va_S A s.heap H locs := by rw [hH, hlocs]; exact hS
  suffices hgo : W p l e (headSpec wsX1_cost ({ frames := 2, cells := 0, slots := 0, locals := 43 } : Room)).room s m (([.ref (ad 0), .int x, .int y, .int q] : List Value).toArray) below meth cd H locs 0 0 (MQ below (va_Qi (fun v u => r_cost R w c x y q v u) (xB D (tyM tt) A (fun u : Nat → Int32 => mw ad tt R w u k d wp wr)) A) ([.ref (ad 0), .int x, .int y, .int q] : List Value).toArray s 0 0 A) (F0 m 0 ls []) by rw [hH, hlocs] at hgo; exact hgo
  clear hH hlocs
  have f_wireOf := hts (.fieldLink RX1 7 "WireWaysModel" "wireOf" "[I") (by decide +kernel)
  have f_costOf := hts (.fieldLink RX1 13 "WireWaysModel" "costOf" "[I") (by decide +kernel)
  refine lv_aload_n hx hb dX1_cost_0 rfl (lv_at hl 0 rfl) ?_
  refine lv_iload_n hx hb dX1_cost_1 rfl (lv_at hl 1 rfl) ?_
  refine lv_iload_n hx hb dX1_cost_2 rfl (lv_at hl 2 rfl) ?_
  refine xs_Vi (wr := []) (q0 := 0) (ci := 1) (nA := 2) (As := [.int x, .int y]) (rest := []) S0 (k_X1_isPlace l D ad tt R w c k d wp wr x y hR) gX1_cost_X1_isPlace rfl ⟨rfl, rfl⟩ (by decide +kernel) rfl ⟨Nat.le_of_ble_eq_true rfl, Nat.le_of_ble_eq_true rfl⟩ ⟨Nat.le_of_ble_eq_true rfl, Nat.le_of_ble_eq_true rfl⟩ hK hP hD hS hA [0, 1, 2, 3, 4] [] rfl rfl (by decide) (by decide) (by decide) rfl rfl rfl hl.1 rfl (Nat.le_of_ble_eq_true rfl) dX1_cost_3 (fun r_1 u H locs hw hP hD hS => ?_)
  have hP : va_P D vwCl (mw ad tt R w c k d wp wr) H := hP
  have hD : va_D A (mw ad tt R w c k d wp wr) := hD
  rcases hw with ⟨rfl, h_p⟩ | ⟨rfl, h_p⟩
  · refine lv_if_eq (tgt := 34) hx hb dX1_cost_6 (by decide) (fun c_2 => absurd c_2 (by decide)) (fun c_2 => ?_)
    obtain ⟨⟨i, hi, rfl⟩, ⟨j, hj, rfl⟩⟩ := h_p
    refine lv_aload_n hx hb dX1_cost_9 rfl (lv_at hl 0 rfl) ?_
    refine x1_get (v := .ref (ad 1)) S0 hin hK hP 1 (by decide) f_wireOf rfl rfl dX1_cost_10 ?_
    refine lv_iconst (v := 4) hx hb dX1_cost_13 (by decide) ?_
    refine lv_iload_n hx hb dX1_cost_14 rfl (lv_at hl 1 rfl) ?_
    refine lv_imul hx hb dX1_cost_15 ?_
    refine lv_iload_n hx hb dX1_cost_16 rfl (lv_at hl 2 rfl) ?_
    refine lv_iadd hx hb dX1_cost_17 ?_
    refine xt_eq (z := nI (4 * i + j)) (nI_lp i j) ?_
    refine va_iald hx hb hK hP 1 0 rfl rfl (vp_in_nI (by omega) (by omega)) dX1_cost_18 ?_
    refine xt_eq (z := w (4 * i + j)) (congrArg w (nI_clamp (by omega))) ?_
    refine lv_iconst (v := (-1)) hx hb dX1_cost_19 (by decide) ?_
    refine lv_icmp_eq (tgt := 34) hx hb dX1_cost_20 (by decide) (fun c_3 => ?_) (fun c_3 => ?_)
    · have h_e := c_3
      refine lv_iconst (v := (-1)) hx hb dX1_cost_34 (by decide) ?_
      exact xr_i hx hb hr hlocks c (Or.inr ⟨rfl, fun h => by first | exact h_p (drc_p h.1) | exact drc_e hR hi hj h.1 h_e | exact h_c h.2, rfl⟩) hP hK hD hS dX1_cost_35
    · have h_e := c_3
      refine lv_iload_n hx hb dX1_cost_23 rfl (lv_at hl 3 rfl) ?_
      refine lv_iconst (v := 1) hx hb dX1_cost_24 (by decide) ?_
      refine lv_icmp_lt (tgt := 34) hx hb dX1_cost_25 (by decide) (fun c_4 => ?_) (fun c_4 => ?_)
      · have h_c := okc_n0 c_4
        refine lv_iconst (v := (-1)) hx hb dX1_cost_34 (by decide) ?_
        exact xr_i hx hb hr hlocks c (Or.inr ⟨rfl, fun h => by first | exact h_p (drc_p h.1) | exact drc_e hR hi hj h.1 h_e | exact h_c h.2, rfl⟩) hP hK hD hS dX1_cost_35
      · refine lv_iload_n hx hb dX1_cost_28 rfl (lv_at hl 3 rfl) ?_
        refine lv_bipush (v := 9) hx hb dX1_cost_29 (by decide) ?_
        refine lv_icmp_le (tgt := 36) hx hb dX1_cost_31 (by decide) (fun c_5 => ?_) (fun c_5 => ?_)
        · have h_c := okc_ofle (by assumption) c_5
          refine lv_aload_n hx hb dX1_cost_36 rfl (lv_at hl 0 rfl) ?_
          refine x1_get (v := .ref (ad 2)) S0 hin hK hP 2 (by decide) f_costOf rfl rfl dX1_cost_37 ?_
          refine lv_iconst (v := 4) hx hb dX1_cost_40 (by decide) ?_
          refine lv_iload_n hx hb dX1_cost_41 rfl (lv_at hl 1 rfl) ?_
          refine lv_imul hx hb dX1_cost_42 ?_
          refine lv_iload_n hx hb dX1_cost_43 rfl (lv_at hl 2 rfl) ?_
          refine lv_iadd hx hb dX1_cost_44 ?_
          refine xt_eq (z := nI (4 * i + j)) (nI_lp i j) ?_
          refine va_iald hx hb hK hP 2 1 rfl rfl (vp_in_nI (by omega) (by omega)) dX1_cost_45 ?_
          refine xt_eq (z := c (4 * i + j)) (congrArg c (nI_clamp (by omega))) ?_
          refine lv_istore (lv' := [(4, .int (c (4 * i + j))), (0, .ref (ad 0)), (1, .int (nI i)), (2, .int (nI j)), (3, .int q)]) hx hb dX1_cost_46 hl (by decide) rfl (fun ls hl => ?_)
          refine lv_aload_n hx hb dX1_cost_48 rfl (lv_at hl 1 rfl) ?_
          refine x1_get (v := .ref (ad 2)) S0 hin hK hP 2 (by decide) f_costOf rfl rfl dX1_cost_49 ?_
          refine lv_iconst (v := 4) hx hb dX1_cost_52 (by decide) ?_
          refine lv_iload_n hx hb dX1_cost_53 rfl (lv_at hl 2 rfl) ?_
          refine lv_imul hx hb dX1_cost_54 ?_
          refine lv_iload_n hx hb dX1_cost_55 rfl (lv_at hl 3 rfl) ?_
          refine lv_iadd hx hb dX1_cost_56 ?_
          refine xt_eq (z := nI (4 * i + j)) (nI_lp i j) ?_
          refine lv_iload_n hx hb dX1_cost_57 rfl (lv_at hl 4 rfl) ?_
          refine va_iast hx hb hK hP hD hS 2 1 rfl rfl (vp_in_nI (by omega) (by omega)) dX1_cost_58 (fun H locs hP hD hS => ?_)
          rw [(nI_clamp (by omega))] at hP hD
          have hP : va_P D vwCl (mw ad tt R w (upd c (4 * i + j) q) k d wp wr) H := hP
          have hD : va_D A (mw ad tt R w (upd c (4 * i + j) q) k d wp wr) := hD
          refine lv_iload hx hb dX1_cost_59 (lv_at hl 0 rfl) ?_
          exact xr_i hx hb hr hlocks (upd c (4 * i + j) q) (Or.inl ⟨i, j, ⟨hi, hj, rfl, rfl, h_e⟩, h_c, rfl, rfl⟩) hP hK hD hS dX1_cost_61
        · have h_c := okc_nle c_5
          refine lv_iconst (v := (-1)) hx hb dX1_cost_34 (by decide) ?_
          exact xr_i hx hb hr hlocks c (Or.inr ⟨rfl, fun h => by first | exact h_p (drc_p h.1) | exact drc_e hR hi hj h.1 h_e | exact h_c h.2, rfl⟩) hP hK hD hS dX1_cost_35
  · refine lv_if_eq (tgt := 34) hx hb dX1_cost_6 (by decide) (fun c_6 => ?_) (fun c_6 => absurd c_6 (by decide))
    refine lv_iconst (v := (-1)) hx hb dX1_cost_34 (by decide) ?_
    exact xr_i hx hb hr hlocks c (Or.inr ⟨rfl, fun h => by first | exact h_p (drc_p h.1) | exact drc_e hR hi hj h.1 h_e | exact h_c h.2, rfl⟩) hP hK hD hS dX1_cost_35
set_option maxHeartbeats 4000000 in
set_option maxRecDepth 100000 in
theorem k_X0_cut (l : Launch) (D : va_G) (ad : Nat → Nat) (tt : Nat → ClassId) (R : Nat) (w c k d n : Nat → Int32) (wp wr : Int32) (z : Int32) : xMi l yX0_cut wsX0_cut { frames := 2, cells := 0, slots := 0, locals := 41 } D (tyX tt) [.ref (ad 0), .int z] (xw ad tt R w c k d n wp wr) (fun u : Nat → Int32 => xw ad tt R w c u d n wp wr) (fun v u => r_cut k z v u) := by
  refine xe_i (cc := cX0_cut) (maxL := 2) (ret := (some .boolean)) (lvl := [(0, .ref (ad 0)), (1, .int z)]) (by decide) rfl (Nat.le_of_ble_eq_true rfl) rfl ?_
  intro p e s m below meth cd A ls hx hb hr hlocks hml hown hts hA hP hK hD hS hl
  have hin : ∀ w ∈ wsX00, w ∈ wsX0_cut := fun _ h => List.mem_cons_of_mem _ (List.mem_append_right _ h)
  have S0 : CallFix p m cd cX0_cut 2 s (([.ref (ad 0), .int z] : List Value).toArray) wsX0_cut RX0 := ⟨hx, hb, hml, hown, hts⟩
  obtain ⟨H, hH⟩ : ∃ H, H = s.heap := ⟨_, rfl⟩
  obtain ⟨locs, hlocs⟩ : ∃ q : List Loc, q = [] := ⟨_, rfl⟩
  have hP : va_P D vwCl (xw ad tt R w c k d n wp wr) H := by rw [hH]; exact hP
  have hS : va_S A s.heap H locs := by rw [hH, hlocs]; exact hS
  suffices hgo : W p l e (headSpec wsX0_cut ({ frames := 2, cells := 0, slots := 0, locals := 41 } : Room)).room s m (([.ref (ad 0), .int z] : List Value).toArray) below meth cd H locs 0 0 (MQ below (va_Qi (fun v u => r_cut k z v u) (xB D (tyX tt) A (fun u : Nat → Int32 => xw ad tt R w c u d n wp wr)) A) ([.ref (ad 0), .int z] : List Value).toArray s 0 0 A) (F0 m 0 ls []) by rw [hH, hlocs] at hgo; exact hgo
  clear hH hlocs
  have f_isCut := hts (.fieldLink RX0 29 "WireWays" "isCut" "[Z") (by decide +kernel)
  refine lv_aload_n hx hb dX0_cut_0 rfl (lv_at hl 0 rfl) ?_
  refine lv_iload_n hx hb dX0_cut_1 rfl (lv_at hl 1 rfl) ?_
  refine xs_Vi (wr := []) (q0 := 0) (ci := 0) (nA := 1) (As := [.int z]) (rest := []) S0 (k_X0_isUp l D ad tt R w c k d n wp wr z) gX0_cut_X0_isUp rfl ⟨rfl, rfl⟩ (by decide +kernel) rfl ⟨Nat.le_of_ble_eq_true rfl, Nat.le_of_ble_eq_true rfl⟩ ⟨Nat.le_of_ble_eq_true rfl, Nat.le_of_ble_eq_true rfl⟩ hK hP hD hS hA [0, 1, 2, 3, 4, 5] [] rfl rfl (by decide) (by decide) (by decide) rfl rfl rfl hl.1 rfl (Nat.le_of_ble_eq_true rfl) dX0_cut_2 (fun r_1 u H locs hw hP hD hS => ?_)
  have hP : va_P D vwCl (xw ad tt R w c k d n wp wr) H := hP
  have hD : va_D A (xw ad tt R w c k d n wp wr) := hD
  rcases hw with ⟨rfl, h_u⟩ | ⟨rfl, h_u⟩
  · refine lv_if_ne (tgt := 10) hx hb dX0_cut_5 (by decide) (fun c_2 => ?_) (fun c_2 => absurd c_2 (by decide))
    obtain ⟨a, ha, rfl, h_k⟩ := h_u
    refine lv_aload_n hx hb dX0_cut_10 rfl (lv_at hl 0 rfl) ?_
    refine x0_get (v := .ref (ad 3)) S0 hin hK hP 3 (by decide) f_isCut rfl rfl dX0_cut_11 ?_
    refine lv_iload_n hx hb dX0_cut_14 rfl (lv_at hl 1 rfl) ?_
    refine lv_iconst (v := 1) hx hb dX0_cut_15 (by decide) ?_
    refine va_zast hx hb hK hP hD hS 3 2 rfl rfl (vp_in_nI (by omega) (by omega)) dX0_cut_16 (fun H locs hP hD hS => ?_)
    rw [(nI_clamp (by omega)), vn_1] at hP hD
    have hP : va_P D vwCl (xw ad tt R w c (upd k a 1) d n wp wr) H := hP
    have hD : va_D A (xw ad tt R w c (upd k a 1) d n wp wr) := hD
    refine lv_iconst (v := 1) hx hb dX0_cut_17 (by decide) ?_
    exact xr_z hx hb hr hlocks rfl (upd k a 1) (Or.inl ⟨rfl, a, ha, rfl, h_k, rfl⟩) hP hK hD hS dX0_cut_18
  · refine lv_if_ne (tgt := 10) hx hb dX0_cut_5 (by decide) (fun c_3 => absurd c_3 (by decide)) (fun c_3 => ?_)
    refine lv_iconst (v := 0) hx hb dX0_cut_8 (by decide) ?_
    exact xr_z hx hb hr hlocks rfl k (Or.inr ⟨rfl, h_u, rfl⟩) hP hK hD hS dX0_cut_9
set_option maxHeartbeats 4000000 in
set_option maxRecDepth 100000 in
theorem k_X1_cut (l : Launch) (D : va_G) (ad : Nat → Nat) (tt : Nat → ClassId) (R : Nat) (w c k d : Nat → Int32) (wp wr : Int32) (z : Int32) : xMi l yX1_cut wsX1_cut { frames := 1, cells := 0, slots := 0, locals := 20 } D (tyM tt) [.ref (ad 0), .int z] (mw ad tt R w c k d wp wr) (fun u : Nat → Int32 => mw ad tt R w c u d wp wr) (fun v u => r_cut k z v u) := by
  refine xe_i (cc := cX1_cut) (maxL := 2) (ret := (some .boolean)) (lvl := [(0, .ref (ad 0)), (1, .int z)]) (by decide) rfl (Nat.le_of_ble_eq_true rfl) rfl ?_
  intro p e s m below meth cd A ls hx hb hr hlocks hml hown hts hA hP hK hD hS hl
  have hin : ∀ w ∈ wsX10, w ∈ wsX1_cut := fun _ h => List.mem_cons_of_mem _ (List.mem_append_right _ h)
  have S0 : CallFix p m cd cX1_cut 2 s (([.ref (ad 0), .int z] : List Value).toArray) wsX1_cut RX1 := ⟨hx, hb, hml, hown, hts⟩
  obtain ⟨H, hH⟩ : ∃ H, H = s.heap := ⟨_, rfl⟩
  obtain ⟨locs, hlocs⟩ : ∃ q : List Loc, q = [] := ⟨_, rfl⟩
  have hP : va_P D vwCl (mw ad tt R w c k d wp wr) H := by rw [hH]; exact hP
  have hS : va_S A s.heap H locs := by rw [hH, hlocs]; exact hS
  suffices hgo : W p l e (headSpec wsX1_cut ({ frames := 1, cells := 0, slots := 0, locals := 20 } : Room)).room s m (([.ref (ad 0), .int z] : List Value).toArray) below meth cd H locs 0 0 (MQ below (va_Qi (fun v u => r_cut k z v u) (xB D (tyM tt) A (fun u : Nat → Int32 => mw ad tt R w c u d wp wr)) A) ([.ref (ad 0), .int z] : List Value).toArray s 0 0 A) (F0 m 0 ls []) by rw [hH, hlocs] at hgo; exact hgo
  clear hH hlocs
  have f_isCut := hts (.fieldLink RX1 16 "WireWaysModel" "isCut" "[Z") (by decide +kernel)
  refine lv_iload_n hx hb dX1_cut_0 rfl (lv_at hl 1 rfl) ?_
  refine xs_Si (nA := 1) (As := [.int z]) (rest := []) S0 (k_X1_isWire l D z) gX1_cut_X1_isWire rfl ⟨rfl, rfl⟩ (by decide +kernel) rfl ⟨Nat.le_of_ble_eq_true rfl, Nat.le_of_ble_eq_true rfl⟩ ⟨Nat.le_of_ble_eq_true rfl, Nat.le_of_ble_eq_true rfl⟩ hK hP hD hS hA hl.1 rfl (Nat.le_of_ble_eq_true rfl) dX1_cut_1 (fun r_1 H locs hw hP hD hS => ?_)
  rcases hw with ⟨rfl, h_w⟩ | ⟨rfl, h_w⟩
  · refine lv_if_eq (tgt := 16) hx hb dX1_cut_4 (by decide) (fun c_2 => absurd c_2 (by decide)) (fun c_2 => ?_)
    obtain ⟨a, ha, rfl⟩ := h_w
    refine lv_aload_n hx hb dX1_cut_7 rfl (lv_at hl 0 rfl) ?_
    refine x1_get (v := .ref (ad 3)) S0 hin hK hP 3 (by decide) f_isCut rfl rfl dX1_cut_8 ?_
    refine lv_iload_n hx hb dX1_cut_11 rfl (lv_at hl 1 rfl) ?_
    refine va_zald hx hb hK hP 3 2 rfl rfl (vp_in_nI (by omega) (by omega)) dX1_cut_12 ?_
    refine xt_eq (z := k a) (congrArg k (nI_clamp (by omega))) ?_
    refine lv_if_eq (tgt := 18) hx hb dX1_cut_13 (by decide) (fun c_3 => ?_) (fun c_3 => ?_)
    · have h_k := c_3
      refine lv_aload_n hx hb dX1_cut_18 rfl (lv_at hl 0 rfl) ?_
      refine x1_get (v := .ref (ad 3)) S0 hin hK hP 3 (by decide) f_isCut rfl rfl dX1_cut_19 ?_
      refine lv_iload_n hx hb dX1_cut_22 rfl (lv_at hl 1 rfl) ?_
      refine lv_iconst (v := 1) hx hb dX1_cut_23 (by decide) ?_
      refine va_zast hx hb hK hP hD hS 3 2 rfl rfl (vp_in_nI (by omega) (by omega)) dX1_cut_24 (fun H locs hP hD hS => ?_)
      rw [(nI_clamp (by omega)), vn_1] at hP hD
      have hP : va_P D vwCl (mw ad tt R w c (upd k a 1) d wp wr) H := hP
      have hD : va_D A (mw ad tt R w c (upd k a 1) d wp wr) := hD
      refine lv_iconst (v := 1) hx hb dX1_cut_25 (by decide) ?_
      exact xr_z hx hb hr hlocks rfl (upd k a 1) (Or.inl ⟨rfl, a, ha, rfl, h_k, rfl⟩) hP hK hD hS dX1_cut_26
    · have h_k := c_3
      refine lv_iconst (v := 0) hx hb dX1_cut_16 (by decide) ?_
      exact xr_z hx hb hr hlocks rfl k (Or.inr ⟨rfl, fun h => by first | exact h_w (cut_w h) | exact h_k (cut_e ha h), rfl⟩) hP hK hD hS dX1_cut_17
  · refine lv_if_eq (tgt := 16) hx hb dX1_cut_4 (by decide) (fun c_4 => ?_) (fun c_4 => absurd c_4 (by decide))
    refine lv_iconst (v := 0) hx hb dX1_cut_16 (by decide) ?_
    exact xr_z hx hb hr hlocks rfl k (Or.inr ⟨rfl, fun h => by first | exact h_w (cut_w h) | exact h_k (cut_e ha h), rfl⟩) hP hK hD hS dX1_cut_17
set_option maxHeartbeats 4000000 in
set_option maxRecDepth 100000 in
theorem k_X0_mend (l : Launch) (D : va_G) (ad : Nat → Nat) (tt : Nat → ClassId) (R : Nat) (w c k d n : Nat → Int32) (wp wr : Int32) (z : Int32) : xMi l yX0_mend wsX0_mend { frames := 1, cells := 0, slots := 0, locals := 20 } D (tyX tt) [.ref (ad 0), .int z] (xw ad tt R w c k d n wp wr) (fun u : Nat → Int32 => xw ad tt R w c u d n wp wr) (fun v u => r_mend k z v u) := by
  refine xe_i (cc := cX0_mend) (maxL := 2) (ret := (some .boolean)) (lvl := [(0, .ref (ad 0)), (1, .int z)]) (by decide) rfl (Nat.le_of_ble_eq_true rfl) rfl ?_
  intro p e s m below meth cd A ls hx hb hr hlocks hml hown hts hA hP hK hD hS hl
  have hin : ∀ w ∈ wsX00, w ∈ wsX0_mend := fun _ h => List.mem_cons_of_mem _ (List.mem_append_right _ h)
  have S0 : CallFix p m cd cX0_mend 2 s (([.ref (ad 0), .int z] : List Value).toArray) wsX0_mend RX0 := ⟨hx, hb, hml, hown, hts⟩
  obtain ⟨H, hH⟩ : ∃ H, H = s.heap := ⟨_, rfl⟩
  obtain ⟨locs, hlocs⟩ : ∃ q : List Loc, q = [] := ⟨_, rfl⟩
  have hP : va_P D vwCl (xw ad tt R w c k d n wp wr) H := by rw [hH]; exact hP
  have hS : va_S A s.heap H locs := by rw [hH, hlocs]; exact hS
  suffices hgo : W p l e (headSpec wsX0_mend ({ frames := 1, cells := 0, slots := 0, locals := 20 } : Room)).room s m (([.ref (ad 0), .int z] : List Value).toArray) below meth cd H locs 0 0 (MQ below (va_Qi (fun v u => r_mend k z v u) (xB D (tyX tt) A (fun u : Nat → Int32 => xw ad tt R w c u d n wp wr)) A) ([.ref (ad 0), .int z] : List Value).toArray s 0 0 A) (F0 m 0 ls []) by rw [hH, hlocs] at hgo; exact hgo
  clear hH hlocs
  have f_isCut := hts (.fieldLink RX0 29 "WireWays" "isCut" "[Z") (by decide +kernel)
  refine lv_iload_n hx hb dX0_mend_0 rfl (lv_at hl 1 rfl) ?_
  refine xs_Si (nA := 1) (As := [.int z]) (rest := []) S0 (k_X0_isWire l D z) gX0_mend_X0_isWire rfl ⟨rfl, rfl⟩ (by decide +kernel) rfl ⟨Nat.le_of_ble_eq_true rfl, Nat.le_of_ble_eq_true rfl⟩ ⟨Nat.le_of_ble_eq_true rfl, Nat.le_of_ble_eq_true rfl⟩ hK hP hD hS hA hl.1 rfl (Nat.le_of_ble_eq_true rfl) dX0_mend_1 (fun r_1 H locs hw hP hD hS => ?_)
  rcases hw with ⟨rfl, h_w⟩ | ⟨rfl, h_w⟩
  · refine lv_if_eq (tgt := 16) hx hb dX0_mend_4 (by decide) (fun c_2 => absurd c_2 (by decide)) (fun c_2 => ?_)
    obtain ⟨a, ha, rfl⟩ := h_w
    refine lv_aload_n hx hb dX0_mend_7 rfl (lv_at hl 0 rfl) ?_
    refine x0_get (v := .ref (ad 3)) S0 hin hK hP 3 (by decide) f_isCut rfl rfl dX0_mend_8 ?_
    refine lv_iload_n hx hb dX0_mend_11 rfl (lv_at hl 1 rfl) ?_
    refine va_zald hx hb hK hP 3 2 rfl rfl (vp_in_nI (by omega) (by omega)) dX0_mend_12 ?_
    refine xt_eq (z := k a) (congrArg k (nI_clamp (by omega))) ?_
    refine lv_if_ne (tgt := 18) hx hb dX0_mend_13 (by decide) (fun c_3 => ?_) (fun c_3 => ?_)
    · have h_k := c_3
      refine lv_aload_n hx hb dX0_mend_18 rfl (lv_at hl 0 rfl) ?_
      refine x0_get (v := .ref (ad 3)) S0 hin hK hP 3 (by decide) f_isCut rfl rfl dX0_mend_19 ?_
      refine lv_iload_n hx hb dX0_mend_22 rfl (lv_at hl 1 rfl) ?_
      refine lv_iconst (v := 0) hx hb dX0_mend_23 (by decide) ?_
      refine va_zast hx hb hK hP hD hS 3 2 rfl rfl (vp_in_nI (by omega) (by omega)) dX0_mend_24 (fun H locs hP hD hS => ?_)
      rw [(nI_clamp (by omega)), vn_0] at hP hD
      have hP : va_P D vwCl (xw ad tt R w c (upd k a 0) d n wp wr) H := hP
      have hD : va_D A (xw ad tt R w c (upd k a 0) d n wp wr) := hD
      refine lv_iconst (v := 1) hx hb dX0_mend_25 (by decide) ?_
      exact xr_z hx hb hr hlocks rfl (upd k a 0) (Or.inl ⟨rfl, a, ha, rfl, h_k, rfl⟩) hP hK hD hS dX0_mend_26
    · have h_k := c_3
      refine lv_iconst (v := 0) hx hb dX0_mend_16 (by decide) ?_
      exact xr_z hx hb hr hlocks rfl k (Or.inr ⟨rfl, fun h => by first | exact h_w (mend_w h) | exact mend_e ha h h_k, rfl⟩) hP hK hD hS dX0_mend_17
  · refine lv_if_eq (tgt := 16) hx hb dX0_mend_4 (by decide) (fun c_4 => ?_) (fun c_4 => absurd c_4 (by decide))
    refine lv_iconst (v := 0) hx hb dX0_mend_16 (by decide) ?_
    exact xr_z hx hb hr hlocks rfl k (Or.inr ⟨rfl, fun h => by first | exact h_w (mend_w h) | exact mend_e ha h h_k, rfl⟩) hP hK hD hS dX0_mend_17
set_option maxHeartbeats 4000000 in
set_option maxRecDepth 100000 in
theorem k_X1_mend (l : Launch) (D : va_G) (ad : Nat → Nat) (tt : Nat → ClassId) (R : Nat) (w c k d : Nat → Int32) (wp wr : Int32) (z : Int32) : xMi l yX1_mend wsX1_mend { frames := 1, cells := 0, slots := 0, locals := 20 } D (tyM tt) [.ref (ad 0), .int z] (mw ad tt R w c k d wp wr) (fun u : Nat → Int32 => mw ad tt R w c u d wp wr) (fun v u => r_mend k z v u) := by
  refine xe_i (cc := cX1_mend) (maxL := 2) (ret := (some .boolean)) (lvl := [(0, .ref (ad 0)), (1, .int z)]) (by decide) rfl (Nat.le_of_ble_eq_true rfl) rfl ?_
  intro p e s m below meth cd A ls hx hb hr hlocks hml hown hts hA hP hK hD hS hl
  have hin : ∀ w ∈ wsX10, w ∈ wsX1_mend := fun _ h => List.mem_cons_of_mem _ (List.mem_append_right _ h)
  have S0 : CallFix p m cd cX1_mend 2 s (([.ref (ad 0), .int z] : List Value).toArray) wsX1_mend RX1 := ⟨hx, hb, hml, hown, hts⟩
  obtain ⟨H, hH⟩ : ∃ H, H = s.heap := ⟨_, rfl⟩
  obtain ⟨locs, hlocs⟩ : ∃ q : List Loc, q = [] := ⟨_, rfl⟩
  have hP : va_P D vwCl (mw ad tt R w c k d wp wr) H := by rw [hH]; exact hP
  have hS : va_S A s.heap H locs := by rw [hH, hlocs]; exact hS
  suffices hgo : W p l e (headSpec wsX1_mend ({ frames := 1, cells := 0, slots := 0, locals := 20 } : Room)).room s m (([.ref (ad 0), .int z] : List Value).toArray) below meth cd H locs 0 0 (MQ below (va_Qi (fun v u => r_mend k z v u) (xB D (tyM tt) A (fun u : Nat → Int32 => mw ad tt R w c u d wp wr)) A) ([.ref (ad 0), .int z] : List Value).toArray s 0 0 A) (F0 m 0 ls []) by rw [hH, hlocs] at hgo; exact hgo
  clear hH hlocs
  have f_isCut := hts (.fieldLink RX1 16 "WireWaysModel" "isCut" "[Z") (by decide +kernel)
  refine lv_iload_n hx hb dX1_mend_0 rfl (lv_at hl 1 rfl) ?_
  refine xs_Si (nA := 1) (As := [.int z]) (rest := []) S0 (k_X1_isWire l D z) gX1_mend_X1_isWire rfl ⟨rfl, rfl⟩ (by decide +kernel) rfl ⟨Nat.le_of_ble_eq_true rfl, Nat.le_of_ble_eq_true rfl⟩ ⟨Nat.le_of_ble_eq_true rfl, Nat.le_of_ble_eq_true rfl⟩ hK hP hD hS hA hl.1 rfl (Nat.le_of_ble_eq_true rfl) dX1_mend_1 (fun r_1 H locs hw hP hD hS => ?_)
  rcases hw with ⟨rfl, h_w⟩ | ⟨rfl, h_w⟩
  · refine lv_if_eq (tgt := 16) hx hb dX1_mend_4 (by decide) (fun c_2 => absurd c_2 (by decide)) (fun c_2 => ?_)
    obtain ⟨a, ha, rfl⟩ := h_w
    refine lv_aload_n hx hb dX1_mend_7 rfl (lv_at hl 0 rfl) ?_
    refine x1_get (v := .ref (ad 3)) S0 hin hK hP 3 (by decide) f_isCut rfl rfl dX1_mend_8 ?_
    refine lv_iload_n hx hb dX1_mend_11 rfl (lv_at hl 1 rfl) ?_
    refine va_zald hx hb hK hP 3 2 rfl rfl (vp_in_nI (by omega) (by omega)) dX1_mend_12 ?_
    refine xt_eq (z := k a) (congrArg k (nI_clamp (by omega))) ?_
    refine lv_if_ne (tgt := 18) hx hb dX1_mend_13 (by decide) (fun c_3 => ?_) (fun c_3 => ?_)
    · have h_k := c_3
      refine lv_aload_n hx hb dX1_mend_18 rfl (lv_at hl 0 rfl) ?_
      refine x1_get (v := .ref (ad 3)) S0 hin hK hP 3 (by decide) f_isCut rfl rfl dX1_mend_19 ?_
      refine lv_iload_n hx hb dX1_mend_22 rfl (lv_at hl 1 rfl) ?_
      refine lv_iconst (v := 0) hx hb dX1_mend_23 (by decide) ?_
      refine va_zast hx hb hK hP hD hS 3 2 rfl rfl (vp_in_nI (by omega) (by omega)) dX1_mend_24 (fun H locs hP hD hS => ?_)
      rw [(nI_clamp (by omega)), vn_0] at hP hD
      have hP : va_P D vwCl (mw ad tt R w c (upd k a 0) d wp wr) H := hP
      have hD : va_D A (mw ad tt R w c (upd k a 0) d wp wr) := hD
      refine lv_iconst (v := 1) hx hb dX1_mend_25 (by decide) ?_
      exact xr_z hx hb hr hlocks rfl (upd k a 0) (Or.inl ⟨rfl, a, ha, rfl, h_k, rfl⟩) hP hK hD hS dX1_mend_26
    · have h_k := c_3
      refine lv_iconst (v := 0) hx hb dX1_mend_16 (by decide) ?_
      exact xr_z hx hb hr hlocks rfl k (Or.inr ⟨rfl, fun h => by first | exact h_w (mend_w h) | exact mend_e ha h h_k, rfl⟩) hP hK hD hS dX1_mend_17
  · refine lv_if_eq (tgt := 16) hx hb dX1_mend_4 (by decide) (fun c_4 => ?_) (fun c_4 => absurd c_4 (by decide))
    refine lv_iconst (v := 0) hx hb dX1_mend_16 (by decide) ?_
    exact xr_z hx hb hr hlocks rfl k (Or.inr ⟨rfl, fun h => by first | exact h_w (mend_w h) | exact mend_e ha h h_k, rfl⟩) hP hK hD hS dX1_mend_17
end
section
/-! The graph that a state is: port q of router r leads to router b if both are on a wire that is up. -/
def ww_E (R : Nat) (w k : Nat → Int32) (r q b : Nat) : Prop := r < R ∧ q < 4 ∧ b < R ∧ b ≠ r ∧ ∃ x, x < 16 ∧ w (4 * r + q) = nI x ∧ k x = 0 ∧ ww_on w b (nI x)
def ww_c (c : Nat → Int32) (r q : Nat) : Nat := (c (4 * r + q)).toNatClampNeg
/-- what holds of every state -/
def ww_ok (R : Nat) (w c : Nat → Int32) : Prop := 1 ≤ R ∧ R ≤ 10 ∧ (∀ a, a < 40 → w a = -1 ∨ ix (w a) 16) ∧ (∀ a, a < 40 → w a ≠ -1 → okc (c a))
/-- the routers that are the aim, or on it -/
def ww_tg (w k : Nat → Int32) (ov : Int32) (t r : Nat) : Prop := (ov ≠ 0 → k t = 0 ∧ ww_on w r (nI t)) ∧ (ov = 0 → r = t)
theorem ww_c_ok {R : Nat} {w c : Nat → Int32} (h : ww_ok R w c) {r q x : Nat} (hr : r < R) (hq : q < 4) (hx : x < 16) (e : w (4 * r + q) = nI x) : c (4 * r + q) = nI (ww_c c r q) ∧ 1 ≤ ww_c c r q ∧ ww_c c r q ≤ 9 := by
  obtain ⟨h1, h2, h3, h4⟩ := h
  obtain ⟨y, y1, y9, ey⟩ := h4 (4 * r + q) (by omega) (by rw [e]; exact nI_m1 (by omega))
  have ec : ww_c c r q = y := by
    show (c (4 * r + q)).toNatClampNeg = y
    rw [ey]
    exact nI_clamp (by omega)
  rw [ec]
  exact ⟨ey, y1, y9⟩
theorem ww_gr {R : Nat} {w c k : Nat → Int32} (h : ww_ok R w c) : dm_gr R (ww_E R w k) (ww_c c) := by
  rintro r q b ⟨h1, h2, h3, h4, x, hx, ex, -⟩
  have := ww_c_ok h h1 h2 hx ex
  exact ⟨h3, h4, this.2.1, this.2.2⟩
def nup (f : Nat → Nat) (k v : Nat) : Nat → Nat := fun j => if j = k then v else f j
theorem nup_s {f : Nat → Nat} {k v : Nat} : nup f k v k = v := if_pos rfl
theorem nup_n {f : Nat → Nat} {k v j : Nat} (h : j ≠ k) : nup f k v j = f j := if_neg h
theorem row_up {N : Nat} {f : Nat → Int32} {g : Nat → Nat} (h : ∀ x, x < N → f x = nI (g x)) (i v : Nat) : ∀ x, x < N → upd f i (nI v) x = nI (nup g i v x) := fun x hx => by
  by_cases e : x = i
  · subst e
    rw [pk_us, nup_s]
  · rw [pk_un e, nup_n e]
    exact h x hx
theorem up_all {f : Nat → Int32} {i : Nat} {v : Int32} (h : ∀ x, x < i → f x = v) : ∀ x, x < i + 1 → upd f i v x = v := fun x hx => by
  by_cases e : x = i
  · subst e
    exact pk_us
  · rw [pk_un e]
    exact h x (by omega)
/-- nearest: for each wire the least distance of a router on it, over the places that V names -/
def fn_ok (R : Nat) (w k : Nat → Int32) (K : Nat) (dn nn : Nat → Nat) (V : Nat → Nat → Prop) : Prop := ∀ x, x < 16 → nn x ≤ K ∧ (∀ r q, V r q → r < R → q < 4 → w (4 * r + q) = nI x → k x = 0 → nn x ≤ dn r) ∧ (nn x = K ∨ ∃ r q, r < R ∧ q < 4 ∧ w (4 * r + q) = nI x ∧ k x = 0 ∧ nn x = dn r)
section
variable {R K : Nat} {w c k : Nat → Int32} {dn nn dm : Nat → Nat} {r q x : Nat}
theorem fn_V {V V' : Nat → Nat → Prop} (h : fn_ok R w k K dn nn V) (hV : ∀ a b, a < R → b < 4 → V' a b → V a b) : fn_ok R w k K dn nn V' := fun x hx => ⟨(h x hx).1, fun a b hv ha hb => (h x hx).2.1 a b (hV a b ha hb hv) ha hb, (h x hx).2.2⟩
theorem fn_0 (V : Nat → Nat → Prop) (hV : ∀ a b, ¬ V a b) : fn_ok R w k K dn (fun _ => K) V := fun x _ => ⟨Nat.le_refl _, fun a b hv => absurd hv (hV a b), Or.inl rfl⟩
theorem fn_skip (h : fn_ok R w k K dn nn (fun a b => a < r ∨ (a = r ∧ b < q))) (hno : ¬ upw k (w (4 * r + q))) : fn_ok R w k K dn nn (fun a b => a < r ∨ (a = r ∧ b < q + 1)) := fun x hx => by
  refine ⟨(h x hx).1, fun a b hv ha hb e hk => ?_, (h x hx).2.2⟩
  by_cases hab : a = r ∧ b = q
  · obtain ⟨rfl, rfl⟩ := hab
    exact absurd ⟨x, hx, e, hk⟩ hno
  · exact (h x hx).2.1 a b (by omega) ha hb e hk
theorem fn_keep (h : fn_ok R w k K dn nn (fun a b => a < r ∨ (a = r ∧ b < q))) (hx : x < 16) (ex : w (4 * r + q) = nI x) (hle : nn x ≤ dn r) : fn_ok R w k K dn nn (fun a b => a < r ∨ (a = r ∧ b < q + 1)) := fun y hy => by
  refine ⟨(h y hy).1, fun a b hv ha hb e hk => ?_, (h y hy).2.2⟩
  by_cases hab : a = r ∧ b = q
  · obtain ⟨rfl, rfl⟩ := hab
    have : x = y := (nI_eq (by omega) (by omega)).mp (ex.symm.trans e)
    subst this
    exact hle
  · exact (h y hy).2.1 a b (by omega) ha hb e hk
theorem fn_put (h : fn_ok R w k K dn nn (fun a b => a < r ∨ (a = r ∧ b < q))) (hr : r < R) (hq : q < 4) (hx : x < 16) (ex : w (4 * r + q) = nI x) (hk0 : k x = 0) (hlt : dn r < nn x) : fn_ok R w k K dn (nup nn x (dn r)) (fun a b => a < r ∨ (a = r ∧ b < q + 1)) := fun y hy => by
  by_cases hxy : y = x
  · subst hxy
    rw [nup_s]
    refine ⟨Nat.le_trans (Nat.le_of_lt hlt) (h y hy).1, fun a b hv ha hb e hk => ?_, Or.inr ⟨r, q, hr, hq, ex, hk0, rfl⟩⟩
    by_cases hab : a = r ∧ b = q
    · obtain ⟨rfl, rfl⟩ := hab
      exact Nat.le_refl _
    · have := (h y hy).2.1 a b (by omega) ha hb e hk
      omega
  · rw [nup_n hxy]
    refine ⟨(h y hy).1, fun a b hv ha hb e hk => ?_, (h y hy).2.2⟩
    by_cases hab : a = r ∧ b = q
    · obtain ⟨rfl, rfl⟩ := hab
      exact absurd ((nI_eq (by omega) (by omega)).mp (e.symm.trans ex)) hxy
    · exact (h y hy).2.1 a b (by omega) ha hb e hk
/-- a round: every router's distance may come down by its ports that V names -/
def sd_ok (R : Nat) (w c k : Nat → Int32) (nn dn dm : Nat → Nat) (V : Nat → Nat → Prop) : Prop := ∀ r, r < R → dm r ≤ dn r ∧ (∀ q x, V r q → q < 4 → x < 16 → w (4 * r + q) = nI x → k x = 0 → dm r ≤ ww_c c r q + nn x) ∧ (dm r = dn r ∨ ∃ q x, q < 4 ∧ x < 16 ∧ w (4 * r + q) = nI x ∧ k x = 0 ∧ dm r = ww_c c r q + nn x)
theorem sd_V {V V' : Nat → Nat → Prop} (h : sd_ok R w c k nn dn dm V) (hV : ∀ a b, a < R → b < 4 → V' a b → V a b) : sd_ok R w c k nn dn dm V' := fun r hr => ⟨(h r hr).1, fun q x hv hq => (h r hr).2.1 q x (hV r q hr hq hv) hq, (h r hr).2.2⟩
theorem sd_0 (V : Nat → Nat → Prop) (hV : ∀ a b, ¬ V a b) : sd_ok R w c k nn dn dn V := fun r _ => ⟨Nat.le_refl _, fun q x hv => absurd hv (hV r q), Or.inl rfl⟩
theorem sd_skip (h : sd_ok R w c k nn dn dm (fun a b => a < r ∨ (a = r ∧ b < q))) (hno : ¬ upw k (w (4 * r + q))) : sd_ok R w c k nn dn dm (fun a b => a < r ∨ (a = r ∧ b < q + 1)) := fun a ha => by
  refine ⟨(h a ha).1, fun b x hv hb hx e hk => ?_, (h a ha).2.2⟩
  by_cases hab : a = r ∧ b = q
  · obtain ⟨rfl, rfl⟩ := hab
    exact absurd ⟨x, hx, e, hk⟩ hno
  · exact (h a ha).2.1 b x (by omega) hb hx e hk
theorem sd_keep (h : sd_ok R w c k nn dn dm (fun a b => a < r ∨ (a = r ∧ b < q))) (hx : x < 16) (ex : w (4 * r + q) = nI x) (hle : dm r ≤ ww_c c r q + nn x) : sd_ok R w c k nn dn dm (fun a b => a < r ∨ (a = r ∧ b < q + 1)) := fun a ha => by
  refine ⟨(h a ha).1, fun b y hv hb hy e hk => ?_, (h a ha).2.2⟩
  by_cases hab : a = r ∧ b = q
  · obtain ⟨rfl, rfl⟩ := hab
    have : x = y := (nI_eq (by omega) (by omega)).mp (ex.symm.trans e)
    subst this
    exact hle
  · exact (h a ha).2.1 b y (by omega) hb hy e hk
theorem sd_put (h : sd_ok R w c k nn dn dm (fun a b => a < r ∨ (a = r ∧ b < q))) (hq : q < 4) (hx : x < 16) (ex : w (4 * r + q) = nI x) (hk0 : k x = 0) (hlt : ww_c c r q + nn x < dm r) : sd_ok R w c k nn dn (nup dm r (ww_c c r q + nn x)) (fun a b => a < r ∨ (a = r ∧ b < q + 1)) := fun a ha => by
  by_cases har : a = r
  · subst har
    rw [nup_s]
    have h0 := h a ha
    refine ⟨by omega, fun b y hv hb hy e hk => ?_, Or.inr ⟨q, x, hq, hx, ex, hk0, rfl⟩⟩
    by_cases hab : b = q
    · subst hab
      have : x = y := (nI_eq (by omega) (by omega)).mp (ex.symm.trans e)
      subst this
      exact Nat.le_refl _
    · have := h0.2.1 b y (by omega) hb hy e hk
      omega
  · rw [nup_n har]
    refine ⟨(h a ha).1, fun b y hv hb hy e hk => ?_, (h a ha).2.2⟩
    exact (h a ha).2.1 b y (by omega) hb hy e hk
theorem sd_le (h : sd_ok R w c k nn dn dm (fun a b => a < r ∨ (a = r ∧ b < q))) {a : Nat} (ha : a < R) : dm a ≤ dn a := (h a ha).1
end
end
section
set_option maxHeartbeats 4000000 in
set_option maxRecDepth 100000 in
theorem k_X0_findNearest (l : Launch) (D : va_G) (ad : Nat → Nat) (tt : Nat → ClassId) (R : Nat) (w c k d n : Nat → Int32) (wp wr : Int32) (hR : R ≤ 10) (dn : Nat → Nat) (hd : ∀ r, r < R → d r = nI (dn r) ∧ dn r ≤ 1000000) : xMv l yX0_findNearest wsX0_findNearest { frames := 2, cells := 0, slots := 0, locals := 41 } D (tyX tt) [.ref (ad 0)] (xw ad tt R w c k d n wp wr) (fun u : Nat → Int32 => xw ad tt R w c k d u wp wr) (fun u => ∃ nn : Nat → Nat, (∀ x, x < 16 → u x = nI (nn x)) ∧ fn_ok R w k 1000000 dn nn (fun _ _ => True)) := by
  refine xe_v (cc := cX0_findNearest) (maxL := 4) (ret := none) (lvl := [(0, .ref (ad 0))]) (by decide) rfl (Nat.le_of_ble_eq_true rfl) rfl ?_
  intro p e s m below meth cd A ls hx hb hr hlocks hml hown hts hA hP hK hD hS hl
  have hin : ∀ w ∈ wsX00, w ∈ wsX0_findNearest := fun _ h => List.mem_cons_of_mem _ (List.mem_append_right _ h)
  have S0 : CallFix p m cd cX0_findNearest 4 s (([.ref (ad 0)] : List Value).toArray) wsX0_findNearest RX0 := ⟨hx, hb, hml, hown, hts⟩
  obtain ⟨H, hH⟩ : ∃ H, H = s.heap := ⟨_, rfl⟩
  obtain ⟨locs, hlocs⟩ : ∃ q : List Loc, q = [] := ⟨_, rfl⟩
  have hP : va_P D vwCl (xw ad tt R w c k d n wp wr) H := by rw [hH]; exact hP
  have hS : va_S A s.heap H locs := by rw [hH, hlocs]; exact hS
  suffices hgo : W p l e (headSpec wsX0_findNearest ({ frames := 2, cells := 0, slots := 0, locals := 41 } : Room)).room s m (([.ref (ad 0)] : List Value).toArray) below meth cd H locs 0 0 (MQ below (va_Qv (fun u => ∃ nn : Nat → Nat, (∀ x, x < 16 → u x = nI (nn x)) ∧ fn_ok R w k 1000000 dn nn (fun _ _ => True)) (xB D (tyX tt) A (fun u : Nat → Int32 => xw ad tt R w c k d u wp wr)) A) ([.ref (ad 0)] : List Value).toArray s 0 0 A) (F0 m 0 ls []) by rw [hH, hlocs] at hgo; exact hgo
  clear hH hlocs
  have f_routers := hts (.fieldLink RX0 18 "WireWays" "routers" "I") (by decide +kernel)
  have f_wireAt := hts (.fieldLink RX0 22 "WireWays" "wireAt" "[I") (by decide +kernel)
  have f_distance := hts (.fieldLink RX0 33 "WireWays" "distance" "[I") (by decide +kernel)
  have f_nearest := hts (.fieldLink RX0 36 "WireWays" "nearest" "[I") (by decide +kernel)
  refine lv_iconst (v := 0) hx hb dX0_findNearest_0 (by decide) ?_
  refine lv_istore_n (lv' := [(1, .int 0), (0, .ref (ad 0))]) hx hb dX0_findNearest_1 rfl hl (by decide) rfl (fun ls hl => ?_)
  have lp2 : ∀ (fuel : Nat) (i : Nat) (n1 : Nat → Int32), (i ≤ 16) → (∀ x, x < i → n1 x = 1000000) → 16 - i < fuel → ∀ (H : Heap) (locs : List Loc) (ls : Array Slot), va_P D vwCl (xw ad tt R w c k d n1 wp wr) H → va_D A (xw ad tt R w c k d n1 wp wr) → va_S A s.heap H locs → lv_has ls 4 [(1, .int (nI i)), (0, .ref (ad 0))] → W p l e (headSpec wsX0_findNearest ({ frames := 2, cells := 0, slots := 0, locals := 41 } : Room)).room s m ([.ref (ad 0)] : List Value).toArray below meth cd H locs 0 0 (MQ below (va_Qv (fun u => ∃ nn : Nat → Nat, (∀ x, x < 16 → u x = nI (nn x)) ∧ fn_ok R w k 1000000 dn nn (fun _ _ => True)) (xB D (tyX tt) A (fun u : Nat → Int32 => xw ad tt R w c k d u wp wr)) A) ([.ref (ad 0)] : List Value).toArray s 0 0 A) (F0 m 2 ls []) := by
    intro fuel
    induction fuel with
    | zero => intro i n1 hi hn1 hm; exact absurd hm (Nat.not_lt_zero _)
    | succ fuel ih2 =>
      intro i n1 hi hn1 hm H locs ls hP hD hS hl
      refine lv_iload_n hx hb dX0_findNearest_2 rfl (lv_at hl 0 rfl) ?_
      refine lv_bipush (v := 16) hx hb dX0_findNearest_3 (by decide) ?_
      refine lv_icmp_ge (tgt := 22) hx hb dX0_findNearest_5 (by decide) (fun c_1 => ?_) (fun c_1 => ?_)
      · have h16 : 16 ≤ i := (nI_leI (a := 16) (by omega) (by omega)).mp c_1
        refine lv_iconst (v := 0) hx hb dX0_findNearest_22 (by decide) ?_
        refine lv_istore_n (lv' := [(1, .int 0), (0, .ref (ad 0))]) hx hb dX0_findNearest_23 rfl hl (by decide) rfl (fun ls hl => ?_)
        have lp24 : ∀ (fuel : Nat) (r : Nat) (n2 : Nat → Int32) (nn : Nat → Nat), (r ≤ R) → (∀ x, x < 16 → n2 x = nI (nn x)) → (fn_ok R w k 1000000 dn nn (fun a _ => a < r)) → R - r < fuel → ∀ (H : Heap) (locs : List Loc) (ls : Array Slot), va_P D vwCl (xw ad tt R w c k d n2 wp wr) H → va_D A (xw ad tt R w c k d n2 wp wr) → va_S A s.heap H locs → lv_has ls 4 [(1, .int (nI r)), (0, .ref (ad 0))] → W p l e (headSpec wsX0_findNearest ({ frames := 2, cells := 0, slots := 0, locals := 41 } : Room)).room s m ([.ref (ad 0)] : List Value).toArray below meth cd H locs 0 0 (MQ below (va_Qv (fun u => ∃ nn : Nat → Nat, (∀ x, x < 16 → u x = nI (nn x)) ∧ fn_ok R w k 1000000 dn nn (fun _ _ => True)) (xB D (tyX tt) A (fun u : Nat → Int32 => xw ad tt R w c k d u wp wr)) A) ([.ref (ad 0)] : List Value).toArray s 0 0 A) (F0 m 24 ls []) := by
          intro fuel
          induction fuel with
          | zero => intro r n2 nn hr0 hn2 hfn hm; exact absurd hm (Nat.not_lt_zero _)
          | succ fuel ih24 =>
            intro r n2 nn hr0 hn2 hfn hm H locs ls hP hD hS hl
            refine lv_iload_n hx hb dX0_findNearest_24 rfl (lv_at hl 0 rfl) ?_
            refine lv_aload_n hx hb dX0_findNearest_25 rfl (lv_at hl 1 rfl) ?_
            refine x0_get (v := .int (nI R)) S0 hin hK hP 0 (by decide) f_routers rfl rfl dX0_findNearest_26 ?_
            refine lv_icmp_ge (tgt := 97) hx hb dX0_findNearest_29 (by decide) (fun c_2 => ?_) (fun c_2 => ?_)
            · have hrR : R ≤ r := (nI_leI (by omega) (by omega)).mp c_2
              exact xr_v hx hb hr hlocks n2 ⟨nn, hn2, fn_V hfn (fun a b ha hb _ => by omega)⟩ hP hK hD hS dX0_findNearest_97
            · have hrR : r < R := Nat.lt_of_not_le (fun h => c_2 (nI_le h (by omega)))
              have hdr := hd r hrR
              refine lv_iconst (v := 0) hx hb dX0_findNearest_32 (by decide) ?_
              refine lv_istore_n (lv' := [(2, .int 0), (1, .int (nI r)), (0, .ref (ad 0))]) hx hb dX0_findNearest_33 rfl hl (by decide) rfl (fun ls hl => ?_)
              have lp34 : ∀ (fuel : Nat) (q : Nat) (n3 : Nat → Int32) (nm : Nat → Nat), (q ≤ 4) → (∀ x, x < 16 → n3 x = nI (nm x)) → (fn_ok R w k 1000000 dn nm (fun a b => a < r ∨ (a = r ∧ b < q))) → 4 - q < fuel → ∀ (H : Heap) (locs : List Loc) (ls : Array Slot), va_P D vwCl (xw ad tt R w c k d n3 wp wr) H → va_D A (xw ad tt R w c k d n3 wp wr) → va_S A s.heap H locs → lv_has ls 4 [(2, .int (nI q)), (1, .int (nI r)), (0, .ref (ad 0))] → W p l e (headSpec wsX0_findNearest ({ frames := 2, cells := 0, slots := 0, locals := 41 } : Room)).room s m ([.ref (ad 0)] : List Value).toArray below meth cd H locs 0 0 (MQ below (va_Qv (fun u => ∃ nn : Nat → Nat, (∀ x, x < 16 → u x = nI (nn x)) ∧ fn_ok R w k 1000000 dn nn (fun _ _ => True)) (xB D (tyX tt) A (fun u : Nat → Int32 => xw ad tt R w c k d u wp wr)) A) ([.ref (ad 0)] : List Value).toArray s 0 0 A) (F0 m 34 ls []) := by
                intro fuel
                induction fuel with
                | zero => intro q n3 nm hq0 hn3 hfm hm; exact absurd hm (Nat.not_lt_zero _)
                | succ fuel ih34 =>
                  intro q n3 nm hq0 hn3 hfm hm H locs ls hP hD hS hl
                  refine lv_iload_n hx hb dX0_findNearest_34 rfl (lv_at hl 0 rfl) ?_
                  refine lv_iconst (v := 4) hx hb dX0_findNearest_35 (by decide) ?_
                  refine lv_icmp_ge (tgt := 91) hx hb dX0_findNearest_36 (by decide) (fun c_3 => ?_) (fun c_3 => ?_)
                  · have hq4 : 4 ≤ q := (nI_leI (a := 4) (by omega) (by omega)).mp c_3
                    refine lv_iinc (v := nI (r + 1)) (lv' := [(1, .int (nI (r + 1))), (2, .int (nI q)), (0, .ref (ad 0))]) hx hb dX0_findNearest_91 hl (k := 1) rfl (nI_1 r) (by decide) rfl (fun ls hl => ?_)
                    refine lv_goto (tgt := 24) hx hb dX0_findNearest_94 (by decide) ?_
                    exact ih24 (r + 1) n3 nm (by omega) hn3 (fn_V hfm (fun a b ha hb h => by omega)) (by omega) H locs ls hP hD hS (lv_sub hl [0, 2] rfl)
                  · have hq4 : q < 4 := Nat.lt_of_not_le (fun h => c_3 (nI_le (a := 4) h (by omega)))
                    refine lv_aload_n hx hb dX0_findNearest_39 rfl (lv_at hl 2 rfl) ?_
                    refine x0_get (v := .ref (ad 1)) S0 hin hK hP 1 (by decide) f_wireAt rfl rfl dX0_findNearest_40 ?_
                    refine lv_iload_n hx hb dX0_findNearest_43 rfl (lv_at hl 1 rfl) ?_
                    refine lv_iload_n hx hb dX0_findNearest_44 rfl (lv_at hl 0 rfl) ?_
                    refine xs_Si (nA := 2) (As := [.int (nI r), .int (nI q)]) (rest := [.ref (ad 1)]) S0 (k_X0_placeOf l D (nI r) (nI q)) gX0_findNearest_X0_placeOf rfl ⟨rfl, rfl⟩ (by decide +kernel) rfl ⟨Nat.le_of_ble_eq_true rfl, Nat.le_of_ble_eq_true rfl⟩ ⟨Nat.le_of_ble_eq_true rfl, Nat.le_of_ble_eq_true rfl⟩ hK hP hD hS hA hl.1 rfl (Nat.le_of_ble_eq_true rfl) dX0_findNearest_45 (fun r_4 H locs hw hP hD hS => ?_)
                    have hw : r_4 = nI (4 * r + q) := by rw [hw]; exact nI_pl _ _
                    subst hw
                    refine va_iald hx hb hK hP 1 0 rfl rfl (vp_in_nI (by omega) (by omega)) dX0_findNearest_48 ?_
                    refine xt_eq (z := w (4 * r + q)) (congrArg w (nI_clamp (by omega))) ?_
                    refine lv_istore_n (lv' := [(3, .int (w (4 * r + q))), (2, .int (nI q)), (1, .int (nI r)), (0, .ref (ad 0))]) hx hb dX0_findNearest_49 rfl hl (by decide) rfl (fun ls hl => ?_)
                    refine lv_aload_n hx hb dX0_findNearest_50 rfl (lv_at hl 3 rfl) ?_
                    refine lv_iload_n hx hb dX0_findNearest_51 rfl (lv_at hl 0 rfl) ?_
                    refine xs_Vi (wr := []) (q0 := 0) (ci := 0) (nA := 1) (As := [.int (w (4 * r + q))]) (rest := []) S0 (k_X0_isUp l D ad tt R w c k d n3 wp wr (w (4 * r + q))) gX0_findNearest_X0_isUp rfl ⟨rfl, rfl⟩ (by decide +kernel) rfl ⟨Nat.le_of_ble_eq_true rfl, Nat.le_of_ble_eq_true rfl⟩ ⟨Nat.le_of_ble_eq_true rfl, Nat.le_of_ble_eq_true rfl⟩ hK hP hD hS hA [0, 1, 2, 3, 4, 5] [] rfl rfl (by decide) (by decide) (by decide) rfl rfl rfl hl.1 rfl (Nat.le_of_ble_eq_true rfl) dX0_findNearest_52 (fun r_5 u H locs hw hP hD hS => ?_)
                    have hP : va_P D vwCl (xw ad tt R w c k d n3 wp wr) H := hP
                    have hD : va_D A (xw ad tt R w c k d n3 wp wr) := hD
                    rcases hw with ⟨rfl, h_u⟩ | ⟨rfl, h_u⟩
                    · refine lv_if_eq (tgt := 85) hx hb dX0_findNearest_55 (by decide) (fun c_6 => absurd c_6 (by decide)) (fun c_6 => ?_)
                      obtain ⟨x, hx6, ex, hk0⟩ := h_u
                      have hx9 := (hfm x hx6).1
                      refine lv_aload_n hx hb dX0_findNearest_58 rfl (lv_at hl 3 rfl) ?_
                      refine x0_get (v := .ref (ad 4)) S0 hin hK hP 4 (by decide) f_distance rfl rfl dX0_findNearest_59 ?_
                      refine lv_iload_n hx hb dX0_findNearest_62 rfl (lv_at hl 2 rfl) ?_
                      refine va_iald hx hb hK hP 4 3 rfl rfl (vp_in_nI (by omega) (by omega)) dX0_findNearest_63 ?_
                      refine xt_eq (z := d r) (congrArg d (nI_clamp (by omega))) ?_
                      refine xt_eq (z := nI (dn r)) hdr.1 ?_
                      refine lv_aload_n hx hb dX0_findNearest_64 rfl (lv_at hl 3 rfl) ?_
                      refine x0_get (v := .ref (ad 5)) S0 hin hK hP 5 (by decide) f_nearest rfl rfl dX0_findNearest_65 ?_
                      refine lv_iload_n hx hb dX0_findNearest_68 rfl (lv_at hl 0 rfl) ?_
                      refine va_iald hx hb hK hP 5 4 rfl rfl (ex_in ex (by omega) (by omega)) dX0_findNearest_69 ?_
                      refine xt_eq (z := n3 x) (congrArg n3 (ex_cl ex (by omega))) ?_
                      refine xt_eq (z := nI (nm x)) (hn3 x hx6) ?_
                      refine lv_icmp_ge (tgt := 85) hx hb dX0_findNearest_70 (by decide) (fun c_7 => ?_) (fun c_7 => ?_)
                      · have hle : nm x ≤ dn r := (nI_leI (by omega) (by omega)).mp c_7
                        refine lv_iinc (v := nI (q + 1)) (lv' := [(2, .int (nI (q + 1))), (3, .int (w (4 * r + q))), (1, .int (nI r)), (0, .ref (ad 0))]) hx hb dX0_findNearest_85 hl (k := 1) rfl (nI_1 q) (by decide) rfl (fun ls hl => ?_)
                        refine lv_goto (tgt := 34) hx hb dX0_findNearest_88 (by decide) ?_
                        exact ih34 (q + 1) n3 nm (by omega) hn3 (fn_keep hfm hx6 ex hle) (by omega) H locs ls hP hD hS (lv_sub hl [0, 2, 3] rfl)
                      · have hle : dn r < nm x := Nat.lt_of_not_le (fun h => c_7 (nI_le h (by omega)))
                        refine lv_aload_n hx hb dX0_findNearest_73 rfl (lv_at hl 3 rfl) ?_
                        refine x0_get (v := .ref (ad 5)) S0 hin hK hP 5 (by decide) f_nearest rfl rfl dX0_findNearest_74 ?_
                        refine lv_iload_n hx hb dX0_findNearest_77 rfl (lv_at hl 0 rfl) ?_
                        refine lv_aload_n hx hb dX0_findNearest_78 rfl (lv_at hl 3 rfl) ?_
                        refine x0_get (v := .ref (ad 4)) S0 hin hK hP 4 (by decide) f_distance rfl rfl dX0_findNearest_79 ?_
                        refine lv_iload_n hx hb dX0_findNearest_82 rfl (lv_at hl 2 rfl) ?_
                        refine va_iald hx hb hK hP 4 3 rfl rfl (vp_in_nI (by omega) (by omega)) dX0_findNearest_83 ?_
                        refine xt_eq (z := d r) (congrArg d (nI_clamp (by omega))) ?_
                        refine xt_eq (z := nI (dn r)) hdr.1 ?_
                        refine va_iast hx hb hK hP hD hS 5 4 rfl rfl (ex_in ex (by omega) (by omega)) dX0_findNearest_84 (fun H locs hP hD hS => ?_)
                        rw [(ex_cl ex (by omega))] at hP hD
                        have hP : va_P D vwCl (xw ad tt R w c k d (upd n3 x (nI (dn r))) wp wr) H := hP
                        have hD : va_D A (xw ad tt R w c k d (upd n3 x (nI (dn r))) wp wr) := hD
                        refine lv_iinc (v := nI (q + 1)) (lv' := [(2, .int (nI (q + 1))), (3, .int (w (4 * r + q))), (1, .int (nI r)), (0, .ref (ad 0))]) hx hb dX0_findNearest_85 hl (k := 1) rfl (nI_1 q) (by decide) rfl (fun ls hl => ?_)
                        refine lv_goto (tgt := 34) hx hb dX0_findNearest_88 (by decide) ?_
                        exact ih34 (q + 1) (upd n3 x (nI (dn r))) (nup nm x (dn r)) (by omega) (row_up hn3 _ _) (fn_put hfm hrR hq4 hx6 ex hk0 hle) (by omega) H locs ls hP hD hS (lv_sub hl [0, 2, 3] rfl)
                    · refine lv_if_eq (tgt := 85) hx hb dX0_findNearest_55 (by decide) (fun c_8 => ?_) (fun c_8 => absurd c_8 (by decide))
                      refine lv_iinc (v := nI (q + 1)) (lv' := [(2, .int (nI (q + 1))), (3, .int (w (4 * r + q))), (1, .int (nI r)), (0, .ref (ad 0))]) hx hb dX0_findNearest_85 hl (k := 1) rfl (nI_1 q) (by decide) rfl (fun ls hl => ?_)
                      refine lv_goto (tgt := 34) hx hb dX0_findNearest_88 (by decide) ?_
                      exact ih34 (q + 1) n3 nm (by omega) hn3 (fn_skip hfm h_u) (by omega) H locs ls hP hD hS (lv_sub hl [0, 2, 3] rfl)
              exact lp34 _ 0 n2 nn (by omega) hn2 (fn_V hfn (fun a b ha hb h => by omega)) (Nat.lt_succ_self _) H locs ls hP hD hS (lv_sub hl [0, 1, 2] rfl)
        exact lp24 _ 0 n1 (fun _ => 1000000) (by omega) (fun x h => hn1 x (by omega)) (fn_0 _ (fun a _ => Nat.not_lt_zero a)) (Nat.lt_succ_self _) H locs ls hP hD hS (lv_sub hl [0, 1] rfl)
      · have h16 : i < 16 := Nat.lt_of_not_le (fun h => c_1 (nI_le (a := 16) h (by omega)))
        refine lv_aload_n hx hb dX0_findNearest_8 rfl (lv_at hl 1 rfl) ?_
        refine x0_get (v := .ref (ad 5)) S0 hin hK hP 5 (by decide) f_nearest rfl rfl dX0_findNearest_9 ?_
        refine lv_iload_n hx hb dX0_findNearest_12 rfl (lv_at hl 0 rfl) ?_
        refine lv_ldc (v := 1000000) hx hb hown (hts (.constant RX0 83 1000000) (by decide +kernel)) dX0_findNearest_13 ?_
        refine va_iast hx hb hK hP hD hS 5 4 rfl rfl (vp_in_nI (by omega) (by omega)) dX0_findNearest_15 (fun H locs hP hD hS => ?_)
        rw [(nI_clamp (by omega))] at hP hD
        have hP : va_P D vwCl (xw ad tt R w c k d (upd n1 i 1000000) wp wr) H := hP
        have hD : va_D A (xw ad tt R w c k d (upd n1 i 1000000) wp wr) := hD
        refine lv_iinc (v := nI (i + 1)) (lv' := [(1, .int (nI (i + 1))), (0, .ref (ad 0))]) hx hb dX0_findNearest_16 hl (k := 0) rfl (nI_1 i) (by decide) rfl (fun ls hl => ?_)
        refine lv_goto (tgt := 2) hx hb dX0_findNearest_19 (by decide) ?_
        exact ih2 (i + 1) (upd n1 i 1000000) (by omega) (up_all hn1) (by omega) H locs ls hP hD hS (lv_sub hl [0, 1] rfl)
  exact lp2 _ 0 n (by omega) (fun x h => absurd h (Nat.not_lt_zero x)) (Nat.lt_succ_self _) H locs ls hP hD hS (lv_sub hl [0, 1] rfl)
set_option maxHeartbeats 4000000 in
set_option maxRecDepth 100000 in
theorem k_X0_shortenDistances (l : Launch) (D : va_G) (ad : Nat → Nat) (tt : Nat → ClassId) (R : Nat) (w c k d n : Nat → Int32) (wp wr : Int32) (hok : ww_ok R w c) (dn : Nat → Nat) (hd : ∀ r, r < R → d r = nI (dn r) ∧ dn r ≤ 1000000) (nn : Nat → Nat) (hn : ∀ x, x < 16 → n x = nI (nn x) ∧ nn x ≤ 1000000) : xMi l yX0_shortenDistances wsX0_shortenDistances { frames := 2, cells := 0, slots := 0, locals := 41 } D (tyX tt) [.ref (ad 0)] (xw ad tt R w c k d n wp wr) (fun u : Nat → Int32 => xw ad tt R w c k u n wp wr) (fun v u => ∃ dm : Nat → Nat, (∀ r, r < R → u r = nI (dm r)) ∧ sd_ok R w c k nn dn dm (fun _ _ => True) ∧ ((v = 0 ∧ ∀ r, r < R → dm r = dn r) ∨ v = 1)) := by
  refine xe_i (cc := cX0_shortenDistances) (maxL := 6) (ret := (some .boolean)) (lvl := [(0, .ref (ad 0))]) (by decide) rfl (Nat.le_of_ble_eq_true rfl) rfl ?_
  intro p e s m below meth cd A ls hx hb hr hlocks hml hown hts hA hP hK hD hS hl
  have hin : ∀ w ∈ wsX00, w ∈ wsX0_shortenDistances := fun _ h => List.mem_cons_of_mem _ (List.mem_append_right _ h)
  have S0 : CallFix p m cd cX0_shortenDistances 6 s (([.ref (ad 0)] : List Value).toArray) wsX0_shortenDistances RX0 := ⟨hx, hb, hml, hown, hts⟩
  obtain ⟨H, hH⟩ : ∃ H, H = s.heap := ⟨_, rfl⟩
  obtain ⟨locs, hlocs⟩ : ∃ q : List Loc, q = [] := ⟨_, rfl⟩
  have hP : va_P D vwCl (xw ad tt R w c k d n wp wr) H := by rw [hH]; exact hP
  have hS : va_S A s.heap H locs := by rw [hH, hlocs]; exact hS
  suffices hgo : W p l e (headSpec wsX0_shortenDistances ({ frames := 2, cells := 0, slots := 0, locals := 41 } : Room)).room s m (([.ref (ad 0)] : List Value).toArray) below meth cd H locs 0 0 (MQ below (va_Qi (fun v u => ∃ dm : Nat → Nat, (∀ r, r < R → u r = nI (dm r)) ∧ sd_ok R w c k nn dn dm (fun _ _ => True) ∧ ((v = 0 ∧ ∀ r, r < R → dm r = dn r) ∨ v = 1)) (xB D (tyX tt) A (fun u : Nat → Int32 => xw ad tt R w c k u n wp wr)) A) ([.ref (ad 0)] : List Value).toArray s 0 0 A) (F0 m 0 ls []) by rw [hH, hlocs] at hgo; exact hgo
  clear hH hlocs
  have f_routers := hts (.fieldLink RX0 18 "WireWays" "routers" "I") (by decide +kernel)
  have f_wireAt := hts (.fieldLink RX0 22 "WireWays" "wireAt" "[I") (by decide +kernel)
  have f_costAt := hts (.fieldLink RX0 26 "WireWays" "costAt" "[I") (by decide +kernel)
  have f_distance := hts (.fieldLink RX0 33 "WireWays" "distance" "[I") (by decide +kernel)
  have f_nearest := hts (.fieldLink RX0 36 "WireWays" "nearest" "[I") (by decide +kernel)
  have hR : R ≤ 10 := hok.2.1
  refine lv_iconst (v := 0) hx hb dX0_shortenDistances_0 (by decide) ?_
  refine lv_istore_n (lv' := [(1, .int 0), (0, .ref (ad 0))]) hx hb dX0_shortenDistances_1 rfl hl (by decide) rfl (fun ls hl => ?_)
  refine lv_iconst (v := 0) hx hb dX0_shortenDistances_2 (by decide) ?_
  refine lv_istore_n (lv' := [(2, .int 0), (1, .int 0), (0, .ref (ad 0))]) hx hb dX0_shortenDistances_3 rfl hl (by decide) rfl (fun ls hl => ?_)
  have lp4 : ∀ (fuel : Nat) (r : Nat) (d2 : Nat → Int32) (dm : Nat → Nat) (fl : Int32), (r ≤ R) → (∀ a, a < R → d2 a = nI (dm a)) → (sd_ok R w c k nn dn dm (fun a _ => a < r)) → ((fl = 0 ∧ ∀ a, a < R → dm a = dn a) ∨ fl = 1) → R - r < fuel → ∀ (H : Heap) (locs : List Loc) (ls : Array Slot), va_P D vwCl (xw ad tt R w c k d2 n wp wr) H → va_D A (xw ad tt R w c k d2 n wp wr) → va_S A s.heap H locs → lv_has ls 6 [(2, .int (nI r)), (1, .int fl), (0, .ref (ad 0))] → W p l e (headSpec wsX0_shortenDistances ({ frames := 2, cells := 0, slots := 0, locals := 41 } : Room)).room s m ([.ref (ad 0)] : List Value).toArray below meth cd H locs 0 0 (MQ below (va_Qi (fun v u => ∃ dm : Nat → Nat, (∀ r, r < R → u r = nI (dm r)) ∧ sd_ok R w c k nn dn dm (fun _ _ => True) ∧ ((v = 0 ∧ ∀ r, r < R → dm r = dn r) ∨ v = 1)) (xB D (tyX tt) A (fun u : Nat → Int32 => xw ad tt R w c k u n wp wr)) A) ([.ref (ad 0)] : List Value).toArray s 0 0 A) (F0 m 4 ls []) := by
    intro fuel
    induction fuel with
    | zero => intro r d2 dm fl hr0 hd2 hsd hfl hm; exact absurd hm (Nat.not_lt_zero _)
    | succ fuel ih4 =>
      intro r d2 dm fl hr0 hd2 hsd hfl hm H locs ls hP hD hS hl
      refine lv_iload_n hx hb dX0_shortenDistances_4 rfl (lv_at hl 0 rfl) ?_
      refine lv_aload_n hx hb dX0_shortenDistances_5 rfl (lv_at hl 2 rfl) ?_
      refine x0_get (v := .int (nI R)) S0 hin hK hP 0 (by decide) f_routers rfl rfl dX0_shortenDistances_6 ?_
      refine lv_icmp_ge (tgt := 103) hx hb dX0_shortenDistances_9 (by decide) (fun c_1 => ?_) (fun c_1 => ?_)
      · have hrR : R ≤ r := (nI_leI (by omega) (by omega)).mp c_1
        refine lv_iload_n hx hb dX0_shortenDistances_103 rfl (lv_at hl 1 rfl) ?_
        exact xr_z hx hb hr hlocks (by rcases hfl with ⟨rfl, _⟩ | rfl <;> rfl) d2 ⟨dm, hd2, sd_V hsd (fun a b ha hb _ => by omega), hfl⟩ hP hK hD hS dX0_shortenDistances_104
      · have hrR : r < R := Nat.lt_of_not_le (fun h => c_1 (nI_le h (by omega)))
        have hdr := hd r hrR
        refine lv_iconst (v := 0) hx hb dX0_shortenDistances_12 (by decide) ?_
        refine lv_istore_n (lv' := [(3, .int 0), (2, .int (nI r)), (1, .int fl), (0, .ref (ad 0))]) hx hb dX0_shortenDistances_13 rfl hl (by decide) rfl (fun ls hl => ?_)
        have lp14 : ∀ (fuel : Nat) (q : Nat) (d3 : Nat → Int32) (dp : Nat → Nat) (fk : Int32), (q ≤ 4) → (∀ a, a < R → d3 a = nI (dp a)) → (sd_ok R w c k nn dn dp (fun a b => a < r ∨ (a = r ∧ b < q))) → ((fk = 0 ∧ ∀ a, a < R → dp a = dn a) ∨ fk = 1) → 4 - q < fuel → ∀ (H : Heap) (locs : List Loc) (ls : Array Slot), va_P D vwCl (xw ad tt R w c k d3 n wp wr) H → va_D A (xw ad tt R w c k d3 n wp wr) → va_S A s.heap H locs → lv_has ls 6 [(3, .int (nI q)), (2, .int (nI r)), (1, .int fk), (0, .ref (ad 0))] → W p l e (headSpec wsX0_shortenDistances ({ frames := 2, cells := 0, slots := 0, locals := 41 } : Room)).room s m ([.ref (ad 0)] : List Value).toArray below meth cd H locs 0 0 (MQ below (va_Qi (fun v u => ∃ dm : Nat → Nat, (∀ r, r < R → u r = nI (dm r)) ∧ sd_ok R w c k nn dn dm (fun _ _ => True) ∧ ((v = 0 ∧ ∀ r, r < R → dm r = dn r) ∨ v = 1)) (xB D (tyX tt) A (fun u : Nat → Int32 => xw ad tt R w c k u n wp wr)) A) ([.ref (ad 0)] : List Value).toArray s 0 0 A) (F0 m 14 ls []) := by
          intro fuel
          induction fuel with
          | zero => intro q d3 dp fk hq0 hd3 hsp hfk hm; exact absurd hm (Nat.not_lt_zero _)
          | succ fuel ih14 =>
            intro q d3 dp fk hq0 hd3 hsp hfk hm H locs ls hP hD hS hl
            refine lv_iload_n hx hb dX0_shortenDistances_14 rfl (lv_at hl 0 rfl) ?_
            refine lv_iconst (v := 4) hx hb dX0_shortenDistances_15 (by decide) ?_
            refine lv_icmp_ge (tgt := 97) hx hb dX0_shortenDistances_16 (by decide) (fun c_2 => ?_) (fun c_2 => ?_)
            · have hq4 : 4 ≤ q := (nI_leI (a := 4) (by omega) (by omega)).mp c_2
              refine lv_iinc (v := nI (r + 1)) (lv' := [(2, .int (nI (r + 1))), (3, .int (nI q)), (1, .int fk), (0, .ref (ad 0))]) hx hb dX0_shortenDistances_97 hl (k := 1) rfl (nI_1 r) (by decide) rfl (fun ls hl => ?_)
              refine lv_goto (tgt := 4) hx hb dX0_shortenDistances_100 (by decide) ?_
              exact ih4 (r + 1) d3 dp fk (by omega) hd3 (sd_V hsp (fun a b ha hb h => by omega)) hfk (by omega) H locs ls hP hD hS (lv_sub hl [0, 2, 3] rfl)
            · have hq4 : q < 4 := Nat.lt_of_not_le (fun h => c_2 (nI_le (a := 4) h (by omega)))
              refine lv_iload_n hx hb dX0_shortenDistances_19 rfl (lv_at hl 1 rfl) ?_
              refine lv_iload_n hx hb dX0_shortenDistances_20 rfl (lv_at hl 0 rfl) ?_
              refine xs_Si (nA := 2) (As := [.int (nI r), .int (nI q)]) (rest := []) S0 (k_X0_placeOf l D (nI r) (nI q)) gX0_shortenDistances_X0_placeOf rfl ⟨rfl, rfl⟩ (by decide +kernel) rfl ⟨Nat.le_of_ble_eq_true rfl, Nat.le_of_ble_eq_true rfl⟩ ⟨Nat.le_of_ble_eq_true rfl, Nat.le_of_ble_eq_true rfl⟩ hK hP hD hS hA hl.1 rfl (Nat.le_of_ble_eq_true rfl) dX0_shortenDistances_21 (fun r_3 H locs hw hP hD hS => ?_)
              have hw : r_3 = nI (4 * r + q) := by rw [hw]; exact nI_pl _ _
              subst hw
              refine lv_istore (lv' := [(4, .int (nI (4 * r + q))), (3, .int (nI q)), (2, .int (nI r)), (1, .int fk), (0, .ref (ad 0))]) hx hb dX0_shortenDistances_24 hl (by decide) rfl (fun ls hl => ?_)
              refine lv_aload_n hx hb dX0_shortenDistances_26 rfl (lv_at hl 4 rfl) ?_
              refine x0_get (v := .ref (ad 1)) S0 hin hK hP 1 (by decide) f_wireAt rfl rfl dX0_shortenDistances_27 ?_
              refine lv_iload hx hb dX0_shortenDistances_30 (lv_at hl 0 rfl) ?_
              refine va_iald hx hb hK hP 1 0 rfl rfl (vp_in_nI (by omega) (by omega)) dX0_shortenDistances_32 ?_
              refine xt_eq (z := w (4 * r + q)) (congrArg w (nI_clamp (by omega))) ?_
              refine lv_istore (lv' := [(5, .int (w (4 * r + q))), (4, .int (nI (4 * r + q))), (3, .int (nI q)), (2, .int (nI r)), (1, .int fk), (0, .ref (ad 0))]) hx hb dX0_shortenDistances_33 hl (by decide) rfl (fun ls hl => ?_)
              refine lv_aload_n hx hb dX0_shortenDistances_35 rfl (lv_at hl 5 rfl) ?_
              refine lv_iload hx hb dX0_shortenDistances_36 (lv_at hl 0 rfl) ?_
              refine xs_Vi (wr := []) (q0 := 0) (ci := 0) (nA := 1) (As := [.int (w (4 * r + q))]) (rest := []) S0 (k_X0_isUp l D ad tt R w c k d3 n wp wr (w (4 * r + q))) gX0_shortenDistances_X0_isUp rfl ⟨rfl, rfl⟩ (by decide +kernel) rfl ⟨Nat.le_of_ble_eq_true rfl, Nat.le_of_ble_eq_true rfl⟩ ⟨Nat.le_of_ble_eq_true rfl, Nat.le_of_ble_eq_true rfl⟩ hK hP hD hS hA [0, 1, 2, 3, 4, 5] [] rfl rfl (by decide) (by decide) (by decide) rfl rfl rfl hl.1 rfl (Nat.le_of_ble_eq_true rfl) dX0_shortenDistances_38 (fun r_4 u H locs hw hP hD hS => ?_)
              have hP : va_P D vwCl (xw ad tt R w c k d3 n wp wr) H := hP
              have hD : va_D A (xw ad tt R w c k d3 n wp wr) := hD
              rcases hw with ⟨rfl, h_u⟩ | ⟨rfl, h_u⟩
              · refine lv_if_eq (tgt := 91) hx hb dX0_shortenDistances_41 (by decide) (fun c_5 => absurd c_5 (by decide)) (fun c_5 => ?_)
                obtain ⟨x, hx6, ex, hk0⟩ := h_u
                have hcc := ww_c_ok hok hrR hq4 hx6 ex
                have hnx := hn x hx6
                have hx8 := (hsp r hrR).1
                refine lv_aload_n hx hb dX0_shortenDistances_44 rfl (lv_at hl 5 rfl) ?_
                refine x0_get (v := .ref (ad 2)) S0 hin hK hP 2 (by decide) f_costAt rfl rfl dX0_shortenDistances_45 ?_
                refine lv_iload hx hb dX0_shortenDistances_48 (lv_at hl 1 rfl) ?_
                refine va_iald hx hb hK hP 2 1 rfl rfl (vp_in_nI (by omega) (by omega)) dX0_shortenDistances_50 ?_
                refine xt_eq (z := c (4 * r + q)) (congrArg c (nI_clamp (by omega))) ?_
                refine xt_eq (z := nI (ww_c c r q)) hcc.1 ?_
                refine lv_aload_n hx hb dX0_shortenDistances_51 rfl (lv_at hl 5 rfl) ?_
                refine x0_get (v := .ref (ad 5)) S0 hin hK hP 5 (by decide) f_nearest rfl rfl dX0_shortenDistances_52 ?_
                refine lv_iload hx hb dX0_shortenDistances_55 (lv_at hl 0 rfl) ?_
                refine va_iald hx hb hK hP 5 4 rfl rfl (ex_in ex (by omega) (by omega)) dX0_shortenDistances_57 ?_
                refine xt_eq (z := n x) (congrArg n (ex_cl ex (by omega))) ?_
                refine xt_eq (z := nI (nn x)) hnx.1 ?_
                refine lv_iadd hx hb dX0_shortenDistances_58 ?_
                refine xt_eq (z := nI (ww_c c r q + nn x)) (nI_add _ _) ?_
                refine lv_aload_n hx hb dX0_shortenDistances_59 rfl (lv_at hl 5 rfl) ?_
                refine x0_get (v := .ref (ad 4)) S0 hin hK hP 4 (by decide) f_distance rfl rfl dX0_shortenDistances_60 ?_
                refine lv_iload_n hx hb dX0_shortenDistances_63 rfl (lv_at hl 3 rfl) ?_
                refine va_iald hx hb hK hP 4 3 rfl rfl (vp_in_nI (by omega) (by omega)) dX0_shortenDistances_64 ?_
                refine xt_eq (z := d3 r) (congrArg d3 (nI_clamp (by omega))) ?_
                refine xt_eq (z := nI (dp r)) (hd3 r hrR) ?_
                refine lv_icmp_ge (tgt := 91) hx hb dX0_shortenDistances_65 (by decide) (fun c_6 => ?_) (fun c_6 => ?_)
                · have hle : dp r ≤ ww_c c r q + nn x := (nI_leI (by omega) (by omega)).mp c_6
                  refine lv_iinc (v := nI (q + 1)) (lv' := [(3, .int (nI (q + 1))), (5, .int (w (4 * r + q))), (4, .int (nI (4 * r + q))), (2, .int (nI r)), (1, .int fk), (0, .ref (ad 0))]) hx hb dX0_shortenDistances_91 hl (k := 2) rfl (nI_1 q) (by decide) rfl (fun ls hl => ?_)
                  refine lv_goto (tgt := 14) hx hb dX0_shortenDistances_94 (by decide) ?_
                  exact ih14 (q + 1) d3 dp fk (by omega) hd3 (sd_keep hsp hx6 ex hle) hfk (by omega) H locs ls hP hD hS (lv_sub hl [0, 3, 4, 5] rfl)
                · have hle : ww_c c r q + nn x < dp r := Nat.lt_of_not_le (fun h => c_6 (nI_le h (by omega)))
                  refine lv_aload_n hx hb dX0_shortenDistances_68 rfl (lv_at hl 5 rfl) ?_
                  refine x0_get (v := .ref (ad 4)) S0 hin hK hP 4 (by decide) f_distance rfl rfl dX0_shortenDistances_69 ?_
                  refine lv_iload_n hx hb dX0_shortenDistances_72 rfl (lv_at hl 3 rfl) ?_
                  refine lv_aload_n hx hb dX0_shortenDistances_73 rfl (lv_at hl 5 rfl) ?_
                  refine x0_get (v := .ref (ad 2)) S0 hin hK hP 2 (by decide) f_costAt rfl rfl dX0_shortenDistances_74 ?_
                  refine lv_iload hx hb dX0_shortenDistances_77 (lv_at hl 1 rfl) ?_
                  refine va_iald hx hb hK hP 2 1 rfl rfl (vp_in_nI (by omega) (by omega)) dX0_shortenDistances_79 ?_
                  refine xt_eq (z := c (4 * r + q)) (congrArg c (nI_clamp (by omega))) ?_
                  refine xt_eq (z := nI (ww_c c r q)) hcc.1 ?_
                  refine lv_aload_n hx hb dX0_shortenDistances_80 rfl (lv_at hl 5 rfl) ?_
                  refine x0_get (v := .ref (ad 5)) S0 hin hK hP 5 (by decide) f_nearest rfl rfl dX0_shortenDistances_81 ?_
                  refine lv_iload hx hb dX0_shortenDistances_84 (lv_at hl 0 rfl) ?_
                  refine va_iald hx hb hK hP 5 4 rfl rfl (ex_in ex (by omega) (by omega)) dX0_shortenDistances_86 ?_
                  refine xt_eq (z := n x) (congrArg n (ex_cl ex (by omega))) ?_
                  refine xt_eq (z := nI (nn x)) hnx.1 ?_
                  refine lv_iadd hx hb dX0_shortenDistances_87 ?_
                  refine xt_eq (z := nI (ww_c c r q + nn x)) (nI_add _ _) ?_
                  refine va_iast hx hb hK hP hD hS 4 3 rfl rfl (vp_in_nI (by omega) (by omega)) dX0_shortenDistances_88 (fun H locs hP hD hS => ?_)
                  rw [(nI_clamp (by omega))] at hP hD
                  have hP : va_P D vwCl (xw ad tt R w c k (upd d3 r (nI (ww_c c r q + nn x))) n wp wr) H := hP
                  have hD : va_D A (xw ad tt R w c k (upd d3 r (nI (ww_c c r q + nn x))) n wp wr) := hD
                  refine lv_iconst (v := 1) hx hb dX0_shortenDistances_89 (by decide) ?_
                  refine lv_istore_n (lv' := [(1, .int 1), (5, .int (w (4 * r + q))), (4, .int (nI (4 * r + q))), (3, .int (nI q)), (2, .int (nI r)), (0, .ref (ad 0))]) hx hb dX0_shortenDistances_90 rfl hl (by decide) rfl (fun ls hl => ?_)
                  refine lv_iinc (v := nI (q + 1)) (lv' := [(3, .int (nI (q + 1))), (1, .int 1), (5, .int (w (4 * r + q))), (4, .int (nI (4 * r + q))), (2, .int (nI r)), (0, .ref (ad 0))]) hx hb dX0_shortenDistances_91 hl (k := 3) rfl (nI_1 q) (by decide) rfl (fun ls hl => ?_)
                  refine lv_goto (tgt := 14) hx hb dX0_shortenDistances_94 (by decide) ?_
                  exact ih14 (q + 1) _ (nup dp r (ww_c c r q + nn x)) 1 (by omega) (row_up hd3 _ _) (sd_put hsp hq4 hx6 ex hk0 hle) (Or.inr rfl) (by omega) H locs ls hP hD hS (lv_sub hl [0, 4, 1, 5] rfl)
              · refine lv_if_eq (tgt := 91) hx hb dX0_shortenDistances_41 (by decide) (fun c_7 => ?_) (fun c_7 => absurd c_7 (by decide))
                refine lv_iinc (v := nI (q + 1)) (lv' := [(3, .int (nI (q + 1))), (5, .int (w (4 * r + q))), (4, .int (nI (4 * r + q))), (2, .int (nI r)), (1, .int fk), (0, .ref (ad 0))]) hx hb dX0_shortenDistances_91 hl (k := 2) rfl (nI_1 q) (by decide) rfl (fun ls hl => ?_)
                refine lv_goto (tgt := 14) hx hb dX0_shortenDistances_94 (by decide) ?_
                exact ih14 (q + 1) d3 dp fk (by omega) hd3 (sd_skip hsp h_u) hfk (by omega) H locs ls hP hD hS (lv_sub hl [0, 3, 4, 5] rfl)
        exact lp14 _ 0 d2 dm fl (by omega) hd2 (sd_V hsd (fun a b ha hb h => by omega)) hfl (Nat.lt_succ_self _) H locs ls hP hD hS (lv_sub hl [0, 1, 2, 3] rfl)
  exact lp4 _ 0 d dn 0 (by omega) (fun a h => (hd a h).1) (sd_0 _ (fun a _ => Nat.not_lt_zero a)) (Or.inl ⟨rfl, fun _ _ => rfl⟩) (Nat.lt_succ_self _) H locs ls hP hD hS (lv_sub hl [0, 1, 2] rfl)
end
section
section
variable {R K : Nat} {w c k : Nat → Int32} {tg : Nat → Prop} {D dn nn dm : Nat → Nat}
theorem me_step (hok : ww_ok R w c) (hD : dm_ok R tg (ww_E R w k) (ww_c c) K D) (h1 : ∀ r, r < R → D r ≤ dn r) (hf : fn_ok R w k K dn nn (fun _ _ => True)) (hs : sd_ok R w c k nn dn dm (fun _ _ => True)) :
    (∀ r, r < R → D r ≤ dm r) ∧ (∀ r, r < R → dm r ≤ dn r) ∧ (∀ r q b, r < R → ww_E R w k r q b → dm r ≤ ww_c c r q + dn b) := by
  refine ⟨fun r hr => ?_, fun r hr => (hs r hr).1, fun r q b hr hE => ?_⟩
  · have h1r := h1 r hr
    rcases (hs r hr).2.2 with e | ⟨q, x, hq, hx, ex, hk0, e⟩
    · omega
    · rcases (hf x hx).2.2 with e2 | ⟨b, q', hb, hq', eb, -, e2⟩
      · have := hD.1 r hr
        omega
      · by_cases hbr : b = r
        · subst hbr
          omega
        · have h2 := hD.2.2.1 r q b hr ⟨hr, hq, hb, hbr, x, hx, ex, hk0, q', hq', eb⟩
          have h3 := h1 b hb
          omega
  · obtain ⟨-, hq, hb, hne, x, hx, ex, hk0, q', hq', eb⟩ := hE
    have h2 := (hs r hr).2.1 q x trivial hq hx ex hk0
    have h3 := (hf x hx).2.1 b q' trivial hb hq' eb hk0
    omega
theorem me_fix (hok : ww_ok R w c) (hD : dm_ok R tg (ww_E R w k) (ww_c c) K D) (h1 : ∀ r, r < R → D r ≤ dn r) (hK : ∀ r, r < R → dn r ≤ K) (hz : ∀ r, r < R → tg r → dn r = 0) (h3 : ∀ r q b, r < R → ww_E R w k r q b → dm r ≤ ww_c c r q + dn b) (he : ∀ r, r < R → dm r = dn r) : ∀ r, r < R → dm r = D r := fun r hr => by
  rw [he r hr]
  exact dm_fix (ww_gr hok) hD h1 hK hz (fun a q b ha hE => by rw [← he a ha]; exact h3 a q b ha hE) (D r) r hr rfl
theorem me_all (h1 : ∀ r, r < R → D r ≤ dn r) (hc : dm_cnt (fun x => decide (D x < dn x)) R ≤ 0) : ∀ r, r < R → dn r = D r := fun r hr => by
  have h0 := dm_cnt_0 (Nat.eq_zero_of_le_zero hc) r hr
  have h2 := h1 r hr
  by_cases h3 : D r < dn r
  · exact absurd (decide_eq_true h3) h0
  · omega
theorem me_init (hD : dm_ok R tg (ww_E R w k) (ww_c c) K D) {d1 : Nat → Int32} (h : ∀ a, a < R → (tg a → d1 a = nI 0) ∧ (¬ tg a → d1 a = nI K)) : ∃ dn : Nat → Nat, (∀ a, a < R → d1 a = nI (dn a) ∧ dn a ≤ K) ∧ (∀ a, a < R → D a ≤ dn a) ∧ (∀ a, a < R → tg a → dn a = 0) := by
  obtain ⟨dn, e1, e2⟩ : ∃ dn : Nat → Nat, (∀ r, tg r → dn r = 0) ∧ (∀ r, ¬ tg r → dn r = K) :=
    ⟨fun r => @ite _ (tg r) (Classical.propDecidable _) 0 K, fun r h => if_pos h, fun r h => if_neg h⟩
  refine ⟨dn, fun a ha => ?_, fun a ha => ?_, fun a _ ht => e1 a ht⟩
  · by_cases ht : tg a
    · rw [e1 a ht]
      exact ⟨(h a ha).1 ht, Nat.zero_le _⟩
    · rw [e2 a ht]
      exact ⟨(h a ha).2 ht, Nat.le_refl _⟩
  · by_cases ht : tg a
    · rw [hD.2.1 a ha ht]
      exact Nat.zero_le _
    · rw [e2 a ht]
      exact hD.1 a ha
end
theorem up_P {P : Nat → Int32 → Prop} {f : Nat → Int32} {r : Nat} {v : Int32} (h : ∀ a, a < r → P a (f a)) (hv : P r v) : ∀ a, a < r + 1 → P a (upd f r v a) := fun a ha => by
  by_cases e : a = r
  · subst e
    rw [pk_us]
    exact hv
  · rw [pk_un e]
    exact h a (by omega)
end
section
set_option maxHeartbeats 4000000 in
set_option maxRecDepth 100000 in
theorem k_X0_measure (l : Launch) (D : va_G) (ad : Nat → Nat) (tt : Nat → ClassId) (R : Nat) (w c k d n : Nat → Int32) (wp wr : Int32) (hok : ww_ok R w c) (ov : Int32) (t : Nat) (ht : (ov ≠ 0 → t < 16 ∧ k t = 0) ∧ (ov = 0 → t < R)) (T0 : Nat → Nat) (hT0 : dm_ok R (ww_tg w k ov t) (ww_E R w k) (ww_c c) 1000000 T0) : xMv l yX0_measure wsX0_measure { frames := 3, cells := 0, slots := 0, locals := 66 } D (tyX tt) [.ref (ad 0), .int ov, .int (nI t)] (xw ad tt R w c k d n wp wr) (fun u : (Nat → Int32) × (Nat → Int32) => xw ad tt R w c k u.1 u.2 wp wr) (fun u => ∀ r, r < R → u.1 r = nI (T0 r)) := by
  refine xe_v (cc := cX0_measure) (maxL := 5) (ret := none) (lvl := [(0, .ref (ad 0)), (1, .int ov), (2, .int (nI t))]) (by decide) rfl (Nat.le_of_ble_eq_true rfl) rfl ?_
  intro p e s m below meth cd A ls hx hb hr hlocks hml hown hts hA hP hK hD hS hl
  have hin : ∀ w ∈ wsX00, w ∈ wsX0_measure := fun _ h => List.mem_cons_of_mem _ (List.mem_append_right _ h)
  have S0 : CallFix p m cd cX0_measure 5 s (([.ref (ad 0), .int ov, .int (nI t)] : List Value).toArray) wsX0_measure RX0 := ⟨hx, hb, hml, hown, hts⟩
  obtain ⟨H, hH⟩ : ∃ H, H = s.heap := ⟨_, rfl⟩
  obtain ⟨locs, hlocs⟩ : ∃ q : List Loc, q = [] := ⟨_, rfl⟩
  have hP : va_P D vwCl (xw ad tt R w c k d n wp wr) H := by rw [hH]; exact hP
  have hS : va_S A s.heap H locs := by rw [hH, hlocs]; exact hS
  suffices hgo : W p l e (headSpec wsX0_measure ({ frames := 3, cells := 0, slots := 0, locals := 66 } : Room)).room s m (([.ref (ad 0), .int ov, .int (nI t)] : List Value).toArray) below meth cd H locs 0 0 (MQ below (va_Qv (fun u => ∀ r, r < R → u.1 r = nI (T0 r)) (xB D (tyX tt) A (fun u : (Nat → Int32) × (Nat → Int32) => xw ad tt R w c k u.1 u.2 wp wr)) A) ([.ref (ad 0), .int ov, .int (nI t)] : List Value).toArray s 0 0 A) (F0 m 0 ls []) by rw [hH, hlocs] at hgo; exact hgo
  clear hH hlocs
  have f_routers := hts (.fieldLink RX0 18 "WireWays" "routers" "I") (by decide +kernel)
  have f_distance := hts (.fieldLink RX0 33 "WireWays" "distance" "[I") (by decide +kernel)
  have hR : R ≤ 10 := hok.2.1
  have htb : t < 16 := by
    by_cases h : ov = 0
    · have := ht.2 h; omega
    · exact (ht.1 h).1
  refine lv_iconst (v := 0) hx hb dX0_measure_0 (by decide) ?_
  refine lv_istore_n (lv' := [(3, .int 0), (0, .ref (ad 0)), (1, .int ov), (2, .int (nI t))]) hx hb dX0_measure_1 rfl hl (by decide) rfl (fun ls hl => ?_)
  have lp2 : ∀ (fuel : Nat) (r : Nat) (d1 : Nat → Int32), (r ≤ R) → (∀ a, a < r → (ww_tg w k ov t a → d1 a = nI 0) ∧ (¬ ww_tg w k ov t a → d1 a = nI 1000000)) → R - r < fuel → ∀ (H : Heap) (locs : List Loc) (ls : Array Slot), va_P D vwCl (xw ad tt R w c k d1 n wp wr) H → va_D A (xw ad tt R w c k d1 n wp wr) → va_S A s.heap H locs → lv_has ls 5 [(3, .int (nI r)), (0, .ref (ad 0)), (1, .int ov), (2, .int (nI t))] → W p l e (headSpec wsX0_measure ({ frames := 3, cells := 0, slots := 0, locals := 66 } : Room)).room s m ([.ref (ad 0), .int ov, .int (nI t)] : List Value).toArray below meth cd H locs 0 0 (MQ below (va_Qv (fun u => ∀ r, r < R → u.1 r = nI (T0 r)) (xB D (tyX tt) A (fun u : (Nat → Int32) × (Nat → Int32) => xw ad tt R w c k u.1 u.2 wp wr)) A) ([.ref (ad 0), .int ov, .int (nI t)] : List Value).toArray s 0 0 A) (F0 m 2 ls []) := by
    intro fuel
    induction fuel with
    | zero => intro r d1 hr0 hd1 hm; exact absurd hm (Nat.not_lt_zero _)
    | succ fuel ih2 =>
      intro r d1 hr0 hd1 hm H locs ls hP hD hS hl
      refine lv_iload_n hx hb dX0_measure_2 rfl (lv_at hl 0 rfl) ?_
      refine lv_aload_n hx hb dX0_measure_3 rfl (lv_at hl 1 rfl) ?_
      refine x0_get (v := .int (nI R)) S0 hin hK hP 0 (by decide) f_routers rfl rfl dX0_measure_4 ?_
      refine lv_icmp_ge (tgt := 67) hx hb dX0_measure_7 (by decide) (fun c_1 => ?_) (fun c_1 => ?_)
      · have hrR : R ≤ r := (nI_leI (by omega) (by omega)).mp c_1
        obtain ⟨dn, hdn, hlo, hz⟩ := me_init hT0 (fun a ha => hd1 a (by omega))
        refine lv_iconst (v := 1) hx hb dX0_measure_67 (by decide) ?_
        refine lv_istore_n (lv' := [(3, .int 1), (0, .ref (ad 0)), (1, .int ov), (2, .int (nI t))]) hx hb dX0_measure_68 rfl hl (by decide) rfl (fun ls hl => ?_)
        refine lv_iconst (v := 0) hx hb dX0_measure_69 (by decide) ?_
        refine lv_istore (lv' := [(4, .int 0), (3, .int 1), (0, .ref (ad 0)), (1, .int ov), (2, .int (nI t))]) hx hb dX0_measure_70 hl (by decide) rfl (fun ls hl => ?_)
        have lp72 : ∀ (fuel : Nat) (rd : Nat) (d2 : Nat → Int32) (n2 : Nat → Int32) (dn : Nat → Nat) (ch : Int32), (rd ≤ R) → (∀ a, a < R → d2 a = nI (dn a) ∧ dn a ≤ 1000000) → (∀ a, a < R → T0 a ≤ dn a) → (∀ a, a < R → ww_tg w k ov t a → dn a = 0) → (dm_cnt (fun x => decide (T0 x < dn x)) R ≤ R - rd) → ((ch = 0 ∧ ∀ a, a < R → dn a = T0 a) ∨ ch = 1) → R - rd < fuel → ∀ (H : Heap) (locs : List Loc) (ls : Array Slot), va_P D vwCl (xw ad tt R w c k d2 n2 wp wr) H → va_D A (xw ad tt R w c k d2 n2 wp wr) → va_S A s.heap H locs → lv_has ls 5 [(4, .int (nI rd)), (3, .int ch), (0, .ref (ad 0)), (1, .int ov), (2, .int (nI t))] → W p l e (headSpec wsX0_measure ({ frames := 3, cells := 0, slots := 0, locals := 66 } : Room)).room s m ([.ref (ad 0), .int ov, .int (nI t)] : List Value).toArray below meth cd H locs 0 0 (MQ below (va_Qv (fun u => ∀ r, r < R → u.1 r = nI (T0 r)) (xB D (tyX tt) A (fun u : (Nat → Int32) × (Nat → Int32) => xw ad tt R w c k u.1 u.2 wp wr)) A) ([.ref (ad 0), .int ov, .int (nI t)] : List Value).toArray s 0 0 A) (F0 m 72 ls []) := by
          intro fuel
          induction fuel with
          | zero => intro rd d2 n2 dn ch hrd hdn hlo hz hcn hch hm; exact absurd hm (Nat.not_lt_zero _)
          | succ fuel ih72 =>
            intro rd d2 n2 dn ch hrd hdn hlo hz hcn hch hm H locs ls hP hD hS hl
            refine lv_iload_n hx hb dX0_measure_72 rfl (lv_at hl 1 rfl) ?_
            refine lv_if_eq (tgt := 100) hx hb dX0_measure_73 (by decide) (fun c_2 => ?_) (fun c_2 => ?_)
            · have hend : ∀ a, a < R → dn a = T0 a := by
                rcases hch with h | h
                · exact h.2
                · rw [h] at c_2; exact absurd c_2 (by decide)
              exact xr_v hx hb hr hlocks (d2, n2) (fun a h => by rw [← hend a h]; exact (hdn a h).1) hP hK hD hS dX0_measure_100
            · refine lv_iload hx hb dX0_measure_76 (lv_at hl 0 rfl) ?_
              refine lv_aload_n hx hb dX0_measure_78 rfl (lv_at hl 2 rfl) ?_
              refine x0_get (v := .int (nI R)) S0 hin hK hP 0 (by decide) f_routers rfl rfl dX0_measure_79 ?_
              refine lv_icmp_ge (tgt := 100) hx hb dX0_measure_82 (by decide) (fun c_3 => ?_) (fun c_3 => ?_)
              · have hrR : R ≤ rd := (nI_leI (by omega) (by omega)).mp c_3
                have hend : ∀ a, a < R → dn a = T0 a := me_all hlo (by omega)
                exact xr_v hx hb hr hlocks (d2, n2) (fun a h => by rw [← hend a h]; exact (hdn a h).1) hP hK hD hS dX0_measure_100
              · have hrR : rd < R := Nat.lt_of_not_le (fun h => c_3 (nI_le h (by omega)))
                refine lv_aload_n hx hb dX0_measure_85 rfl (lv_at hl 2 rfl) ?_
                refine xs_Vv (wr := []) (q0 := 0) (ci := 0) (nA := 0) (As := []) (rest := []) S0 (k_X0_findNearest l D ad tt R w c k d2 n2 wp wr hR dn hdn) gX0_measure_X0_findNearest rfl ⟨rfl, rfl⟩ (by decide +kernel) rfl ⟨Nat.le_of_ble_eq_true rfl, Nat.le_of_ble_eq_true rfl⟩ ⟨Nat.le_of_ble_eq_true rfl, Nat.le_of_ble_eq_true rfl⟩ hK hP hD hS hA [0, 1, 2, 3, 4, 5] [] rfl rfl (by decide) (by decide) (by decide) rfl rfl rfl hl.1 rfl (Nat.le_of_ble_eq_true rfl) dX0_measure_86 (fun n3 H locs hw hP hD hS => ?_)
                have hP : va_P D vwCl (xw ad tt R w c k d2 n3 wp wr) H := hP
                have hD : va_D A (xw ad tt R w c k d2 n3 wp wr) := hD
                obtain ⟨nn, hnn, hfn⟩ := hw
                refine lv_aload_n hx hb dX0_measure_89 rfl (lv_at hl 2 rfl) ?_
                refine xs_Vi (wr := []) (q0 := 0) (ci := 0) (nA := 0) (As := []) (rest := []) S0 (k_X0_shortenDistances l D ad tt R w c k d2 n3 wp wr hok dn hdn nn (fun x h => ⟨hnn x h, (hfn x h).1⟩)) gX0_measure_X0_shortenDistances rfl ⟨rfl, rfl⟩ (by decide +kernel) rfl ⟨Nat.le_of_ble_eq_true rfl, Nat.le_of_ble_eq_true rfl⟩ ⟨Nat.le_of_ble_eq_true rfl, Nat.le_of_ble_eq_true rfl⟩ hK hP hD hS hA [0, 1, 2, 3, 4, 5] [] rfl rfl (by decide) (by decide) (by decide) rfl rfl rfl hl.1 rfl (Nat.le_of_ble_eq_true rfl) dX0_measure_90 (fun r_5 d3 H locs hw hP hD hS => ?_)
                have hP : va_P D vwCl (xw ad tt R w c k d3 n3 wp wr) H := hP
                have hD : va_D A (xw ad tt R w c k d3 n3 wp wr) := hD
                obtain ⟨dm, hdm, hsd, hv⟩ := hw
                have hst := me_step hok hT0 hlo hfn hsd
                refine lv_istore_n (lv' := [(3, .int r_5), (4, .int (nI rd)), (0, .ref (ad 0)), (1, .int ov), (2, .int (nI t))]) hx hb dX0_measure_93 rfl hl (by decide) rfl (fun ls hl => ?_)
                refine lv_iinc (v := nI (rd + 1)) (lv' := [(4, .int (nI (rd + 1))), (3, .int r_5), (0, .ref (ad 0)), (1, .int ov), (2, .int (nI t))]) hx hb dX0_measure_94 hl (k := 1) rfl (nI_1 rd) (by decide) rfl (fun ls hl => ?_)
                refine lv_goto (tgt := 72) hx hb dX0_measure_97 (by decide) ?_
                exact ih72 (rd + 1) d3 n3 dm r_5 (by omega) (fun a h => ⟨hdm a h, Nat.le_trans (hst.2.1 a h) (hdn a h).2⟩) hst.1 (fun a h ht => Nat.eq_zero_of_le_zero (by have h9 := hst.2.1 a h; rw [hz a h ht] at h9; exact h9)) (dm_round (ww_gr hok) hT0 hst.1 hst.2.1 (fun a h => (hdn a h).2) hz hst.2.2 (by omega)) (hv.imp (fun h => ⟨h.1, me_fix hok hT0 hlo (fun a h => (hdn a h).2) hz hst.2.2 h.2⟩) id) (by omega) H locs ls hP hD hS (lv_sub hl [0, 1, 2, 3, 4] rfl)
        exact lp72 _ 0 d1 n dn 1 (by omega) hdn hlo hz (dm_cnt_le _ _) (Or.inr rfl) (Nat.lt_succ_self _) H locs ls hP hD hS (lv_sub hl [0, 1, 2, 3, 4] rfl)
      · have hrR : r < R := Nat.lt_of_not_le (fun h => c_1 (nI_le h (by omega)))
        refine lv_iload_n hx hb dX0_measure_10 rfl (lv_at hl 2 rfl) ?_
        refine lv_if_eq (tgt := 32) hx hb dX0_measure_11 (by decide) (fun c_6 => ?_) (fun c_6 => ?_)
        · have hov := c_6
          refine lv_iload_n hx hb dX0_measure_32 rfl (lv_at hl 0 rfl) ?_
          refine lv_iload_n hx hb dX0_measure_33 rfl (lv_at hl 3 rfl) ?_
          refine lv_icmp_ne (tgt := 41) hx hb dX0_measure_34 (by decide) (fun c_7 => ?_) (fun c_7 => ?_)
          · have htg : ¬ ww_tg w k ov t r := fun h => c_7 (congrArg nI (h.2 hov))
            refine lv_iconst (v := 0) hx hb dX0_measure_41 (by decide) ?_
            refine lv_istore (lv' := [(4, .int 0), (3, .int (nI r)), (0, .ref (ad 0)), (1, .int ov), (2, .int (nI t))]) hx hb dX0_measure_42 hl (by decide) rfl (fun ls hl => ?_)
            refine lv_aload_n hx hb dX0_measure_44 rfl (lv_at hl 2 rfl) ?_
            refine x0_get (v := .ref (ad 4)) S0 hin hK hP 4 (by decide) f_distance rfl rfl dX0_measure_45 ?_
            refine lv_iload_n hx hb dX0_measure_48 rfl (lv_at hl 1 rfl) ?_
            refine lv_iload hx hb dX0_measure_49 (lv_at hl 0 rfl) ?_
            refine lv_if_eq (tgt := 58) hx hb dX0_measure_51 (by decide) (fun c_8 => ?_) (fun c_8 => absurd c_8 (by decide))
            refine lv_ldc (v := 1000000) hx hb hown (hts (.constant RX0 83 1000000) (by decide +kernel)) dX0_measure_58 ?_
            refine va_iast hx hb hK hP hD hS 4 3 rfl rfl (vp_in_nI (by omega) (by omega)) dX0_measure_60 (fun H locs hP hD hS => ?_)
            rw [(nI_clamp (by omega))] at hP hD
            have hP : va_P D vwCl (xw ad tt R w c k (upd d1 r 1000000) n wp wr) H := hP
            have hD : va_D A (xw ad tt R w c k (upd d1 r 1000000) n wp wr) := hD
            refine lv_iinc (v := nI (r + 1)) (lv' := [(3, .int (nI (r + 1))), (4, .int 0), (0, .ref (ad 0)), (1, .int ov), (2, .int (nI t))]) hx hb dX0_measure_61 hl (k := 1) rfl (nI_1 r) (by decide) rfl (fun ls hl => ?_)
            refine lv_goto (tgt := 2) hx hb dX0_measure_64 (by decide) ?_
            exact ih2 (r + 1) _ (by omega) (up_P (P := (fun a v => (ww_tg w k ov t a → v = nI 0) ∧ (¬ ww_tg w k ov t a → v = nI 1000000))) hd1 ⟨fun h => absurd h htg, fun _ => rfl⟩) (by omega) H locs ls hP hD hS (lv_sub hl [0, 2, 3, 4] rfl)
          · have htg : ww_tg w k ov t r := ⟨fun h => absurd hov h, fun _ => (nI_eq (by omega) (by omega)).mp c_7⟩
            refine lv_iconst (v := 1) hx hb dX0_measure_37 (by decide) ?_
            refine lv_goto (tgt := 42) hx hb dX0_measure_38 (by decide) ?_
            refine lv_istore (lv' := [(4, .int 1), (3, .int (nI r)), (0, .ref (ad 0)), (1, .int ov), (2, .int (nI t))]) hx hb dX0_measure_42 hl (by decide) rfl (fun ls hl => ?_)
            refine lv_aload_n hx hb dX0_measure_44 rfl (lv_at hl 2 rfl) ?_
            refine x0_get (v := .ref (ad 4)) S0 hin hK hP 4 (by decide) f_distance rfl rfl dX0_measure_45 ?_
            refine lv_iload_n hx hb dX0_measure_48 rfl (lv_at hl 1 rfl) ?_
            refine lv_iload hx hb dX0_measure_49 (lv_at hl 0 rfl) ?_
            refine lv_if_eq (tgt := 58) hx hb dX0_measure_51 (by decide) (fun c_9 => absurd c_9 (by decide)) (fun c_9 => ?_)
            refine lv_iconst (v := 0) hx hb dX0_measure_54 (by decide) ?_
            refine lv_goto (tgt := 60) hx hb dX0_measure_55 (by decide) ?_
            refine va_iast hx hb hK hP hD hS 4 3 rfl rfl (vp_in_nI (by omega) (by omega)) dX0_measure_60 (fun H locs hP hD hS => ?_)
            rw [(nI_clamp (by omega))] at hP hD
            have hP : va_P D vwCl (xw ad tt R w c k (upd d1 r 0) n wp wr) H := hP
            have hD : va_D A (xw ad tt R w c k (upd d1 r 0) n wp wr) := hD
            refine lv_iinc (v := nI (r + 1)) (lv' := [(3, .int (nI (r + 1))), (4, .int 1), (0, .ref (ad 0)), (1, .int ov), (2, .int (nI t))]) hx hb dX0_measure_61 hl (k := 1) rfl (nI_1 r) (by decide) rfl (fun ls hl => ?_)
            refine lv_goto (tgt := 2) hx hb dX0_measure_64 (by decide) ?_
            exact ih2 (r + 1) _ (by omega) (up_P (P := (fun a v => (ww_tg w k ov t a → v = nI 0) ∧ (¬ ww_tg w k ov t a → v = nI 1000000))) hd1 ⟨fun _ => rfl, fun h => absurd htg h⟩) (by omega) H locs ls hP hD hS (lv_sub hl [0, 2, 3, 4] rfl)
        · have hov := c_6
          refine lv_aload_n hx hb dX0_measure_14 rfl (lv_at hl 1 rfl) ?_
          refine lv_iload_n hx hb dX0_measure_15 rfl (lv_at hl 0 rfl) ?_
          refine lv_iload_n hx hb dX0_measure_16 rfl (lv_at hl 3 rfl) ?_
          refine xs_Vi (wr := []) (q0 := 0) (ci := 0) (nA := 2) (As := [.int (nI r), .int (nI t)]) (rest := []) S0 (k_X0_portOn l D ad tt R w c k d1 n wp wr r (nI t) (by omega)) gX0_measure_X0_portOn rfl ⟨rfl, rfl⟩ (by decide +kernel) rfl ⟨Nat.le_of_ble_eq_true rfl, Nat.le_of_ble_eq_true rfl⟩ ⟨Nat.le_of_ble_eq_true rfl, Nat.le_of_ble_eq_true rfl⟩ hK hP hD hS hA [0, 1, 2, 3, 4, 5] [] rfl rfl (by decide) (by decide) (by decide) rfl rfl rfl hl.1 rfl (Nat.le_of_ble_eq_true rfl) dX0_measure_17 (fun r_10 u H locs hw hP hD hS => ?_)
          have hP : va_P D vwCl (xw ad tt R w c k d1 n wp wr) H := hP
          have hD : va_D A (xw ad tt R w c k d1 n wp wr) := hD
          have h_po := hw
          refine lv_iconst (v := (-1)) hx hb dX0_measure_20 (by decide) ?_
          refine lv_icmp_eq (tgt := 28) hx hb dX0_measure_21 (by decide) (fun c_11 => ?_) (fun c_11 => ?_)
          · have htg : ¬ ww_tg w k ov t r := fun h => (ww_po_on h_po).mp c_11 (h.1 hov).2
            refine lv_iconst (v := 0) hx hb dX0_measure_28 (by decide) ?_
            refine lv_goto (tgt := 42) hx hb dX0_measure_29 (by decide) ?_
            refine lv_istore (lv' := [(4, .int 0), (3, .int (nI r)), (0, .ref (ad 0)), (1, .int ov), (2, .int (nI t))]) hx hb dX0_measure_42 hl (by decide) rfl (fun ls hl => ?_)
            refine lv_aload_n hx hb dX0_measure_44 rfl (lv_at hl 2 rfl) ?_
            refine x0_get (v := .ref (ad 4)) S0 hin hK hP 4 (by decide) f_distance rfl rfl dX0_measure_45 ?_
            refine lv_iload_n hx hb dX0_measure_48 rfl (lv_at hl 1 rfl) ?_
            refine lv_iload hx hb dX0_measure_49 (lv_at hl 0 rfl) ?_
            refine lv_if_eq (tgt := 58) hx hb dX0_measure_51 (by decide) (fun c_12 => ?_) (fun c_12 => absurd c_12 (by decide))
            refine lv_ldc (v := 1000000) hx hb hown (hts (.constant RX0 83 1000000) (by decide +kernel)) dX0_measure_58 ?_
            refine va_iast hx hb hK hP hD hS 4 3 rfl rfl (vp_in_nI (by omega) (by omega)) dX0_measure_60 (fun H locs hP hD hS => ?_)
            rw [(nI_clamp (by omega))] at hP hD
            have hP : va_P D vwCl (xw ad tt R w c k (upd d1 r 1000000) n wp wr) H := hP
            have hD : va_D A (xw ad tt R w c k (upd d1 r 1000000) n wp wr) := hD
            refine lv_iinc (v := nI (r + 1)) (lv' := [(3, .int (nI (r + 1))), (4, .int 0), (0, .ref (ad 0)), (1, .int ov), (2, .int (nI t))]) hx hb dX0_measure_61 hl (k := 1) rfl (nI_1 r) (by decide) rfl (fun ls hl => ?_)
            refine lv_goto (tgt := 2) hx hb dX0_measure_64 (by decide) ?_
            exact ih2 (r + 1) _ (by omega) (up_P (P := (fun a v => (ww_tg w k ov t a → v = nI 0) ∧ (¬ ww_tg w k ov t a → v = nI 1000000))) hd1 ⟨fun h => absurd h htg, fun _ => rfl⟩) (by omega) H locs ls hP hD hS (lv_sub hl [0, 2, 3, 4] rfl)
          · have htg : ww_tg w k ov t r := ⟨fun _ => ⟨(ht.1 hov).2, ww_on_of (v := 0) h_po c_11⟩, fun h => absurd h hov⟩
            refine lv_iconst (v := 1) hx hb dX0_measure_24 (by decide) ?_
            refine lv_goto (tgt := 42) hx hb dX0_measure_25 (by decide) ?_
            refine lv_istore (lv' := [(4, .int 1), (3, .int (nI r)), (0, .ref (ad 0)), (1, .int ov), (2, .int (nI t))]) hx hb dX0_measure_42 hl (by decide) rfl (fun ls hl => ?_)
            refine lv_aload_n hx hb dX0_measure_44 rfl (lv_at hl 2 rfl) ?_
            refine x0_get (v := .ref (ad 4)) S0 hin hK hP 4 (by decide) f_distance rfl rfl dX0_measure_45 ?_
            refine lv_iload_n hx hb dX0_measure_48 rfl (lv_at hl 1 rfl) ?_
            refine lv_iload hx hb dX0_measure_49 (lv_at hl 0 rfl) ?_
            refine lv_if_eq (tgt := 58) hx hb dX0_measure_51 (by decide) (fun c_13 => absurd c_13 (by decide)) (fun c_13 => ?_)
            refine lv_iconst (v := 0) hx hb dX0_measure_54 (by decide) ?_
            refine lv_goto (tgt := 60) hx hb dX0_measure_55 (by decide) ?_
            refine va_iast hx hb hK hP hD hS 4 3 rfl rfl (vp_in_nI (by omega) (by omega)) dX0_measure_60 (fun H locs hP hD hS => ?_)
            rw [(nI_clamp (by omega))] at hP hD
            have hP : va_P D vwCl (xw ad tt R w c k (upd d1 r 0) n wp wr) H := hP
            have hD : va_D A (xw ad tt R w c k (upd d1 r 0) n wp wr) := hD
            refine lv_iinc (v := nI (r + 1)) (lv' := [(3, .int (nI (r + 1))), (4, .int 1), (0, .ref (ad 0)), (1, .int ov), (2, .int (nI t))]) hx hb dX0_measure_61 hl (k := 1) rfl (nI_1 r) (by decide) rfl (fun ls hl => ?_)
            refine lv_goto (tgt := 2) hx hb dX0_measure_64 (by decide) ?_
            exact ih2 (r + 1) _ (by omega) (up_P (P := (fun a v => (ww_tg w k ov t a → v = nI 0) ∧ (¬ ww_tg w k ov t a → v = nI 1000000))) hd1 ⟨fun _ => rfl, fun h => absurd htg h⟩) (by omega) H locs ls hP hD hS (lv_sub hl [0, 2, 3, 4] rfl)
  exact lp2 _ 0 d (by omega) (fun a h => absurd h (Nat.not_lt_zero a)) (Nat.lt_succ_self _) H locs ls hP hD hS (lv_sub hl [0, 1, 2, 3] rfl)
end
section
/-- among the routers below a: the nearest one on wire x other than r, or none -/
def no_in (w : Nat → Int32) (T : Nat → Nat) (K r : Nat) (x : Int32) (a : Nat) (bv : Int32) (lt : Nat) : Prop :=
  (bv = -1 ∧ lt = K ∧ ∀ b, b < a → b ≠ r → ww_on w b x → ¬ T b < K) ∨ ∃ b, b < a ∧ b ≠ r ∧ bv = nI b ∧ ww_on w b x ∧ T b = lt ∧ lt < K ∧ ∀ b', b' < a → b' ≠ r → ww_on w b' x → T b' < K → T b < T b' ∨ (T b = T b' ∧ b ≤ b')
section
variable {w : Nat → Int32} {T : Nat → Nat} {K r a lt : Nat} {x bv : Int32}
theorem no_0 : no_in w T K r x 0 (-1) K := Or.inl ⟨rfl, rfl, fun b h => absurd h (Nat.not_lt_zero b)⟩
theorem no_le (h : no_in w T K r x a bv lt) : lt ≤ K := by
  rcases h with ⟨-, h, -⟩ | ⟨b, -, -, -, -, -, h, -⟩ <;> omega
/-- the next one doesn't count, or isn't nearer -/
theorem no_skip (h : no_in w T K r x a bv lt) (hs : a ≠ r → ww_on w a x → lt ≤ T a) : no_in w T K r x (a + 1) bv lt := by
  rcases h with ⟨h1, h2, h3⟩ | ⟨b, h1, h2, h3, h4, h5, h6, h7⟩
  · refine Or.inl ⟨h1, h2, fun b hb hne hon => ?_⟩
    by_cases hba : b = a
    · subst hba
      have := hs hne hon
      omega
    · exact h3 b (by omega) hne hon
  · refine Or.inr ⟨b, by omega, h2, h3, h4, h5, h6, fun b' hb' hne hon hk => ?_⟩
    by_cases hba : b' = a
    · subst hba
      have := hs hne hon
      omega
    · exact h7 b' (by omega) hne hon hk
theorem no_put (h : no_in w T K r x a bv lt) (hne : a ≠ r) (hon : ww_on w a x) (hlt : T a < lt) : no_in w T K r x (a + 1) (nI a) (T a) := by
  have hK := no_le h
  refine Or.inr ⟨a, by omega, hne, rfl, hon, rfl, by omega, fun b' hb' hne' hon' hk => ?_⟩
  by_cases hba : b' = a
  · subst hba
    exact Or.inr ⟨rfl, Nat.le_refl _⟩
  · rcases h with ⟨h1, h2, h3⟩ | ⟨b, h1, h2, h3, h4, h5, h6, h7⟩
    · exact absurd hk (h3 b' (by omega) hne' hon')
    · have := h7 b' (by omega) hne' hon' hk
      omega
end
/-- among the ports below j of router r: the way, or none -/
def fw_in (E : Nat → Nat → Nat → Prop) (cs : Nat → Nat → Nat) (K : Nat) (T : Nat → Nat) (r j lt : Nat) (p1 q1 : Int32) : Prop :=
  (lt = K ∧ p1 = -1 ∧ q1 = -1 ∧ ∀ p b, p < j → E r p b → ¬ T b < K) ∨ ∃ p b, p < j ∧ p1 = nI p ∧ q1 = nI b ∧ E r p b ∧ T b < K ∧ lt = cs r p + T b ∧ ∀ p' b', p' < j → E r p' b' → T b' < K → lt < cs r p' + T b' ∨ (lt = cs r p' + T b' ∧ (p < p' ∨ (p = p' ∧ b ≤ b')))
section
variable {E : Nat → Nat → Nat → Prop} {cs : Nat → Nat → Nat} {K : Nat} {T : Nat → Nat} {r j lt b : Nat} {p1 q1 : Int32}
theorem fw_0 : fw_in E cs K T r 0 K (-1) (-1) := Or.inl ⟨rfl, rfl, rfl, fun p b h => absurd h (Nat.not_lt_zero p)⟩
/-- no pair of port j is better -/
theorem fw_skip (h : fw_in E cs K T r j lt p1 q1) (hs : ∀ b', E r j b' → T b' < K → lt ≤ cs r j + T b') (hk : lt = K → ∀ b', E r j b' → ¬ T b' < K) : fw_in E cs K T r (j + 1) lt p1 q1 := by
  rcases h with ⟨h1, h2, h3, h4⟩ | ⟨p, b, h1, h2, h3, h4, h5, h6, h7⟩
  · refine Or.inl ⟨h1, h2, h3, fun p b hp hE => ?_⟩
    by_cases hpj : p = j
    · subst hpj
      exact hk h1 b hE
    · exact h4 p b (by omega) hE
  · refine Or.inr ⟨p, b, by omega, h2, h3, h4, h5, h6, fun p' b' hp' hE' hk' => ?_⟩
    by_cases hpj : p' = j
    · subst hpj
      have := hs b' hE' hk'
      omega
    · exact h7 p' b' (by omega) hE' hk'
theorem fw_put (h : fw_in E cs K T r j lt p1 q1) (hE : E r j b) (hb : T b < K) (hlt : cs r j + T b < lt) (hn : ∀ b', E r j b' → T b' < K → T b < T b' ∨ (T b = T b' ∧ b ≤ b')) : fw_in E cs K T r (j + 1) (cs r j + T b) (nI j) (nI b) := by
  refine Or.inr ⟨j, b, by omega, rfl, rfl, hE, hb, rfl, fun p' b' hp' hE' hk' => ?_⟩
  by_cases hpj : p' = j
  · subst hpj
    have := hn b' hE' hk'
    omega
  · rcases h with ⟨h1, h2, h3, h4⟩ | ⟨p, b0, h1, h2, h3, h4, h5, h6, h7⟩
    · exact absurd hk' (h4 p' b' (by omega) hE')
    · have := h7 p' b' (by omega) hE' hk'
      omega
theorem fw_way (h : fw_in E cs K T r 4 lt p1 q1) (hE4 : ∀ p b, E r p b → p < 4) (hex : ∃ p b, E r p b ∧ T b < K) : ∃ p b, p1 = nI p ∧ q1 = nI b ∧ dm_way E cs K T r p b := by
  rcases h with ⟨h1, h2, h3, h4⟩ | ⟨p, b, h1, h2, h3, h4, h5, h6, h7⟩
  · obtain ⟨p, b, he, hb⟩ := hex
    exact absurd hb (h4 p b (hE4 p b he) he)
  · exact ⟨p, b, h2, h3, h4, h5, fun p' b' he hb => by
      have := h7 p' b' (hE4 p' b' he) he hb
      omega⟩
end
/-- the way's port and router, found for router r that can come to the aim -/
def fw_ok (R : Nat) (w c k : Nat → Int32) (ov : Int32) (t K : Nat) (T : Nat → Nat) (r : Nat) (p1 q1 : Int32) : Prop :=
  (ww_tg w k ov t r → q1 = -1 ∧ (ov = 0 → p1 = -1) ∧ (ov ≠ 0 → ww_po w r (nI t) p1)) ∧ (¬ ww_tg w k ov t r → ∃ p b, p1 = nI p ∧ q1 = nI b ∧ dm_way (ww_E R w k) (ww_c c) K T r p b)
section
variable {R K : Nat} {w c k : Nat → Int32} {T : Nat → Nat} {r j lt b x : Nat} {p1 q1 : Int32}
/-- what nearestOther says of the pairs of port j -/
theorem no_E (hx : x < 16) (ex : w (4 * r + j) = nI x) {b' : Nat} (hE : ww_E R w k r j b') : b' < R ∧ b' ≠ r ∧ ww_on w b' (w (4 * r + j)) := by
  obtain ⟨-, -, h1, h2, y, hy, ey, -, h3⟩ := hE
  exact ⟨h1, h2, by rw [ey]; exact h3⟩
theorem no_notup (hno : ¬ upw k (w (4 * r + j))) {b' : Nat} (hE : ww_E R w k r j b') : False := by
  obtain ⟨-, -, h1, h2, y, hy, ey, hk, h3⟩ := hE
  exact hno ⟨y, hy, ey, hk⟩
theorem ww_E4 {p : Nat} (hE : ww_E R w k r p b) : p < 4 := hE.2.1
end
end
section
set_option maxHeartbeats 4000000 in
set_option maxRecDepth 100000 in
theorem k_X0_nearestOther (l : Launch) (D : va_G) (ad : Nat → Nat) (tt : Nat → ClassId) (R : Nat) (w c k d n : Nat → Int32) (wp wr : Int32) (hR : R ≤ 10) (r : Nat) (x : Int32) (hrR : r < R) (T0 : Nat → Nat) (hd : ∀ a, a < R → d a = nI (T0 a) ∧ T0 a ≤ 1000000) : xMi l yX0_nearestOther wsX0_nearestOther { frames := 2, cells := 0, slots := 0, locals := 44 } D (tyX tt) [.ref (ad 0), .int (nI r), .int x] (xw ad tt R w c k d n wp wr) (fun _ : Unit => xw ad tt R w c k d n wp wr) (fun v _ => ∃ lt, no_in w T0 1000000 r x R v lt) := by
  refine xe_i (cc := cX0_nearestOther) (maxL := 6) (ret := (some .int)) (lvl := [(0, .ref (ad 0)), (1, .int (nI r)), (2, .int x)]) (by decide) rfl (Nat.le_of_ble_eq_true rfl) rfl ?_
  intro p e s m below meth cd A ls hx hb hr hlocks hml hown hts hA hP hK hD hS hl
  have hin : ∀ w ∈ wsX00, w ∈ wsX0_nearestOther := fun _ h => List.mem_cons_of_mem _ (List.mem_append_right _ h)
  have S0 : CallFix p m cd cX0_nearestOther 6 s (([.ref (ad 0), .int (nI r), .int x] : List Value).toArray) wsX0_nearestOther RX0 := ⟨hx, hb, hml, hown, hts⟩
  obtain ⟨H, hH⟩ : ∃ H, H = s.heap := ⟨_, rfl⟩
  obtain ⟨locs, hlocs⟩ : ∃ q : List Loc, q = [] := ⟨_, rfl⟩
  have hP : va_P D vwCl (xw ad tt R w c k d n wp wr) H := by rw [hH]; exact hP
  have hS : va_S A s.heap H locs := by rw [hH, hlocs]; exact hS
  suffices hgo : W p l e (headSpec wsX0_nearestOther ({ frames := 2, cells := 0, slots := 0, locals := 44 } : Room)).room s m (([.ref (ad 0), .int (nI r), .int x] : List Value).toArray) below meth cd H locs 0 0 (MQ below (va_Qi (fun v _ => ∃ lt, no_in w T0 1000000 r x R v lt) (xB D (tyX tt) A (fun _ : Unit => xw ad tt R w c k d n wp wr)) A) ([.ref (ad 0), .int (nI r), .int x] : List Value).toArray s 0 0 A) (F0 m 0 ls []) by rw [hH, hlocs] at hgo; exact hgo
  clear hH hlocs
  have f_routers := hts (.fieldLink RX0 18 "WireWays" "routers" "I") (by decide +kernel)
  have f_distance := hts (.fieldLink RX0 33 "WireWays" "distance" "[I") (by decide +kernel)
  refine lv_iconst (v := (-1)) hx hb dX0_nearestOther_0 (by decide) ?_
  refine lv_istore_n (lv' := [(3, .int (-1)), (0, .ref (ad 0)), (1, .int (nI r)), (2, .int x)]) hx hb dX0_nearestOther_1 rfl hl (by decide) rfl (fun ls hl => ?_)
  refine lv_ldc (v := 1000000) hx hb hown (hts (.constant RX0 83 1000000) (by decide +kernel)) dX0_nearestOther_2 ?_
  refine lv_istore (lv' := [(4, .int 1000000), (3, .int (-1)), (0, .ref (ad 0)), (1, .int (nI r)), (2, .int x)]) hx hb dX0_nearestOther_4 hl (by decide) rfl (fun ls hl => ?_)
  refine lv_iconst (v := 0) hx hb dX0_nearestOther_6 (by decide) ?_
  refine lv_istore (lv' := [(5, .int 0), (4, .int 1000000), (3, .int (-1)), (0, .ref (ad 0)), (1, .int (nI r)), (2, .int x)]) hx hb dX0_nearestOther_7 hl (by decide) rfl (fun ls hl => ?_)
  have lp9 : ∀ (fuel : Nat) (a : Nat) (bv : Int32) (lt : Nat), (a ≤ R) → (no_in w T0 1000000 r x a bv lt) → R - a < fuel → ∀ (H : Heap) (locs : List Loc) (ls : Array Slot), va_P D vwCl (xw ad tt R w c k d n wp wr) H → va_D A (xw ad tt R w c k d n wp wr) → va_S A s.heap H locs → lv_has ls 6 [(5, .int (nI a)), (4, .int (nI lt)), (3, .int bv), (0, .ref (ad 0)), (1, .int (nI r)), (2, .int x)] → W p l e (headSpec wsX0_nearestOther ({ frames := 2, cells := 0, slots := 0, locals := 44 } : Room)).room s m ([.ref (ad 0), .int (nI r), .int x] : List Value).toArray below meth cd H locs 0 0 (MQ below (va_Qi (fun v _ => ∃ lt, no_in w T0 1000000 r x R v lt) (xB D (tyX tt) A (fun _ : Unit => xw ad tt R w c k d n wp wr)) A) ([.ref (ad 0), .int (nI r), .int x] : List Value).toArray s 0 0 A) (F0 m 9 ls []) := by
    intro fuel
    induction fuel with
    | zero => intro a bv lt ha0 hno hm; exact absurd hm (Nat.not_lt_zero _)
    | succ fuel ih9 =>
      intro a bv lt ha0 hno hm H locs ls hP hD hS hl
      refine lv_iload hx hb dX0_nearestOther_9 (lv_at hl 0 rfl) ?_
      refine lv_aload_n hx hb dX0_nearestOther_11 rfl (lv_at hl 3 rfl) ?_
      refine x0_get (v := .int (nI R)) S0 hin hK hP 0 (by decide) f_routers rfl rfl dX0_nearestOther_12 ?_
      refine lv_icmp_ge (tgt := 65) hx hb dX0_nearestOther_15 (by decide) (fun c_1 => ?_) (fun c_1 => ?_)
      · have haR : R ≤ a := (nI_leI (by omega) (by omega)).mp c_1
        refine lv_iload_n hx hb dX0_nearestOther_65 rfl (lv_at hl 2 rfl) ?_
        exact xr_i hx hb hr hlocks () ⟨lt, by rw [show R = a by omega]; exact hno⟩ hP hK hD hS dX0_nearestOther_66
      · have haR : a < R := Nat.lt_of_not_le (fun h => c_1 (nI_le h (by omega)))
        have hda := hd a haR
        have hlK := no_le hno
        refine lv_iload hx hb dX0_nearestOther_18 (lv_at hl 0 rfl) ?_
        refine lv_iload_n hx hb dX0_nearestOther_20 rfl (lv_at hl 4 rfl) ?_
        refine lv_icmp_eq (tgt := 59) hx hb dX0_nearestOther_21 (by decide) (fun c_2 => ?_) (fun c_2 => ?_)
        · have hsk : a ≠ r → ww_on w a x → lt ≤ T0 a := fun h => absurd ((nI_eq (by omega) (by omega)).mp c_2) h
          refine lv_iinc (v := nI (a + 1)) (lv' := [(5, .int (nI (a + 1))), (4, .int (nI lt)), (3, .int bv), (0, .ref (ad 0)), (1, .int (nI r)), (2, .int x)]) hx hb dX0_nearestOther_59 hl (k := 0) rfl (nI_1 a) (by decide) rfl (fun ls hl => ?_)
          refine lv_goto (tgt := 9) hx hb dX0_nearestOther_62 (by decide) ?_
          exact ih9 (a + 1) bv lt (by omega) (no_skip hno hsk) (by omega) H locs ls hP hD hS (lv_sub hl [0, 1, 2, 3, 4, 5] rfl)
        · have hne : a ≠ r := fun h => c_2 (congrArg nI h)
          refine lv_aload_n hx hb dX0_nearestOther_24 rfl (lv_at hl 3 rfl) ?_
          refine x0_get (v := .ref (ad 4)) S0 hin hK hP 4 (by decide) f_distance rfl rfl dX0_nearestOther_25 ?_
          refine lv_iload hx hb dX0_nearestOther_28 (lv_at hl 0 rfl) ?_
          refine va_iald hx hb hK hP 4 3 rfl rfl (vp_in_nI (by omega) (by omega)) dX0_nearestOther_30 ?_
          refine xt_eq (z := d a) (congrArg d (nI_clamp (by omega))) ?_
          refine xt_eq (z := nI (T0 a)) hda.1 ?_
          refine lv_iload hx hb dX0_nearestOther_31 (lv_at hl 1 rfl) ?_
          refine lv_icmp_ge (tgt := 59) hx hb dX0_nearestOther_33 (by decide) (fun c_3 => ?_) (fun c_3 => ?_)
          · have hsk : a ≠ r → ww_on w a x → lt ≤ T0 a := fun _ _ => (nI_leI (by omega) (by omega)).mp c_3
            refine lv_iinc (v := nI (a + 1)) (lv' := [(5, .int (nI (a + 1))), (4, .int (nI lt)), (3, .int bv), (0, .ref (ad 0)), (1, .int (nI r)), (2, .int x)]) hx hb dX0_nearestOther_59 hl (k := 0) rfl (nI_1 a) (by decide) rfl (fun ls hl => ?_)
            refine lv_goto (tgt := 9) hx hb dX0_nearestOther_62 (by decide) ?_
            exact ih9 (a + 1) bv lt (by omega) (no_skip hno hsk) (by omega) H locs ls hP hD hS (lv_sub hl [0, 1, 2, 3, 4, 5] rfl)
          · have hlt : T0 a < lt := Nat.lt_of_not_le (fun h => c_3 (nI_le h (by omega)))
            refine lv_aload_n hx hb dX0_nearestOther_36 rfl (lv_at hl 3 rfl) ?_
            refine lv_iload hx hb dX0_nearestOther_37 (lv_at hl 0 rfl) ?_
            refine lv_iload_n hx hb dX0_nearestOther_39 rfl (lv_at hl 5 rfl) ?_
            refine xs_Vi (wr := []) (q0 := 0) (ci := 0) (nA := 2) (As := [.int (nI a), .int x]) (rest := []) S0 (k_X0_portOn l D ad tt R w c k d n wp wr a x (by omega)) gX0_nearestOther_X0_portOn rfl ⟨rfl, rfl⟩ (by decide +kernel) rfl ⟨Nat.le_of_ble_eq_true rfl, Nat.le_of_ble_eq_true rfl⟩ ⟨Nat.le_of_ble_eq_true rfl, Nat.le_of_ble_eq_true rfl⟩ hK hP hD hS hA [0, 1, 2, 3, 4, 5] [] rfl rfl (by decide) (by decide) (by decide) rfl rfl rfl hl.1 rfl (Nat.le_of_ble_eq_true rfl) dX0_nearestOther_40 (fun r_4 u H locs hw hP hD hS => ?_)
            have hP : va_P D vwCl (xw ad tt R w c k d n wp wr) H := hP
            have hD : va_D A (xw ad tt R w c k d n wp wr) := hD
            have h_po := hw
            refine lv_iconst (v := (-1)) hx hb dX0_nearestOther_43 (by decide) ?_
            refine lv_icmp_eq (tgt := 59) hx hb dX0_nearestOther_44 (by decide) (fun c_5 => ?_) (fun c_5 => ?_)
            · have hsk : a ≠ r → ww_on w a x → lt ≤ T0 a := fun _ h => absurd h ((ww_po_on h_po).mp c_5)
              refine lv_iinc (v := nI (a + 1)) (lv' := [(5, .int (nI (a + 1))), (4, .int (nI lt)), (3, .int bv), (0, .ref (ad 0)), (1, .int (nI r)), (2, .int x)]) hx hb dX0_nearestOther_59 hl (k := 0) rfl (nI_1 a) (by decide) rfl (fun ls hl => ?_)
              refine lv_goto (tgt := 9) hx hb dX0_nearestOther_62 (by decide) ?_
              exact ih9 (a + 1) bv lt (by omega) (no_skip hno hsk) (by omega) H locs ls hP hD hS (lv_sub hl [0, 1, 2, 3, 4, 5] rfl)
            · have hon := ww_on_of (v := 0) h_po c_5
              refine lv_iload hx hb dX0_nearestOther_47 (lv_at hl 0 rfl) ?_
              refine lv_istore_n (lv' := [(3, .int (nI a)), (5, .int (nI a)), (4, .int (nI lt)), (0, .ref (ad 0)), (1, .int (nI r)), (2, .int x)]) hx hb dX0_nearestOther_49 rfl hl (by decide) rfl (fun ls hl => ?_)
              refine lv_aload_n hx hb dX0_nearestOther_50 rfl (lv_at hl 3 rfl) ?_
              refine x0_get (v := .ref (ad 4)) S0 hin hK hP 4 (by decide) f_distance rfl rfl dX0_nearestOther_51 ?_
              refine lv_iload hx hb dX0_nearestOther_54 (lv_at hl 1 rfl) ?_
              refine va_iald hx hb hK hP 4 3 rfl rfl (vp_in_nI (by omega) (by omega)) dX0_nearestOther_56 ?_
              refine xt_eq (z := d a) (congrArg d (nI_clamp (by omega))) ?_
              refine xt_eq (z := nI (T0 a)) hda.1 ?_
              refine lv_istore (lv' := [(4, .int (nI (T0 a))), (3, .int (nI a)), (5, .int (nI a)), (0, .ref (ad 0)), (1, .int (nI r)), (2, .int x)]) hx hb dX0_nearestOther_57 hl (by decide) rfl (fun ls hl => ?_)
              refine lv_iinc (v := nI (a + 1)) (lv' := [(5, .int (nI (a + 1))), (4, .int (nI (T0 a))), (3, .int (nI a)), (0, .ref (ad 0)), (1, .int (nI r)), (2, .int x)]) hx hb dX0_nearestOther_59 hl (k := 2) rfl (nI_1 a) (by decide) rfl (fun ls hl => ?_)
              refine lv_goto (tgt := 9) hx hb dX0_nearestOther_62 (by decide) ?_
              exact ih9 (a + 1) (nI a) (T0 a) (by omega) (no_put hno hne hon hlt) (by omega) H locs ls hP hD hS (lv_sub hl [0, 1, 2, 3, 4, 5] rfl)
  exact lp9 _ 0 (-1) 1000000 (by omega) no_0 (Nat.lt_succ_self _) H locs ls hP hD hS (lv_sub hl [0, 1, 2, 3, 4, 5] rfl)
set_option maxHeartbeats 4000000 in
set_option maxRecDepth 100000 in
theorem k_X0_findWay (l : Launch) (D : va_G) (ad : Nat → Nat) (tt : Nat → ClassId) (R : Nat) (w c k d n : Nat → Int32) (wp wr : Int32) (hok : ww_ok R w c) (ov : Int32) (t : Nat) (T0 : Nat → Nat) (hT0 : dm_ok R (ww_tg w k ov t) (ww_E R w k) (ww_c c) 1000000 T0) (hd0 : ∀ a, a < R → d a = nI (T0 a)) (r : Nat) (hrR : r < R) (hrK : T0 r < 1000000) : xMv l yX0_findWay wsX0_findWay { frames := 3, cells := 0, slots := 0, locals := 69 } D (tyX tt) [.ref (ad 0), .int (nI r), .int ov, .int (nI t)] (xw ad tt R w c k d n wp wr) (fun u : Int32 × Int32 => xw ad tt R w c k d n u.1 u.2) (fun u => fw_ok R w c k ov t 1000000 T0 r u.1 u.2) := by
  refine xe_v (cc := cX0_findWay) (maxL := 8) (ret := none) (lvl := [(0, .ref (ad 0)), (1, .int (nI r)), (2, .int ov), (3, .int (nI t))]) (by decide) rfl (Nat.le_of_ble_eq_true rfl) rfl ?_
  intro p e s m below meth cd A ls hx hb hr hlocks hml hown hts hA hP hK hD hS hl
  have hin : ∀ w ∈ wsX00, w ∈ wsX0_findWay := fun _ h => List.mem_cons_of_mem _ (List.mem_append_right _ h)
  have S0 : CallFix p m cd cX0_findWay 8 s (([.ref (ad 0), .int (nI r), .int ov, .int (nI t)] : List Value).toArray) wsX0_findWay RX0 := ⟨hx, hb, hml, hown, hts⟩
  obtain ⟨H, hH⟩ : ∃ H, H = s.heap := ⟨_, rfl⟩
  obtain ⟨locs, hlocs⟩ : ∃ q : List Loc, q = [] := ⟨_, rfl⟩
  have hP : va_P D vwCl (xw ad tt R w c k d n wp wr) H := by rw [hH]; exact hP
  have hS : va_S A s.heap H locs := by rw [hH, hlocs]; exact hS
  suffices hgo : W p l e (headSpec wsX0_findWay ({ frames := 3, cells := 0, slots := 0, locals := 69 } : Room)).room s m (([.ref (ad 0), .int (nI r), .int ov, .int (nI t)] : List Value).toArray) below meth cd H locs 0 0 (MQ below (va_Qv (fun u => fw_ok R w c k ov t 1000000 T0 r u.1 u.2) (xB D (tyX tt) A (fun u : Int32 × Int32 => xw ad tt R w c k d n u.1 u.2)) A) ([.ref (ad 0), .int (nI r), .int ov, .int (nI t)] : List Value).toArray s 0 0 A) (F0 m 0 ls []) by rw [hH, hlocs] at hgo; exact hgo
  clear hH hlocs
  have f_wireAt := hts (.fieldLink RX0 22 "WireWays" "wireAt" "[I") (by decide +kernel)
  have f_costAt := hts (.fieldLink RX0 26 "WireWays" "costAt" "[I") (by decide +kernel)
  have f_distance := hts (.fieldLink RX0 33 "WireWays" "distance" "[I") (by decide +kernel)
  have f_wayPort := hts (.fieldLink RX0 39 "WireWays" "wayPort" "I") (by decide +kernel)
  have f_wayRouter := hts (.fieldLink RX0 42 "WireWays" "wayRouter" "I") (by decide +kernel)
  have hR : R ≤ 10 := hok.2.1
  have hd : ∀ a, a < R → d a = nI (T0 a) ∧ T0 a ≤ 1000000 := fun a h => ⟨hd0 a h, hT0.1 a h⟩
  refine lv_aload_n hx hb dX0_findWay_0 rfl (lv_at hl 0 rfl) ?_
  refine lv_iconst (v := (-1)) hx hb dX0_findWay_1 (by decide) ?_
  refine x0_put (v := .int (-1)) S0 hin hK hP hD hS 6 (by decide) f_wayPort rfl rfl rfl rfl rfl (Nat.le_of_ble_eq_true rfl) dX0_findWay_2 (fun H locs hP hD hS => ?_)
  have hP : va_P D vwCl (xw ad tt R w c k d n (-1) wr) H := hP
  have hD : va_D A (xw ad tt R w c k d n (-1) wr) := hD
  refine lv_aload_n hx hb dX0_findWay_5 rfl (lv_at hl 0 rfl) ?_
  refine lv_iconst (v := (-1)) hx hb dX0_findWay_6 (by decide) ?_
  refine x0_put (v := .int (-1)) S0 hin hK hP hD hS 7 (by decide) f_wayRouter rfl rfl rfl rfl rfl (Nat.le_of_ble_eq_true rfl) dX0_findWay_7 (fun H locs hP hD hS => ?_)
  have hP : va_P D vwCl (xw ad tt R w c k d n (-1) (-1)) H := hP
  have hD : va_D A (xw ad tt R w c k d n (-1) (-1)) := hD
  refine lv_aload_n hx hb dX0_findWay_10 rfl (lv_at hl 0 rfl) ?_
  refine x0_get (v := .ref (ad 4)) S0 hin hK hP 4 (by decide) f_distance rfl rfl dX0_findWay_11 ?_
  refine lv_iload_n hx hb dX0_findWay_14 rfl (lv_at hl 1 rfl) ?_
  refine va_iald hx hb hK hP 4 3 rfl rfl (vp_in_nI (by omega) (by omega)) dX0_findWay_15 ?_
  refine xt_eq (z := d r) (congrArg d (nI_clamp (by omega))) ?_
  refine xt_eq (z := nI (T0 r)) (hd r hrR).1 ?_
  refine lv_if_ne (tgt := 38) hx hb dX0_findWay_16 (by decide) (fun c_1 => ?_) (fun c_1 => ?_)
  · have htg : ¬ ww_tg w k ov t r := fun h => c_1 (by rw [hT0.2.1 r hrR h]; rfl)
    refine lv_ldc (v := 1000000) hx hb hown (hts (.constant RX0 83 1000000) (by decide +kernel)) dX0_findWay_38 ?_
    refine lv_istore (lv' := [(4, .int 1000000), (0, .ref (ad 0)), (1, .int (nI r)), (2, .int ov), (3, .int (nI t))]) hx hb dX0_findWay_40 hl (by decide) rfl (fun ls hl => ?_)
    refine lv_iconst (v := 0) hx hb dX0_findWay_42 (by decide) ?_
    refine lv_istore (lv' := [(5, .int 0), (4, .int 1000000), (0, .ref (ad 0)), (1, .int (nI r)), (2, .int ov), (3, .int (nI t))]) hx hb dX0_findWay_43 hl (by decide) rfl (fun ls hl => ?_)
    have lp45 : ∀ (fuel : Nat) (j : Nat) (lt : Nat) (p1 : Int32) (q1 : Int32), (j ≤ 4) → (lt ≤ 1000000) → (fw_in (ww_E R w k) (ww_c c) 1000000 T0 r j lt p1 q1) → 4 - j < fuel → ∀ (H : Heap) (locs : List Loc) (ls : Array Slot), va_P D vwCl (xw ad tt R w c k d n p1 q1) H → va_D A (xw ad tt R w c k d n p1 q1) → va_S A s.heap H locs → lv_has ls 8 [(5, .int (nI j)), (4, .int (nI lt)), (0, .ref (ad 0)), (1, .int (nI r)), (2, .int ov), (3, .int (nI t))] → W p l e (headSpec wsX0_findWay ({ frames := 3, cells := 0, slots := 0, locals := 69 } : Room)).room s m ([.ref (ad 0), .int (nI r), .int ov, .int (nI t)] : List Value).toArray below meth cd H locs 0 0 (MQ below (va_Qv (fun u => fw_ok R w c k ov t 1000000 T0 r u.1 u.2) (xB D (tyX tt) A (fun u : Int32 × Int32 => xw ad tt R w c k d n u.1 u.2)) A) ([.ref (ad 0), .int (nI r), .int ov, .int (nI t)] : List Value).toArray s 0 0 A) (F0 m 45 ls []) := by
      intro fuel
      induction fuel with
      | zero => intro j lt p1 q1 hj0 hlK hfw hm; exact absurd hm (Nat.not_lt_zero _)
      | succ fuel ih45 =>
        intro j lt p1 q1 hj0 hlK hfw hm H locs ls hP hD hS hl
        refine lv_iload hx hb dX0_findWay_45 (lv_at hl 0 rfl) ?_
        refine lv_iconst (v := 4) hx hb dX0_findWay_47 (by decide) ?_
        refine lv_icmp_ge (tgt := 155) hx hb dX0_findWay_48 (by decide) (fun c_2 => ?_) (fun c_2 => ?_)
        · have hj4 : 4 ≤ j := (nI_leI (a := 4) (by omega) (by omega)).mp c_2
          exact xr_v hx hb hr hlocks (p1, q1) ⟨fun h => absurd h htg, fun _ => fw_way (by rw [show 4 = j by omega]; exact hfw) (fun p b hE => ww_E4 hE) (by obtain ⟨p, b, hE, hq⟩ := hT0.2.2.2 r hrR htg hrK; exact ⟨p, b, hE, by omega⟩)⟩ hP hK hD hS dX0_findWay_155
        · have hj4 : j < 4 := Nat.lt_of_not_le (fun h => c_2 (nI_le (a := 4) h (by omega)))
          refine lv_iload_n hx hb dX0_findWay_51 rfl (lv_at hl 3 rfl) ?_
          refine lv_iload hx hb dX0_findWay_52 (lv_at hl 0 rfl) ?_
          refine xs_Si (nA := 2) (As := [.int (nI r), .int (nI j)]) (rest := []) S0 (k_X0_placeOf l D (nI r) (nI j)) gX0_findWay_X0_placeOf rfl ⟨rfl, rfl⟩ (by decide +kernel) rfl ⟨Nat.le_of_ble_eq_true rfl, Nat.le_of_ble_eq_true rfl⟩ ⟨Nat.le_of_ble_eq_true rfl, Nat.le_of_ble_eq_true rfl⟩ hK hP hD hS hA hl.1 rfl (Nat.le_of_ble_eq_true rfl) dX0_findWay_54 (fun r_3 H locs hw hP hD hS => ?_)
          have hw : r_3 = nI (4 * r + j) := by rw [hw]; exact nI_pl _ _
          subst hw
          refine lv_istore (lv' := [(6, .int (nI (4 * r + j))), (5, .int (nI j)), (4, .int (nI lt)), (0, .ref (ad 0)), (1, .int (nI r)), (2, .int ov), (3, .int (nI t))]) hx hb dX0_findWay_57 hl (by decide) rfl (fun ls hl => ?_)
          refine lv_aload_n hx hb dX0_findWay_59 rfl (lv_at hl 3 rfl) ?_
          refine lv_aload_n hx hb dX0_findWay_60 rfl (lv_at hl 3 rfl) ?_
          refine x0_get (v := .ref (ad 1)) S0 hin hK hP 1 (by decide) f_wireAt rfl rfl dX0_findWay_61 ?_
          refine lv_iload hx hb dX0_findWay_64 (lv_at hl 0 rfl) ?_
          refine va_iald hx hb hK hP 1 0 rfl rfl (vp_in_nI (by omega) (by omega)) dX0_findWay_66 ?_
          refine xt_eq (z := w (4 * r + j)) (congrArg w (nI_clamp (by omega))) ?_
          refine xs_Vi (wr := []) (q0 := 0) (ci := 0) (nA := 1) (As := [.int (w (4 * r + j))]) (rest := []) S0 (k_X0_isUp l D ad tt R w c k d n p1 q1 (w (4 * r + j))) gX0_findWay_X0_isUp rfl ⟨rfl, rfl⟩ (by decide +kernel) rfl ⟨Nat.le_of_ble_eq_true rfl, Nat.le_of_ble_eq_true rfl⟩ ⟨Nat.le_of_ble_eq_true rfl, Nat.le_of_ble_eq_true rfl⟩ hK hP hD hS hA [0, 1, 2, 3, 4, 5] [] rfl rfl (by decide) (by decide) (by decide) rfl rfl rfl hl.1 rfl (Nat.le_of_ble_eq_true rfl) dX0_findWay_67 (fun r_4 u H locs hw hP hD hS => ?_)
          have hP : va_P D vwCl (xw ad tt R w c k d n p1 q1) H := hP
          have hD : va_D A (xw ad tt R w c k d n p1 q1) := hD
          rcases hw with ⟨rfl, h_u⟩ | ⟨rfl, h_u⟩
          · refine lv_if_eq (tgt := 88) hx hb dX0_findWay_70 (by decide) (fun c_5 => absurd c_5 (by decide)) (fun c_5 => ?_)
            obtain ⟨x, hx6, ex, hk0⟩ := h_u
            have hcc := ww_c_ok hok hrR hj4 hx6 ex
            refine lv_aload_n hx hb dX0_findWay_73 rfl (lv_at hl 3 rfl) ?_
            refine lv_iload_n hx hb dX0_findWay_74 rfl (lv_at hl 4 rfl) ?_
            refine lv_aload_n hx hb dX0_findWay_75 rfl (lv_at hl 3 rfl) ?_
            refine x0_get (v := .ref (ad 1)) S0 hin hK hP 1 (by decide) f_wireAt rfl rfl dX0_findWay_76 ?_
            refine lv_iload hx hb dX0_findWay_79 (lv_at hl 0 rfl) ?_
            refine va_iald hx hb hK hP 1 0 rfl rfl (vp_in_nI (by omega) (by omega)) dX0_findWay_81 ?_
            refine xt_eq (z := w (4 * r + j)) (congrArg w (nI_clamp (by omega))) ?_
            refine xs_Vi (wr := []) (q0 := 0) (ci := 0) (nA := 2) (As := [.int (nI r), .int (w (4 * r + j))]) (rest := []) S0 (k_X0_nearestOther l D ad tt R w c k d n p1 q1 hR r (w (4 * r + j)) hrR T0 hd) gX0_findWay_X0_nearestOther rfl ⟨rfl, rfl⟩ (by decide +kernel) rfl ⟨Nat.le_of_ble_eq_true rfl, Nat.le_of_ble_eq_true rfl⟩ ⟨Nat.le_of_ble_eq_true rfl, Nat.le_of_ble_eq_true rfl⟩ hK hP hD hS hA [0, 1, 2, 3, 4, 5] [] rfl rfl (by decide) (by decide) (by decide) rfl rfl rfl hl.1 rfl (Nat.le_of_ble_eq_true rfl) dX0_findWay_82 (fun r_6 u H locs hw hP hD hS => ?_)
            have hP : va_P D vwCl (xw ad tt R w c k d n p1 q1) H := hP
            have hD : va_D A (xw ad tt R w c k d n p1 q1) := hD
            obtain ⟨l2, h_no⟩ := hw
            rcases h_no with ⟨rfl, hl2, hnone⟩ | ⟨b, hbR, hbr, rfl, hbon, hbl, hbK, hbmin⟩
            · refine lv_goto (tgt := 89) hx hb dX0_findWay_85 (by decide) ?_
              refine lv_istore (lv' := [(7, .int (-1)), (6, .int (nI (4 * r + j))), (5, .int (nI j)), (4, .int (nI lt)), (0, .ref (ad 0)), (1, .int (nI r)), (2, .int ov), (3, .int (nI t))]) hx hb dX0_findWay_89 hl (by decide) rfl (fun ls hl => ?_)
              refine lv_aload_n hx hb dX0_findWay_91 rfl (lv_at hl 4 rfl) ?_
              refine lv_iload hx hb dX0_findWay_92 (lv_at hl 0 rfl) ?_
              refine xs_Vi (wr := []) (q0 := 0) (ci := 0) (nA := 1) (As := [.int (-1)]) (rest := []) S0 (k_X0_isRouter l D ad tt R w c k d n p1 q1 (-1) hR) gX0_findWay_X0_isRouter rfl ⟨rfl, rfl⟩ (by decide +kernel) rfl ⟨Nat.le_of_ble_eq_true rfl, Nat.le_of_ble_eq_true rfl⟩ ⟨Nat.le_of_ble_eq_true rfl, Nat.le_of_ble_eq_true rfl⟩ hK hP hD hS hA [0, 1, 2, 3, 4, 5] [] rfl rfl (by decide) (by decide) (by decide) rfl rfl rfl hl.1 rfl (Nat.le_of_ble_eq_true rfl) dX0_findWay_94 (fun r_7 u H locs hw hP hD hS => ?_)
              have hP : va_P D vwCl (xw ad tt R w c k d n p1 q1) H := hP
              have hD : va_D A (xw ad tt R w c k d n p1 q1) := hD
              rcases hw with ⟨rfl, h_r⟩ | ⟨rfl, h_r⟩
              · exact absurd h_r (ix_nm (by omega))
              · refine lv_if_eq (tgt := 149) hx hb dX0_findWay_97 (by decide) (fun c_8 => ?_) (fun c_8 => absurd c_8 (by decide))
                refine lv_iinc (v := nI (j + 1)) (lv' := [(5, .int (nI (j + 1))), (7, .int (-1)), (6, .int (nI (4 * r + j))), (4, .int (nI lt)), (0, .ref (ad 0)), (1, .int (nI r)), (2, .int ov), (3, .int (nI t))]) hx hb dX0_findWay_149 hl (k := 2) rfl (nI_1 j) (by decide) rfl (fun ls hl => ?_)
                refine lv_goto (tgt := 45) hx hb dX0_findWay_152 (by decide) ?_
                exact ih45 (j + 1) lt p1 q1 (by omega) hlK (fw_skip hfw (fun b' hE hk => absurd hk (hnone b' (no_E hx6 ex hE).1 (no_E hx6 ex hE).2.1 (no_E hx6 ex hE).2.2)) (fun _ b' hE => hnone b' (no_E hx6 ex hE).1 (no_E hx6 ex hE).2.1 (no_E hx6 ex hE).2.2)) (by omega) H locs ls hP hD hS (lv_sub hl [0, 3, 4, 5, 6, 7] rfl)
            · have hsm := dm_small (ww_gr hok) hT0 hbR (by omega)
              refine lv_goto (tgt := 89) hx hb dX0_findWay_85 (by decide) ?_
              refine lv_istore (lv' := [(7, .int (nI b)), (6, .int (nI (4 * r + j))), (5, .int (nI j)), (4, .int (nI lt)), (0, .ref (ad 0)), (1, .int (nI r)), (2, .int ov), (3, .int (nI t))]) hx hb dX0_findWay_89 hl (by decide) rfl (fun ls hl => ?_)
              refine lv_aload_n hx hb dX0_findWay_91 rfl (lv_at hl 4 rfl) ?_
              refine lv_iload hx hb dX0_findWay_92 (lv_at hl 0 rfl) ?_
              refine xs_Vi (wr := []) (q0 := 0) (ci := 0) (nA := 1) (As := [.int (nI b)]) (rest := []) S0 (k_X0_isRouter l D ad tt R w c k d n p1 q1 (nI b) hR) gX0_findWay_X0_isRouter rfl ⟨rfl, rfl⟩ (by decide +kernel) rfl ⟨Nat.le_of_ble_eq_true rfl, Nat.le_of_ble_eq_true rfl⟩ ⟨Nat.le_of_ble_eq_true rfl, Nat.le_of_ble_eq_true rfl⟩ hK hP hD hS hA [0, 1, 2, 3, 4, 5] [] rfl rfl (by decide) (by decide) (by decide) rfl rfl rfl hl.1 rfl (Nat.le_of_ble_eq_true rfl) dX0_findWay_94 (fun r_9 u H locs hw hP hD hS => ?_)
              have hP : va_P D vwCl (xw ad tt R w c k d n p1 q1) H := hP
              have hD : va_D A (xw ad tt R w c k d n p1 q1) := hD
              rcases hw with ⟨rfl, h_r⟩ | ⟨rfl, h_r⟩
              · refine lv_if_eq (tgt := 149) hx hb dX0_findWay_97 (by decide) (fun c_10 => absurd c_10 (by decide)) (fun c_10 => ?_)
                refine lv_aload_n hx hb dX0_findWay_100 rfl (lv_at hl 4 rfl) ?_
                refine x0_get (v := .ref (ad 2)) S0 hin hK hP 2 (by decide) f_costAt rfl rfl dX0_findWay_101 ?_
                refine lv_iload hx hb dX0_findWay_104 (lv_at hl 1 rfl) ?_
                refine va_iald hx hb hK hP 2 1 rfl rfl (vp_in_nI (by omega) (by omega)) dX0_findWay_106 ?_
                refine xt_eq (z := c (4 * r + j)) (congrArg c (nI_clamp (by omega))) ?_
                refine xt_eq (z := nI (ww_c c r j)) hcc.1 ?_
                refine lv_aload_n hx hb dX0_findWay_107 rfl (lv_at hl 4 rfl) ?_
                refine x0_get (v := .ref (ad 4)) S0 hin hK hP 4 (by decide) f_distance rfl rfl dX0_findWay_108 ?_
                refine lv_iload hx hb dX0_findWay_111 (lv_at hl 0 rfl) ?_
                refine va_iald hx hb hK hP 4 3 rfl rfl (vp_in_nI (by omega) (by omega)) dX0_findWay_113 ?_
                refine xt_eq (z := d b) (congrArg d (nI_clamp (by omega))) ?_
                refine xt_eq (z := nI (T0 b)) (hd b hbR).1 ?_
                refine lv_iadd hx hb dX0_findWay_114 ?_
                refine xt_eq (z := nI (ww_c c r j + T0 b)) (nI_add _ _) ?_
                refine lv_iload hx hb dX0_findWay_115 (lv_at hl 3 rfl) ?_
                refine lv_icmp_ge (tgt := 149) hx hb dX0_findWay_117 (by decide) (fun c_11 => ?_) (fun c_11 => ?_)
                · have hle : lt ≤ ww_c c r j + T0 b := (nI_leI (by omega) (by omega)).mp c_11
                  refine lv_iinc (v := nI (j + 1)) (lv' := [(5, .int (nI (j + 1))), (7, .int (nI b)), (6, .int (nI (4 * r + j))), (4, .int (nI lt)), (0, .ref (ad 0)), (1, .int (nI r)), (2, .int ov), (3, .int (nI t))]) hx hb dX0_findWay_149 hl (k := 2) rfl (nI_1 j) (by decide) rfl (fun ls hl => ?_)
                  refine lv_goto (tgt := 45) hx hb dX0_findWay_152 (by decide) ?_
                  exact ih45 (j + 1) lt p1 q1 (by omega) hlK (fw_skip hfw (fun b' hE hk => Nat.le_trans hle (Nat.add_le_add_left (by have h9 := hbmin b' (no_E hx6 ex hE).1 (no_E hx6 ex hE).2.1 (no_E hx6 ex hE).2.2 hk; omega) _)) (fun h => absurd hle (by omega))) (by omega) H locs ls hP hD hS (lv_sub hl [0, 3, 4, 5, 6, 7] rfl)
                · have hle : ww_c c r j + T0 b < lt := Nat.lt_of_not_le (fun h => c_11 (nI_le h (by omega)))
                  refine lv_aload_n hx hb dX0_findWay_120 rfl (lv_at hl 4 rfl) ?_
                  refine x0_get (v := .ref (ad 2)) S0 hin hK hP 2 (by decide) f_costAt rfl rfl dX0_findWay_121 ?_
                  refine lv_iload hx hb dX0_findWay_124 (lv_at hl 1 rfl) ?_
                  refine va_iald hx hb hK hP 2 1 rfl rfl (vp_in_nI (by omega) (by omega)) dX0_findWay_126 ?_
                  refine xt_eq (z := c (4 * r + j)) (congrArg c (nI_clamp (by omega))) ?_
                  refine xt_eq (z := nI (ww_c c r j)) hcc.1 ?_
                  refine lv_aload_n hx hb dX0_findWay_127 rfl (lv_at hl 4 rfl) ?_
                  refine x0_get (v := .ref (ad 4)) S0 hin hK hP 4 (by decide) f_distance rfl rfl dX0_findWay_128 ?_
                  refine lv_iload hx hb dX0_findWay_131 (lv_at hl 0 rfl) ?_
                  refine va_iald hx hb hK hP 4 3 rfl rfl (vp_in_nI (by omega) (by omega)) dX0_findWay_133 ?_
                  refine xt_eq (z := d b) (congrArg d (nI_clamp (by omega))) ?_
                  refine xt_eq (z := nI (T0 b)) (hd b hbR).1 ?_
                  refine lv_iadd hx hb dX0_findWay_134 ?_
                  refine xt_eq (z := nI (ww_c c r j + T0 b)) (nI_add _ _) ?_
                  refine lv_istore (lv' := [(4, .int (nI (ww_c c r j + T0 b))), (7, .int (nI b)), (6, .int (nI (4 * r + j))), (5, .int (nI j)), (0, .ref (ad 0)), (1, .int (nI r)), (2, .int ov), (3, .int (nI t))]) hx hb dX0_findWay_135 hl (by decide) rfl (fun ls hl => ?_)
                  refine lv_aload_n hx hb dX0_findWay_137 rfl (lv_at hl 4 rfl) ?_
                  refine lv_iload hx hb dX0_findWay_138 (lv_at hl 3 rfl) ?_
                  refine x0_put (v := .int (nI j)) S0 hin hK hP hD hS 6 (by decide) f_wayPort rfl rfl rfl rfl rfl (Nat.le_of_ble_eq_true rfl) dX0_findWay_140 (fun H locs hP hD hS => ?_)
                  have hP : va_P D vwCl (xw ad tt R w c k d n (nI j) q1) H := hP
                  have hD : va_D A (xw ad tt R w c k d n (nI j) q1) := hD
                  refine lv_aload_n hx hb dX0_findWay_143 rfl (lv_at hl 4 rfl) ?_
                  refine lv_iload hx hb dX0_findWay_144 (lv_at hl 1 rfl) ?_
                  refine x0_put (v := .int (nI b)) S0 hin hK hP hD hS 7 (by decide) f_wayRouter rfl rfl rfl rfl rfl (Nat.le_of_ble_eq_true rfl) dX0_findWay_146 (fun H locs hP hD hS => ?_)
                  have hP : va_P D vwCl (xw ad tt R w c k d n (nI j) (nI b)) H := hP
                  have hD : va_D A (xw ad tt R w c k d n (nI j) (nI b)) := hD
                  refine lv_iinc (v := nI (j + 1)) (lv' := [(5, .int (nI (j + 1))), (4, .int (nI (ww_c c r j + T0 b))), (7, .int (nI b)), (6, .int (nI (4 * r + j))), (0, .ref (ad 0)), (1, .int (nI r)), (2, .int ov), (3, .int (nI t))]) hx hb dX0_findWay_149 hl (k := 3) rfl (nI_1 j) (by decide) rfl (fun ls hl => ?_)
                  refine lv_goto (tgt := 45) hx hb dX0_findWay_152 (by decide) ?_
                  exact ih45 (j + 1) (ww_c c r j + T0 b) (nI j) (nI b) (by omega) (by omega) (fw_put hfw ⟨hrR, hj4, hbR, hbr, x, hx6, ex, hk0, by rw [← ex]; exact hbon⟩ (by omega) hle (fun b' hE hk => hbmin b' (no_E hx6 ex hE).1 (no_E hx6 ex hE).2.1 (no_E hx6 ex hE).2.2 hk)) (by omega) H locs ls hP hD hS (lv_sub hl [0, 1, 4, 5, 6, 7] rfl)
              · exact absurd ⟨b, hbR, rfl⟩ h_r
          · refine lv_if_eq (tgt := 88) hx hb dX0_findWay_70 (by decide) (fun c_12 => ?_) (fun c_12 => absurd c_12 (by decide))
            have hnu := h_u
            refine lv_iconst (v := (-1)) hx hb dX0_findWay_88 (by decide) ?_
            refine lv_istore (lv' := [(7, .int (-1)), (6, .int (nI (4 * r + j))), (5, .int (nI j)), (4, .int (nI lt)), (0, .ref (ad 0)), (1, .int (nI r)), (2, .int ov), (3, .int (nI t))]) hx hb dX0_findWay_89 hl (by decide) rfl (fun ls hl => ?_)
            refine lv_aload_n hx hb dX0_findWay_91 rfl (lv_at hl 4 rfl) ?_
            refine lv_iload hx hb dX0_findWay_92 (lv_at hl 0 rfl) ?_
            refine xs_Vi (wr := []) (q0 := 0) (ci := 0) (nA := 1) (As := [.int (-1)]) (rest := []) S0 (k_X0_isRouter l D ad tt R w c k d n p1 q1 (-1) hR) gX0_findWay_X0_isRouter rfl ⟨rfl, rfl⟩ (by decide +kernel) rfl ⟨Nat.le_of_ble_eq_true rfl, Nat.le_of_ble_eq_true rfl⟩ ⟨Nat.le_of_ble_eq_true rfl, Nat.le_of_ble_eq_true rfl⟩ hK hP hD hS hA [0, 1, 2, 3, 4, 5] [] rfl rfl (by decide) (by decide) (by decide) rfl rfl rfl hl.1 rfl (Nat.le_of_ble_eq_true rfl) dX0_findWay_94 (fun r_13 u H locs hw hP hD hS => ?_)
            have hP : va_P D vwCl (xw ad tt R w c k d n p1 q1) H := hP
            have hD : va_D A (xw ad tt R w c k d n p1 q1) := hD
            rcases hw with ⟨rfl, h_r⟩ | ⟨rfl, h_r⟩
            · exact absurd h_r (ix_nm (by omega))
            · refine lv_if_eq (tgt := 149) hx hb dX0_findWay_97 (by decide) (fun c_14 => ?_) (fun c_14 => absurd c_14 (by decide))
              refine lv_iinc (v := nI (j + 1)) (lv' := [(5, .int (nI (j + 1))), (7, .int (-1)), (6, .int (nI (4 * r + j))), (4, .int (nI lt)), (0, .ref (ad 0)), (1, .int (nI r)), (2, .int ov), (3, .int (nI t))]) hx hb dX0_findWay_149 hl (k := 2) rfl (nI_1 j) (by decide) rfl (fun ls hl => ?_)
              refine lv_goto (tgt := 45) hx hb dX0_findWay_152 (by decide) ?_
              exact ih45 (j + 1) lt p1 q1 (by omega) hlK (fw_skip hfw (fun b' hE => (no_notup hnu hE).elim) (fun _ b' hE => (no_notup hnu hE).elim)) (by omega) H locs ls hP hD hS (lv_sub hl [0, 3, 4, 5, 6, 7] rfl)
    exact lp45 _ 0 1000000 (-1) (-1) (by omega) (by omega) fw_0 (Nat.lt_succ_self _) H locs ls hP hD hS (lv_sub hl [0, 1, 2, 3, 4, 5] rfl)
  · have htg : ww_tg w k ov t r := (dm_zero (ww_gr hok) hT0 (by omega) hrR).mp ((nI_eq (b := 0) (by omega) (by omega)).mp c_1)
    refine lv_aload_n hx hb dX0_findWay_19 rfl (lv_at hl 0 rfl) ?_
    refine lv_iload_n hx hb dX0_findWay_20 rfl (lv_at hl 2 rfl) ?_
    refine lv_if_eq (tgt := 33) hx hb dX0_findWay_21 (by decide) (fun c_15 => ?_) (fun c_15 => ?_)
    · have hov := c_15
      refine lv_iconst (v := (-1)) hx hb dX0_findWay_33 (by decide) ?_
      refine x0_put (v := .int (-1)) S0 hin hK hP hD hS 6 (by decide) f_wayPort rfl rfl rfl rfl rfl (Nat.le_of_ble_eq_true rfl) dX0_findWay_34 (fun H locs hP hD hS => ?_)
      have hP : va_P D vwCl (xw ad tt R w c k d n (-1) (-1)) H := hP
      have hD : va_D A (xw ad tt R w c k d n (-1) (-1)) := hD
      exact xr_v hx hb hr hlocks ((-1), (-1)) ⟨fun _ => ⟨rfl, fun _ => rfl, fun h => absurd hov h⟩, fun h => absurd htg h⟩ hP hK hD hS dX0_findWay_37
    · have hov := c_15
      refine lv_aload_n hx hb dX0_findWay_24 rfl (lv_at hl 0 rfl) ?_
      refine lv_iload_n hx hb dX0_findWay_25 rfl (lv_at hl 1 rfl) ?_
      refine lv_iload_n hx hb dX0_findWay_26 rfl (lv_at hl 3 rfl) ?_
      refine xs_Vi (wr := []) (q0 := 0) (ci := 0) (nA := 2) (As := [.int (nI r), .int (nI t)]) (rest := [.ref (ad 0)]) S0 (k_X0_portOn l D ad tt R w c k d n (-1) (-1) r (nI t) (by omega)) gX0_findWay_X0_portOn rfl ⟨rfl, rfl⟩ (by decide +kernel) rfl ⟨Nat.le_of_ble_eq_true rfl, Nat.le_of_ble_eq_true rfl⟩ ⟨Nat.le_of_ble_eq_true rfl, Nat.le_of_ble_eq_true rfl⟩ hK hP hD hS hA [0, 1, 2, 3, 4, 5] [] rfl rfl (by decide) (by decide) (by decide) rfl rfl rfl hl.1 rfl (Nat.le_of_ble_eq_true rfl) dX0_findWay_27 (fun r_16 u H locs hw hP hD hS => ?_)
      have hP : va_P D vwCl (xw ad tt R w c k d n (-1) (-1)) H := hP
      have hD : va_D A (xw ad tt R w c k d n (-1) (-1)) := hD
      have h_po := hw
      refine lv_goto (tgt := 34) hx hb dX0_findWay_30 (by decide) ?_
      refine x0_put (v := .int r_16) S0 hin hK hP hD hS 6 (by decide) f_wayPort rfl rfl rfl rfl rfl (Nat.le_of_ble_eq_true rfl) dX0_findWay_34 (fun H locs hP hD hS => ?_)
      have hP : va_P D vwCl (xw ad tt R w c k d n r_16 (-1)) H := hP
      have hD : va_D A (xw ad tt R w c k d n r_16 (-1)) := hD
      exact xr_v hx hb hr hlocks (r_16, (-1)) ⟨fun _ => ⟨rfl, fun h => absurd h hov, fun _ => h_po⟩, fun h => absurd htg h⟩ hP hK hD hS dX0_findWay_37
end
section
/-- the distances: 1000000 stands for none -/
noncomputable def ww_T (R : Nat) (w c k : Nat → Int32) (ov : Int32) (t : Nat) : Nat → Nat := Classical.epsilon (fun D => dm_ok R (ww_tg w k ov t) (ww_E R w k) (ww_c c) 1000000 D)
theorem ww_T_ok {R : Nat} {w c : Nat → Int32} (hok : ww_ok R w c) (k : Nat → Int32) (ov : Int32) (t : Nat) : dm_ok R (ww_tg w k ov t) (ww_E R w k) (ww_c c) 1000000 (ww_T R w c k ov t) := Classical.epsilon_spec (dm_ex (ww_gr hok) 1000000)
/-- a question that is asked of routers and aims that there are -/
def asks (R : Nat) (x ov z : Int32) (r t : Nat) : Prop := r < R ∧ x = nI r ∧ z = nI t ∧ (ov ≠ 0 → t < 16) ∧ (ov = 0 → t < R)
def come (R : Nat) (w c k : Nat → Int32) (x ov z : Int32) (r t : Nat) : Prop := asks R x ov z r t ∧ ww_T R w c k ov t r < 1000000
section
variable {R : Nat} {w c k : Nat → Int32} {x ov z v v' : Int32} {r t r' t' : Nat}
theorem asks_t (hR : R ≤ 10) (h : asks R x ov z r t) : t < 16 := by
  by_cases h0 : ov = 0
  · have := h.2.2.2.2 h0
    omega
  · exact h.2.2.2.1 h0
theorem asks_one (hR : R ≤ 10) (h : asks R x ov z r t) (h' : asks R x ov z r' t') : r = r' ∧ t = t' := by
  have h1 := asks_t hR h
  have h2 := asks_t hR h'
  have h3 := h.1
  have h4 := h'.1
  exact ⟨(nI_eq (by omega) (by omega)).mp (h.2.1.symm.trans h'.2.1), (nI_eq (by omega) (by omega)).mp (h.2.2.1.symm.trans h'.2.2.1)⟩
theorem come_up (hok : ww_ok R w c) (h : come R w c k x ov z r t) : ov ≠ 0 → k t = 0 := by
  intro h0
  apply Classical.byContradiction
  intro hk
  exact dm_none (ww_gr hok) (ww_T_ok hok k ov t) (fun a _ htg => hk (htg.1 h0).1) _ r h.1.1 rfl h.2
theorem come_aim (hok : ww_ok R w c) (h : ∃ r t, come R w c k x ov z r t) : aim R k ov z := by
  obtain ⟨r, t, h⟩ := h
  exact ⟨fun h0 => ⟨t, h.1.2.2.2.1 h0, h.1.2.2.1, come_up hok h h0⟩, fun h0 => ⟨t, h.1.2.2.2.2 h0, h.1.2.2.1⟩⟩
theorem come_r (h : ∃ r t, come R w c k x ov z r t) : ix x R := by
  obtain ⟨r, t, h⟩ := h
  exact ⟨r, h.1.1, h.1.2.1⟩
theorem aim_t (h : aim R k ov z) : ∃ t, z = nI t ∧ (ov ≠ 0 → t < 16 ∧ k t = 0) ∧ (ov = 0 → t < R) := by
  by_cases h0 : ov = 0
  · obtain ⟨t, h1, h2⟩ := h.2 h0
    exact ⟨t, h2, fun h => absurd h0 h, fun _ => h1⟩
  · obtain ⟨t, h1, h2, h3⟩ := h.1 h0
    exact ⟨t, h2, fun _ => ⟨h1, h3⟩, fun h => absurd h h0⟩
theorem come_no (hR : R ≤ 10) (h : asks R x ov z r t) (hK : 1000000 ≤ ww_T R w c k ov t r) : ¬ ∃ r t, come R w c k x ov z r t := by
  rintro ⟨r', t', h1, h2⟩
  obtain ⟨rfl, rfl⟩ := asks_one hR h h1
  omega
theorem come_one (hR : R ≤ 10) (h : come R w c k x ov z r t) (h' : come R w c k x ov z r' t') : r = r' ∧ t = t' := asks_one hR h.1 h'.1
/-- the answers of far, port and next -/
def fa_ok (R : Nat) (w c k : Nat → Int32) (x ov z v : Int32) : Prop := (∃ r t, come R w c k x ov z r t ∧ v = nI (ww_T R w c k ov t r)) ∨ (v = -1 ∧ ¬ ∃ r t, come R w c k x ov z r t)
def po_ok (R : Nat) (w c k : Nat → Int32) (x ov z v : Int32) : Prop := (∃ r t, come R w c k x ov z r t ∧ ∃ q1, fw_ok R w c k ov t 1000000 (ww_T R w c k ov t) r v q1) ∨ (v = -1 ∧ ¬ ∃ r t, come R w c k x ov z r t)
def nx_ok (R : Nat) (w c k : Nat → Int32) (x ov z v : Int32) : Prop := (∃ r t, come R w c k x ov z r t ∧ ∃ p1, fw_ok R w c k ov t 1000000 (ww_T R w c k ov t) r p1 v) ∨ (v = -1 ∧ ¬ ∃ r t, come R w c k x ov z r t)
theorem fa_one (hR : R ≤ 10) (h : fa_ok R w c k x ov z v) (h' : fa_ok R w c k x ov z v') : v = v' := by
  rcases h with ⟨r, t, a1, a2⟩ | ⟨a1, a2⟩ <;> rcases h' with ⟨r', t', b1, b2⟩ | ⟨b1, b2⟩
  · obtain ⟨rfl, rfl⟩ := come_one hR a1 b1
    rw [a2, b2]
  · exact absurd ⟨r, t, a1⟩ b2
  · exact absurd ⟨r', t', b1⟩ a2
  · rw [a1, b1]
theorem fw_one {K : Nat} {T : Nat → Nat} {p1 q1 p1' q1' : Int32} (h : fw_ok R w c k ov t K T r p1 q1) (h' : fw_ok R w c k ov t K T r p1' q1') : p1 = p1' ∧ q1 = q1' := by
  by_cases htg : ww_tg w k ov t r
  · obtain ⟨a1, a2, a3⟩ := h.1 htg
    obtain ⟨b1, b2, b3⟩ := h'.1 htg
    refine ⟨?_, a1.trans b1.symm⟩
    by_cases h0 : ov = 0
    · rw [a2 h0, b2 h0]
    · exact ww_po_one (a3 h0) (b3 h0)
  · obtain ⟨p, b, a1, a2, a3⟩ := h.2 htg
    obtain ⟨p', b', b1, b2, b3⟩ := h'.2 htg
    obtain ⟨rfl, rfl⟩ := dm_way_one a3 b3
    exact ⟨a1.trans b1.symm, a2.trans b2.symm⟩
theorem po_one (hR : R ≤ 10) (h : po_ok R w c k x ov z v) (h' : po_ok R w c k x ov z v') : v = v' := by
  rcases h with ⟨r, t, a1, q1, a2⟩ | ⟨a1, a2⟩ <;> rcases h' with ⟨r', t', b1, q1', b2⟩ | ⟨b1, b2⟩
  · obtain ⟨rfl, rfl⟩ := come_one hR a1 b1
    exact (fw_one a2 b2).1
  · exact absurd ⟨r, t, a1⟩ b2
  · exact absurd ⟨r', t', b1⟩ a2
  · rw [a1, b1]
theorem nx_one (hR : R ≤ 10) (h : nx_ok R w c k x ov z v) (h' : nx_ok R w c k x ov z v') : v = v' := by
  rcases h with ⟨r, t, a1, q1, a2⟩ | ⟨a1, a2⟩ <;> rcases h' with ⟨r', t', b1, q1', b2⟩ | ⟨b1, b2⟩
  · obtain ⟨rfl, rfl⟩ := come_one hR a1 b1
    exact (fw_one a2 b2).2
  · exact absurd ⟨r, t, a1⟩ b2
  · exact absurd ⟨r', t', b1⟩ a2
  · rw [a1, b1]
/-- the way leads on, and nearer -/
theorem fw_r1 (hok : ww_ok R w c) {T : Nat → Nat} {a : Nat} {p1 q1 : Int32} (hT : dm_ok R (ww_tg w k ov t) (ww_E R w k) (ww_c c) 1000000 T) (h : fw_ok R w c k ov t 1000000 T a p1 q1) (haR : a < R) (haK : T a < 1000000) (hi : ix q1 R) : ∃ b, q1 = nI b ∧ b < R ∧ T b < T a ∧ ¬ ww_tg w k ov t a ∧ ∃ p, dm_way (ww_E R w k) (ww_c c) 1000000 T a p b := by
  by_cases htg : ww_tg w k ov t a
  · have := (h.1 htg).1
    rw [this] at hi
    exact absurd hi (ix_nm (by have := hok.2.1; omega))
  · obtain ⟨p, b, a1, a2, a3⟩ := h.2 htg
    obtain ⟨hb, hl⟩ := dm_way_less (ww_gr hok) hT haR htg haK a3
    exact ⟨b, a2, hb, hl, htg, p, a3⟩
theorem fw_r0 {T : Nat → Nat} {K a : Nat} {p1 q1 : Int32} (h : fw_ok R w c k ov t K T a p1 q1) (hi : ¬ ix q1 R) : ww_tg w k ov t a := by
  apply Classical.byContradiction
  intro htg
  obtain ⟨p, b, a1, a2, a3⟩ := h.2 htg
  exact hi ⟨b, a3.1.2.2.1, a2⟩
end
/-- the walk: after n steps from r it is at a -/
def wks (tg : Nat → Prop) (E : Nat → Nat → Nat → Prop) (cs : Nat → Nat → Nat) (K : Nat) (T : Nat → Nat) : Nat → Nat → Nat → Prop
  | 0, r, a => a = r
  | n + 1, r, a => ∃ b, wks tg E cs K T n r b ∧ ¬ tg b ∧ ∃ p, dm_way E cs K T b p a
section
variable {R : Nat} {tg : Nat → Prop} {E : Nat → Nat → Nat → Prop} {cs : Nat → Nat → Nat} {K : Nat} {T : Nat → Nat}
theorem wks_one : ∀ {n r a a' : Nat}, wks tg E cs K T n r a → wks tg E cs K T n r a' → a = a' := by
  intro n
  induction n with
  | zero => intro r a a' h h'; exact h.trans h'.symm
  | succ n ih =>
    intro r a a' h h'
    obtain ⟨b, h1, h2, p, h3⟩ := h
    obtain ⟨b', g1, g2, p', g3⟩ := h'
    have := ih h1 g1
    subst this
    exact (dm_way_one h3 g3).2
theorem wks_stop {r m : Nat} (h : ¬ ∃ a, wks tg E cs K T m r a) : ∀ n, ¬ ∃ a, wks tg E cs K T (m + n) r a := by
  intro n
  induction n with
  | zero => exact h
  | succ n ih =>
    rintro ⟨a, b, h1, -⟩
    exact ih ⟨b, h1⟩
theorem wks_end {r m a : Nat} (h : wks tg E cs K T m r a) (ht : tg a) : ¬ ∃ b, wks tg E cs K T (m + 1) r b := by
  rintro ⟨b, a', h1, h2, -⟩
  have := wks_one h h1
  subst this
  exact h2 ht
theorem wks_rk (hg : dm_gr R E cs) (hD : dm_ok R tg E cs K T) {r : Nat} (hr : r < R) (hk : T r < K) : ∀ n a, wks tg E cs K T n r a → a < R ∧ T a < K ∧ n + dm_rk T R (T a) ≤ dm_rk T R (T r) := by
  intro n
  induction n with
  | zero =>
    intro a h
    have h' : a = r := h
    subst h'
    exact ⟨hr, hk, by omega⟩
  | succ n ih =>
    intro a h
    obtain ⟨b, h1, h2, p, h3⟩ := h
    obtain ⟨g1, g2, g3⟩ := ih b h1
    obtain ⟨k1, k2⟩ := dm_way_less hg hD g1 h2 g2 h3
    have := dm_rk_lt (D := T) (R := R) k1 k2
    exact ⟨k1, by omega, by omega⟩
theorem wks_R (hg : dm_gr R E cs) (hD : dm_ok R tg E cs K T) {r n : Nat} (hr : r < R) (hk : T r < K) (hn : R ≤ n) : ¬ ∃ a, wks tg E cs K T n r a := by
  rintro ⟨a, h⟩
  have h1 := (wks_rk hg hD hr hk n a h).2.2
  have h2 := dm_rk_R (D := T) hr
  omega
end
def wk_ok (R : Nat) (w c k : Nat → Int32) (x ov z kk v : Int32) : Prop :=
  (∃ r t m, come R w c k x ov z r t ∧ m < 2 ^ 31 ∧ kk = nI m ∧ ((∃ a, v = nI a ∧ wks (ww_tg w k ov t) (ww_E R w k) (ww_c c) 1000000 (ww_T R w c k ov t) m r a) ∨ (v = -1 ∧ ¬ ∃ a, wks (ww_tg w k ov t) (ww_E R w k) (ww_c c) 1000000 (ww_T R w c k ov t) m r a))) ∨ (v = -1 ∧ (kk < 0 ∨ ¬ ∃ r t, come R w c k x ov z r t))
section
variable {R : Nat} {w c k : Nat → Int32} {x ov z kk v v' : Int32}
theorem wk_one (hR : R ≤ 10) (h : wk_ok R w c k x ov z kk v) (h' : wk_ok R w c k x ov z kk v') : v = v' := by
  rcases h with ⟨r, t, m, a1, a2, a3, a4⟩ | ⟨a1, a2⟩ <;> rcases h' with ⟨r', t', m', b1, b2, b3, b4⟩ | ⟨b1, b2⟩
  · obtain ⟨rfl, rfl⟩ := come_one hR a1 b1
    have := (nI_eq a2 b2).mp (a3.symm.trans b3)
    subst this
    rcases a4 with ⟨a, e1, e2⟩ | ⟨e1, e2⟩ <;> rcases b4 with ⟨a', f1, f2⟩ | ⟨f1, f2⟩
    · rw [e1, f1, wks_one e2 f2]
    · exact absurd ⟨a, e2⟩ f2
    · exact absurd ⟨a', f2⟩ e2
    · rw [e1, f1]
  · rcases b2 with b2 | b2
    · rw [a3] at b2
      exact absurd b2 (nI_pos a2)
    · exact absurd ⟨r, t, a1⟩ b2
  · rcases a2 with a2 | a2
    · rw [b3] at a2
      exact absurd a2 (nI_pos b2)
    · exact absurd ⟨r', t', b1⟩ a2
  · rw [a1, b1]
theorem wk_big (hok : ww_ok R w c) (h0 : ¬ kk < 0) (h : nI R ≤ kk) : wk_ok R w c k x ov z kk (-1) := by
  by_cases hc : ∃ r t, come R w c k x ov z r t
  · obtain ⟨r, t, hc⟩ := hc
    obtain ⟨m, hm, em⟩ := nI_of h0
    refine Or.inl ⟨r, t, m, hc, hm, em, Or.inr ⟨rfl, ?_⟩⟩
    rw [em] at h
    have hR := hok.2.1
    exact wks_R (ww_gr hok) (ww_T_ok hok k ov t) hc.1.1 hc.2 ((nI_leI (by omega) hm).mp h)
  · exact Or.inr ⟨rfl, Or.inr hc⟩
end
theorem cnt_t {P : Nat → Bool} {a n : Nat} (h : n = dm_cnt P a) (hp : P a = true) : n + 1 = dm_cnt P (a + 1) := by
  show n + 1 = dm_cnt P a + (if P a = true then 1 else 0)
  rw [if_pos hp, h]
theorem cnt_f {P : Nat → Bool} {a n : Nat} (h : n = dm_cnt P a) (hp : ¬ P a = true) : n = dm_cnt P (a + 1) := by
  show n = dm_cnt P a + (if P a = true then 1 else 0)
  rw [if_neg hp, h]
  rfl
def mx1 (T : Nat → Nat) (K : Nat) : Nat → Nat → Nat
  | 0, g => g
  | n + 1, g => if T n < K ∧ mx1 T K n g < T n then T n else mx1 T K n g
def mx2 (TT : Nat → Nat → Nat) (K R : Nat) : Nat → Nat
  | 0 => 0
  | n + 1 => mx1 (TT n) K R (mx2 TT K R n)
theorem mx1_le {T : Nat → Nat} {K g : Nat} (hg : g ≤ K) : ∀ n, mx1 T K n g ≤ K := by
  intro n
  induction n with
  | zero => exact hg
  | succ n ih =>
    show (if T n < K ∧ mx1 T K n g < T n then T n else mx1 T K n g) ≤ K
    split
    · omega
    · exact ih
theorem mx2_le (TT : Nat → Nat → Nat) (K R : Nat) : ∀ n, mx2 TT K R n ≤ K := by
  intro n
  induction n with
  | zero => exact Nat.zero_le _
  | succ n ih => exact mx1_le ih R
theorem mx1_t {T : Nat → Nat} {K n g h : Nat} (e : h = mx1 T K n g) (h1 : T n < K) (h2 : h < T n) : T n = mx1 T K (n + 1) g := by
  show T n = if T n < K ∧ mx1 T K n g < T n then T n else mx1 T K n g
  rw [if_pos ⟨h1, by omega⟩]
theorem mx1_f {T : Nat → Nat} {K n g h : Nat} (e : h = mx1 T K n g) (hn : ¬ (T n < K ∧ h < T n)) : h = mx1 T K (n + 1) g := by
  show h = if T n < K ∧ mx1 T K n g < T n then T n else mx1 T K n g
  rw [if_neg (by rw [← e]; exact hn), e]
def rc_ok (R : Nat) (w c k : Nat → Int32) (x v : Int32) : Prop := (∃ r, r < R ∧ x = nI r ∧ v = nI (dm_cnt (fun a => decide (ww_T R w c k 0 r a < 1000000)) R)) ∨ (v = -1 ∧ ¬ ix x R)
noncomputable def ww_mx (R : Nat) (w c k : Nat → Int32) : Nat := mx2 (fun t => ww_T R w c k 0 t) 1000000 R R
def ct_ok (R : Nat) (w c k : Nat → Int32) (x v : Int32) : Prop := (x = 0 ∧ v = nI R) ∨ (x = 1 ∧ v = nI (dm_cnt (fun a => decide (w a ≠ -1)) 40)) ∨ (x = 2 ∧ v = nI (dm_cnt (fun a => decide (k a ≠ 0)) 16)) ∨ (x = 3 ∧ v = nI (ww_mx R w c k)) ∨ (x ≠ 0 ∧ x ≠ 1 ∧ x ≠ 2 ∧ x ≠ 3 ∧ v = -1)
theorem rc_one {R : Nat} {w c k : Nat → Int32} {x v v' : Int32} (hR : R ≤ 10) (h : rc_ok R w c k x v) (h' : rc_ok R w c k x v') : v = v' := by
  rcases h with ⟨r, a1, a2, a3⟩ | ⟨a1, a2⟩ <;> rcases h' with ⟨r', b1, b2, b3⟩ | ⟨b1, b2⟩
  · have := (nI_eq (by omega) (by omega)).mp (a2.symm.trans b2)
    subst this
    rw [a3, b3]
  · exact absurd ⟨r, a1, a2⟩ b2
  · exact absurd ⟨r', b1, b2⟩ a2
  · rw [a1, b1]
theorem ct_one {R : Nat} {w c k : Nat → Int32} {x v v' : Int32} (h : ct_ok R w c k x v) (h' : ct_ok R w c k x v') : v = v' := by
  rcases h with ⟨a1, a2⟩ | ⟨a1, a2⟩ | ⟨a1, a2⟩ | ⟨a1, a2⟩ | ⟨a1, a2, a3, a4, a5⟩ <;> rcases h' with ⟨b1, b2⟩ | ⟨b1, b2⟩ | ⟨b1, b2⟩ | ⟨b1, b2⟩ | ⟨b1, b2, b3, b4, b5⟩ <;> first | exact absurd (a1.symm.trans b1) (by decide) | exact a2.trans b2.symm | exact a5.trans b5.symm | exact absurd a1 b1 | exact absurd a1 b2 | exact absurd a1 b3 | exact absurd a1 b4 | exact absurd b1 a1 | exact absurd b1 a2 | exact absurd b1 a3 | exact absurd b1 a4
theorem tb4 {x : Int32} (h0 : ¬ x = 0) (h1 : ¬ x = 1) (h2 : ¬ x = 2) (h3 : ¬ x = 3) : x.toInt < 0 ∨ 3 < x.toInt := by
  have g : ∀ y : Int32, ¬ x = y → ¬ x.toInt = y.toInt := fun y h e => h (Int32.toInt_inj.mp e)
  have g0 := g 0 h0
  have g1 := g 1 h1
  have g2 := g 2 h2
  have g3 := g 3 h3
  rw [show (0 : Int32).toInt = 0 from rfl] at g0
  rw [show (1 : Int32).toInt = 1 from rfl] at g1
  rw [show (2 : Int32).toInt = 2 from rfl] at g2
  rw [show (3 : Int32).toInt = 3 from rfl] at g3
  omega
end
section
set_option maxHeartbeats 4000000 in
set_option maxRecDepth 100000 in
theorem k_X0_canCome (l : Launch) (D : va_G) (ad : Nat → Nat) (tt : Nat → ClassId) (R : Nat) (w c k d n : Nat → Int32) (wp wr : Int32) (hok : ww_ok R w c) (x ov z : Int32) : xMi l yX0_canCome wsX0_canCome { frames := 4, cells := 0, slots := 0, locals := 90 } D (tyX tt) [.ref (ad 0), .int x, .int ov, .int z] (xw ad tt R w c k d n wp wr) (fun u : (Nat → Int32) × (Nat → Int32) => xw ad tt R w c k u.1 u.2 wp wr) (fun v u => (v = 1 ∧ ∃ r t, come R w c k x ov z r t ∧ ∀ a, a < R → u.1 a = nI (ww_T R w c k ov t a)) ∨ (v = 0 ∧ ¬ ∃ r t, come R w c k x ov z r t)) := by
  refine xe_i (cc := cX0_canCome) (maxL := 4) (ret := (some .boolean)) (lvl := [(0, .ref (ad 0)), (1, .int x), (2, .int ov), (3, .int z)]) (by decide) rfl (Nat.le_of_ble_eq_true rfl) rfl ?_
  intro p e s m below meth cd A ls hx hb hr hlocks hml hown hts hA hP hK hD hS hl
  have hin : ∀ w ∈ wsX00, w ∈ wsX0_canCome := fun _ h => List.mem_cons_of_mem _ (List.mem_append_right _ h)
  have S0 : CallFix p m cd cX0_canCome 4 s (([.ref (ad 0), .int x, .int ov, .int z] : List Value).toArray) wsX0_canCome RX0 := ⟨hx, hb, hml, hown, hts⟩
  obtain ⟨H, hH⟩ : ∃ H, H = s.heap := ⟨_, rfl⟩
  obtain ⟨locs, hlocs⟩ : ∃ q : List Loc, q = [] := ⟨_, rfl⟩
  have hP : va_P D vwCl (xw ad tt R w c k d n wp wr) H := by rw [hH]; exact hP
  have hS : va_S A s.heap H locs := by rw [hH, hlocs]; exact hS
  suffices hgo : W p l e (headSpec wsX0_canCome ({ frames := 4, cells := 0, slots := 0, locals := 90 } : Room)).room s m (([.ref (ad 0), .int x, .int ov, .int z] : List Value).toArray) below meth cd H locs 0 0 (MQ below (va_Qi (fun v u => (v = 1 ∧ ∃ r t, come R w c k x ov z r t ∧ ∀ a, a < R → u.1 a = nI (ww_T R w c k ov t a)) ∨ (v = 0 ∧ ¬ ∃ r t, come R w c k x ov z r t)) (xB D (tyX tt) A (fun u : (Nat → Int32) × (Nat → Int32) => xw ad tt R w c k u.1 u.2 wp wr)) A) ([.ref (ad 0), .int x, .int ov, .int z] : List Value).toArray s 0 0 A) (F0 m 0 ls []) by rw [hH, hlocs] at hgo; exact hgo
  clear hH hlocs
  have f_distance := hts (.fieldLink RX0 33 "WireWays" "distance" "[I") (by decide +kernel)
  have hR : R ≤ 10 := hok.2.1
  refine lv_aload_n hx hb dX0_canCome_0 rfl (lv_at hl 0 rfl) ?_
  refine lv_iload_n hx hb dX0_canCome_1 rfl (lv_at hl 1 rfl) ?_
  refine xs_Vi (wr := []) (q0 := 0) (ci := 0) (nA := 1) (As := [.int x]) (rest := []) S0 (k_X0_isRouter l D ad tt R w c k d n wp wr x hR) gX0_canCome_X0_isRouter rfl ⟨rfl, rfl⟩ (by decide +kernel) rfl ⟨Nat.le_of_ble_eq_true rfl, Nat.le_of_ble_eq_true rfl⟩ ⟨Nat.le_of_ble_eq_true rfl, Nat.le_of_ble_eq_true rfl⟩ hK hP hD hS hA [0, 1, 2, 3, 4, 5] [] rfl rfl (by decide) (by decide) (by decide) rfl rfl rfl hl.1 rfl (Nat.le_of_ble_eq_true rfl) dX0_canCome_2 (fun r_1 u H locs hw hP hD hS => ?_)
  have hP : va_P D vwCl (xw ad tt R w c k d n wp wr) H := hP
  have hD : va_D A (xw ad tt R w c k d n wp wr) := hD
  rcases hw with ⟨rfl, h_r⟩ | ⟨rfl, h_r⟩
  · refine lv_if_eq (tgt := 17) hx hb dX0_canCome_5 (by decide) (fun c_2 => absurd c_2 (by decide)) (fun c_2 => ?_)
    refine lv_aload_n hx hb dX0_canCome_8 rfl (lv_at hl 0 rfl) ?_
    refine lv_iload_n hx hb dX0_canCome_9 rfl (lv_at hl 2 rfl) ?_
    refine lv_iload_n hx hb dX0_canCome_10 rfl (lv_at hl 3 rfl) ?_
    refine xs_Vi (wr := []) (q0 := 0) (ci := 0) (nA := 2) (As := [.int ov, .int z]) (rest := []) S0 (k_X0_isAim l D ad tt R w c k d n wp wr ov z hR) gX0_canCome_X0_isAim rfl ⟨rfl, rfl⟩ (by decide +kernel) rfl ⟨Nat.le_of_ble_eq_true rfl, Nat.le_of_ble_eq_true rfl⟩ ⟨Nat.le_of_ble_eq_true rfl, Nat.le_of_ble_eq_true rfl⟩ hK hP hD hS hA [0, 1, 2, 3, 4, 5] [] rfl rfl (by decide) (by decide) (by decide) rfl rfl rfl hl.1 rfl (Nat.le_of_ble_eq_true rfl) dX0_canCome_11 (fun r_3 u H locs hw hP hD hS => ?_)
    have hP : va_P D vwCl (xw ad tt R w c k d n wp wr) H := hP
    have hD : va_D A (xw ad tt R w c k d n wp wr) := hD
    rcases hw with ⟨rfl, h_a⟩ | ⟨rfl, h_a⟩
    · refine lv_if_ne (tgt := 19) hx hb dX0_canCome_14 (by decide) (fun c_4 => ?_) (fun c_4 => absurd c_4 (by decide))
      obtain ⟨r, hrR, rfl⟩ := h_r
      obtain ⟨t, rfl, ht⟩ := aim_t h_a
      have hTle := (ww_T_ok hok k ov t).1 r hrR
      have hask : asks R (nI r) ov (nI t) r t := ⟨hrR, rfl, rfl, fun h => (ht.1 h).1, ht.2⟩
      refine lv_aload_n hx hb dX0_canCome_19 rfl (lv_at hl 0 rfl) ?_
      refine lv_iload_n hx hb dX0_canCome_20 rfl (lv_at hl 2 rfl) ?_
      refine lv_iload_n hx hb dX0_canCome_21 rfl (lv_at hl 3 rfl) ?_
      refine xs_Vv (wr := []) (q0 := 0) (ci := 0) (nA := 2) (As := [.int ov, .int (nI t)]) (rest := []) S0 (k_X0_measure l D ad tt R w c k d n wp wr hok ov t ht (ww_T R w c k ov t) (ww_T_ok hok k ov t)) gX0_canCome_X0_measure rfl ⟨rfl, rfl⟩ (by decide +kernel) rfl ⟨Nat.le_of_ble_eq_true rfl, Nat.le_of_ble_eq_true rfl⟩ ⟨Nat.le_of_ble_eq_true rfl, Nat.le_of_ble_eq_true rfl⟩ hK hP hD hS hA [0, 1, 2, 3, 4, 5] [] rfl rfl (by decide) (by decide) (by decide) rfl rfl rfl hl.1 rfl (Nat.le_of_ble_eq_true rfl) dX0_canCome_22 (fun u1 H locs hw hP hD hS => ?_)
      have hP : va_P D vwCl (xw ad tt R w c k u1.1 u1.2 wp wr) H := hP
      have hD : va_D A (xw ad tt R w c k u1.1 u1.2 wp wr) := hD
      have hrow := hw
      refine lv_aload_n hx hb dX0_canCome_25 rfl (lv_at hl 0 rfl) ?_
      refine x0_get (v := .ref (ad 4)) S0 hin hK hP 4 (by decide) f_distance rfl rfl dX0_canCome_26 ?_
      refine lv_iload_n hx hb dX0_canCome_29 rfl (lv_at hl 1 rfl) ?_
      refine va_iald hx hb hK hP 4 3 rfl rfl (vp_in_nI (by omega) (by omega)) dX0_canCome_30 ?_
      refine xt_eq (z := u1.1 r) (congrArg u1.1 (nI_clamp (by omega))) ?_
      refine xt_eq (z := nI (ww_T R w c k ov t r)) (hrow r hrR) ?_
      refine lv_ldc (v := 1000000) hx hb hown (hts (.constant RX0 83 1000000) (by decide +kernel)) dX0_canCome_31 ?_
      refine lv_icmp_ge (tgt := 40) hx hb dX0_canCome_33 (by decide) (fun c_6 => ?_) (fun c_6 => ?_)
      · have hge : 1000000 ≤ ww_T R w c k ov t r := (nI_leI (a := 1000000) (by omega) (by omega)).mp c_6
        refine lv_iconst (v := 0) hx hb dX0_canCome_40 (by decide) ?_
        exact xr_z hx hb hr hlocks rfl (u1.1, u1.2) (Or.inr ⟨rfl, fun h => by first | exact h_r (come_r h) | exact h_a (come_aim hok h) | exact come_no hR hask hge h⟩) hP hK hD hS dX0_canCome_41
      · have hge : ww_T R w c k ov t r < 1000000 := Nat.lt_of_not_le (fun h => c_6 (nI_le (a := 1000000) h (by omega)))
        refine lv_iconst (v := 1) hx hb dX0_canCome_36 (by decide) ?_
        refine lv_goto (tgt := 41) hx hb dX0_canCome_37 (by decide) ?_
        exact xr_z hx hb hr hlocks rfl (u1.1, u1.2) (Or.inl ⟨rfl, r, t, ⟨hask, hge⟩, hrow⟩) hP hK hD hS dX0_canCome_41
    · refine lv_if_ne (tgt := 19) hx hb dX0_canCome_14 (by decide) (fun c_7 => absurd c_7 (by decide)) (fun c_7 => ?_)
      refine lv_iconst (v := 0) hx hb dX0_canCome_17 (by decide) ?_
      exact xr_z hx hb hr hlocks rfl (d, n) (Or.inr ⟨rfl, fun h => by first | exact h_r (come_r h) | exact h_a (come_aim hok h) | exact come_no hR hask hge h⟩) hP hK hD hS dX0_canCome_18
  · refine lv_if_eq (tgt := 17) hx hb dX0_canCome_5 (by decide) (fun c_8 => ?_) (fun c_8 => absurd c_8 (by decide))
    refine lv_iconst (v := 0) hx hb dX0_canCome_17 (by decide) ?_
    exact xr_z hx hb hr hlocks rfl (d, n) (Or.inr ⟨rfl, fun h => by first | exact h_r (come_r h) | exact h_a (come_aim hok h) | exact come_no hR hask hge h⟩) hP hK hD hS dX0_canCome_18
set_option maxHeartbeats 4000000 in
set_option maxRecDepth 100000 in
theorem k_X0_far (l : Launch) (D : va_G) (ad : Nat → Nat) (tt : Nat → ClassId) (R : Nat) (w c k d n : Nat → Int32) (wp wr : Int32) (hok : ww_ok R w c) (x ov z : Int32) : xMi l yX0_far wsX0_far { frames := 5, cells := 0, slots := 0, locals := 113 } D (tyX tt) [.ref (ad 0), .int x, .int ov, .int z] (xw ad tt R w c k d n wp wr) (fun u : (Nat → Int32) × (Nat → Int32) => xw ad tt R w c k u.1 u.2 wp wr) (fun v _ => fa_ok R w c k x ov z v) := by
  refine xe_i (cc := cX0_far) (maxL := 4) (ret := (some .int)) (lvl := [(0, .ref (ad 0)), (1, .int x), (2, .int ov), (3, .int z)]) (by decide) rfl (Nat.le_of_ble_eq_true rfl) rfl ?_
  intro p e s m below meth cd A ls hx hb hr hlocks hml hown hts hA hP hK hD hS hl
  have hin : ∀ w ∈ wsX00, w ∈ wsX0_far := fun _ h => List.mem_cons_of_mem _ (List.mem_append_right _ h)
  have S0 : CallFix p m cd cX0_far 4 s (([.ref (ad 0), .int x, .int ov, .int z] : List Value).toArray) wsX0_far RX0 := ⟨hx, hb, hml, hown, hts⟩
  obtain ⟨H, hH⟩ : ∃ H, H = s.heap := ⟨_, rfl⟩
  obtain ⟨locs, hlocs⟩ : ∃ q : List Loc, q = [] := ⟨_, rfl⟩
  have hP : va_P D vwCl (xw ad tt R w c k d n wp wr) H := by rw [hH]; exact hP
  have hS : va_S A s.heap H locs := by rw [hH, hlocs]; exact hS
  suffices hgo : W p l e (headSpec wsX0_far ({ frames := 5, cells := 0, slots := 0, locals := 113 } : Room)).room s m (([.ref (ad 0), .int x, .int ov, .int z] : List Value).toArray) below meth cd H locs 0 0 (MQ below (va_Qi (fun v _ => fa_ok R w c k x ov z v) (xB D (tyX tt) A (fun u : (Nat → Int32) × (Nat → Int32) => xw ad tt R w c k u.1 u.2 wp wr)) A) ([.ref (ad 0), .int x, .int ov, .int z] : List Value).toArray s 0 0 A) (F0 m 0 ls []) by rw [hH, hlocs] at hgo; exact hgo
  clear hH hlocs
  have f_distance := hts (.fieldLink RX0 33 "WireWays" "distance" "[I") (by decide +kernel)
  have hR : R ≤ 10 := hok.2.1
  refine lv_aload_n hx hb dX0_far_0 rfl (lv_at hl 0 rfl) ?_
  refine lv_iload_n hx hb dX0_far_1 rfl (lv_at hl 1 rfl) ?_
  refine lv_iload_n hx hb dX0_far_2 rfl (lv_at hl 2 rfl) ?_
  refine lv_iload_n hx hb dX0_far_3 rfl (lv_at hl 3 rfl) ?_
  refine xs_Vi (wr := []) (q0 := 0) (ci := 0) (nA := 3) (As := [.int x, .int ov, .int z]) (rest := []) S0 (k_X0_canCome l D ad tt R w c k d n wp wr hok x ov z) gX0_far_X0_canCome rfl ⟨rfl, rfl⟩ (by decide +kernel) rfl ⟨Nat.le_of_ble_eq_true rfl, Nat.le_of_ble_eq_true rfl⟩ ⟨Nat.le_of_ble_eq_true rfl, Nat.le_of_ble_eq_true rfl⟩ hK hP hD hS hA [0, 1, 2, 3, 4, 5] [] rfl rfl (by decide) (by decide) (by decide) rfl rfl rfl hl.1 rfl (Nat.le_of_ble_eq_true rfl) dX0_far_4 (fun r_1 u1 H locs hw hP hD hS => ?_)
  have hP : va_P D vwCl (xw ad tt R w c k u1.1 u1.2 wp wr) H := hP
  have hD : va_D A (xw ad tt R w c k u1.1 u1.2 wp wr) := hD
  rcases hw with ⟨rfl, r, t, hcm, hrow⟩ | ⟨rfl, hno⟩
  · obtain ⟨⟨hrR, rfl, rfl, ht16, htR⟩, hTK⟩ := id hcm
    refine lv_if_eq (tgt := 19) hx hb dX0_far_7 (by decide) (fun c_2 => absurd c_2 (by decide)) (fun c_2 => ?_)
    refine lv_aload_n hx hb dX0_far_10 rfl (lv_at hl 0 rfl) ?_
    refine x0_get (v := .ref (ad 4)) S0 hin hK hP 4 (by decide) f_distance rfl rfl dX0_far_11 ?_
    refine lv_iload_n hx hb dX0_far_14 rfl (lv_at hl 1 rfl) ?_
    refine va_iald hx hb hK hP 4 3 rfl rfl (vp_in_nI (by omega) (by omega)) dX0_far_15 ?_
    refine xt_eq (z := u1.1 r) (congrArg u1.1 (nI_clamp (by omega))) ?_
    refine xt_eq (z := nI (ww_T R w c k ov t r)) (hrow r hrR) ?_
    refine lv_goto (tgt := 20) hx hb dX0_far_16 (by decide) ?_
    exact xr_i hx hb hr hlocks (u1.1, u1.2) (Or.inl ⟨r, t, hcm, rfl⟩) hP hK hD hS dX0_far_20
  · refine lv_if_eq (tgt := 19) hx hb dX0_far_7 (by decide) (fun c_3 => ?_) (fun c_3 => absurd c_3 (by decide))
    refine lv_iconst (v := (-1)) hx hb dX0_far_19 (by decide) ?_
    exact xr_i hx hb hr hlocks (u1.1, u1.2) (Or.inr ⟨rfl, hno⟩) hP hK hD hS dX0_far_20
set_option maxHeartbeats 4000000 in
set_option maxRecDepth 100000 in
theorem k_X0_port (l : Launch) (D : va_G) (ad : Nat → Nat) (tt : Nat → ClassId) (R : Nat) (w c k d n : Nat → Int32) (wp wr : Int32) (hok : ww_ok R w c) (x ov z : Int32) : xMi l yX0_port wsX0_port { frames := 5, cells := 0, slots := 0, locals := 113 } D (tyX tt) [.ref (ad 0), .int x, .int ov, .int z] (xw ad tt R w c k d n wp wr) (fun u : ((Nat → Int32) × (Nat → Int32)) × (Int32 × Int32) => xw ad tt R w c k u.1.1 u.1.2 u.2.1 u.2.2) (fun v _ => po_ok R w c k x ov z v) := by
  refine xe_i (cc := cX0_port) (maxL := 4) (ret := (some .int)) (lvl := [(0, .ref (ad 0)), (1, .int x), (2, .int ov), (3, .int z)]) (by decide) rfl (Nat.le_of_ble_eq_true rfl) rfl ?_
  intro p e s m below meth cd A ls hx hb hr hlocks hml hown hts hA hP hK hD hS hl
  have hin : ∀ w ∈ wsX00, w ∈ wsX0_port := fun _ h => List.mem_cons_of_mem _ (List.mem_append_right _ h)
  have S0 : CallFix p m cd cX0_port 4 s (([.ref (ad 0), .int x, .int ov, .int z] : List Value).toArray) wsX0_port RX0 := ⟨hx, hb, hml, hown, hts⟩
  obtain ⟨H, hH⟩ : ∃ H, H = s.heap := ⟨_, rfl⟩
  obtain ⟨locs, hlocs⟩ : ∃ q : List Loc, q = [] := ⟨_, rfl⟩
  have hP : va_P D vwCl (xw ad tt R w c k d n wp wr) H := by rw [hH]; exact hP
  have hS : va_S A s.heap H locs := by rw [hH, hlocs]; exact hS
  suffices hgo : W p l e (headSpec wsX0_port ({ frames := 5, cells := 0, slots := 0, locals := 113 } : Room)).room s m (([.ref (ad 0), .int x, .int ov, .int z] : List Value).toArray) below meth cd H locs 0 0 (MQ below (va_Qi (fun v _ => po_ok R w c k x ov z v) (xB D (tyX tt) A (fun u : ((Nat → Int32) × (Nat → Int32)) × (Int32 × Int32) => xw ad tt R w c k u.1.1 u.1.2 u.2.1 u.2.2)) A) ([.ref (ad 0), .int x, .int ov, .int z] : List Value).toArray s 0 0 A) (F0 m 0 ls []) by rw [hH, hlocs] at hgo; exact hgo
  clear hH hlocs
  have f_wayPort := hts (.fieldLink RX0 39 "WireWays" "wayPort" "I") (by decide +kernel)
  have hR : R ≤ 10 := hok.2.1
  refine lv_aload_n hx hb dX0_port_0 rfl (lv_at hl 0 rfl) ?_
  refine lv_iload_n hx hb dX0_port_1 rfl (lv_at hl 1 rfl) ?_
  refine lv_iload_n hx hb dX0_port_2 rfl (lv_at hl 2 rfl) ?_
  refine lv_iload_n hx hb dX0_port_3 rfl (lv_at hl 3 rfl) ?_
  refine xs_Vi (wr := []) (q0 := 0) (ci := 0) (nA := 3) (As := [.int x, .int ov, .int z]) (rest := []) S0 (k_X0_canCome l D ad tt R w c k d n wp wr hok x ov z) gX0_port_X0_canCome rfl ⟨rfl, rfl⟩ (by decide +kernel) rfl ⟨Nat.le_of_ble_eq_true rfl, Nat.le_of_ble_eq_true rfl⟩ ⟨Nat.le_of_ble_eq_true rfl, Nat.le_of_ble_eq_true rfl⟩ hK hP hD hS hA [0, 1, 2, 3, 4, 5] [] rfl rfl (by decide) (by decide) (by decide) rfl rfl rfl hl.1 rfl (Nat.le_of_ble_eq_true rfl) dX0_port_4 (fun r_1 u1 H locs hw hP hD hS => ?_)
  have hP : va_P D vwCl (xw ad tt R w c k u1.1 u1.2 wp wr) H := hP
  have hD : va_D A (xw ad tt R w c k u1.1 u1.2 wp wr) := hD
  rcases hw with ⟨rfl, r, t, hcm, hrow⟩ | ⟨rfl, hno⟩
  · obtain ⟨⟨hrR, rfl, rfl, ht16, htR⟩, hTK⟩ := id hcm
    refine lv_if_ne (tgt := 12) hx hb dX0_port_7 (by decide) (fun c_2 => ?_) (fun c_2 => absurd c_2 (by decide))
    refine lv_aload_n hx hb dX0_port_12 rfl (lv_at hl 0 rfl) ?_
    refine lv_iload_n hx hb dX0_port_13 rfl (lv_at hl 1 rfl) ?_
    refine lv_iload_n hx hb dX0_port_14 rfl (lv_at hl 2 rfl) ?_
    refine lv_iload_n hx hb dX0_port_15 rfl (lv_at hl 3 rfl) ?_
    refine xs_Vv (wr := []) (q0 := 0) (ci := 0) (nA := 3) (As := [.int (nI r), .int ov, .int (nI t)]) (rest := []) S0 (k_X0_findWay l D ad tt R w c k u1.1 u1.2 wp wr hok ov t (ww_T R w c k ov t) (ww_T_ok hok k ov t) hrow r hrR hTK) gX0_port_X0_findWay rfl ⟨rfl, rfl⟩ (by decide +kernel) rfl ⟨Nat.le_of_ble_eq_true rfl, Nat.le_of_ble_eq_true rfl⟩ ⟨Nat.le_of_ble_eq_true rfl, Nat.le_of_ble_eq_true rfl⟩ hK hP hD hS hA [0, 1, 2, 3, 4, 5] [] rfl rfl (by decide) (by decide) (by decide) rfl rfl rfl hl.1 rfl (Nat.le_of_ble_eq_true rfl) dX0_port_16 (fun u2 H locs hw hP hD hS => ?_)
    have hP : va_P D vwCl (xw ad tt R w c k u1.1 u1.2 u2.1 u2.2) H := hP
    have hD : va_D A (xw ad tt R w c k u1.1 u1.2 u2.1 u2.2) := hD
    refine lv_aload_n hx hb dX0_port_19 rfl (lv_at hl 0 rfl) ?_
    refine x0_get (v := .int u2.1) S0 hin hK hP 6 (by decide) f_wayPort rfl rfl dX0_port_20 ?_
    exact xr_i hx hb hr hlocks ((u1.1, u1.2), (u2.1, u2.2)) (Or.inl ⟨r, t, hcm, _, hw⟩) hP hK hD hS dX0_port_23
  · refine lv_if_ne (tgt := 12) hx hb dX0_port_7 (by decide) (fun c_4 => absurd c_4 (by decide)) (fun c_4 => ?_)
    refine lv_iconst (v := (-1)) hx hb dX0_port_10 (by decide) ?_
    exact xr_i hx hb hr hlocks ((u1.1, u1.2), (wp, wr)) (Or.inr ⟨rfl, hno⟩) hP hK hD hS dX0_port_11
set_option maxHeartbeats 4000000 in
set_option maxRecDepth 100000 in
theorem k_X0_next (l : Launch) (D : va_G) (ad : Nat → Nat) (tt : Nat → ClassId) (R : Nat) (w c k d n : Nat → Int32) (wp wr : Int32) (hok : ww_ok R w c) (x ov z : Int32) : xMi l yX0_next wsX0_next { frames := 5, cells := 0, slots := 0, locals := 113 } D (tyX tt) [.ref (ad 0), .int x, .int ov, .int z] (xw ad tt R w c k d n wp wr) (fun u : ((Nat → Int32) × (Nat → Int32)) × (Int32 × Int32) => xw ad tt R w c k u.1.1 u.1.2 u.2.1 u.2.2) (fun v _ => nx_ok R w c k x ov z v) := by
  refine xe_i (cc := cX0_next) (maxL := 4) (ret := (some .int)) (lvl := [(0, .ref (ad 0)), (1, .int x), (2, .int ov), (3, .int z)]) (by decide) rfl (Nat.le_of_ble_eq_true rfl) rfl ?_
  intro p e s m below meth cd A ls hx hb hr hlocks hml hown hts hA hP hK hD hS hl
  have hin : ∀ w ∈ wsX00, w ∈ wsX0_next := fun _ h => List.mem_cons_of_mem _ (List.mem_append_right _ h)
  have S0 : CallFix p m cd cX0_next 4 s (([.ref (ad 0), .int x, .int ov, .int z] : List Value).toArray) wsX0_next RX0 := ⟨hx, hb, hml, hown, hts⟩
  obtain ⟨H, hH⟩ : ∃ H, H = s.heap := ⟨_, rfl⟩
  obtain ⟨locs, hlocs⟩ : ∃ q : List Loc, q = [] := ⟨_, rfl⟩
  have hP : va_P D vwCl (xw ad tt R w c k d n wp wr) H := by rw [hH]; exact hP
  have hS : va_S A s.heap H locs := by rw [hH, hlocs]; exact hS
  suffices hgo : W p l e (headSpec wsX0_next ({ frames := 5, cells := 0, slots := 0, locals := 113 } : Room)).room s m (([.ref (ad 0), .int x, .int ov, .int z] : List Value).toArray) below meth cd H locs 0 0 (MQ below (va_Qi (fun v _ => nx_ok R w c k x ov z v) (xB D (tyX tt) A (fun u : ((Nat → Int32) × (Nat → Int32)) × (Int32 × Int32) => xw ad tt R w c k u.1.1 u.1.2 u.2.1 u.2.2)) A) ([.ref (ad 0), .int x, .int ov, .int z] : List Value).toArray s 0 0 A) (F0 m 0 ls []) by rw [hH, hlocs] at hgo; exact hgo
  clear hH hlocs
  have f_wayRouter := hts (.fieldLink RX0 42 "WireWays" "wayRouter" "I") (by decide +kernel)
  have hR : R ≤ 10 := hok.2.1
  refine lv_aload_n hx hb dX0_next_0 rfl (lv_at hl 0 rfl) ?_
  refine lv_iload_n hx hb dX0_next_1 rfl (lv_at hl 1 rfl) ?_
  refine lv_iload_n hx hb dX0_next_2 rfl (lv_at hl 2 rfl) ?_
  refine lv_iload_n hx hb dX0_next_3 rfl (lv_at hl 3 rfl) ?_
  refine xs_Vi (wr := []) (q0 := 0) (ci := 0) (nA := 3) (As := [.int x, .int ov, .int z]) (rest := []) S0 (k_X0_canCome l D ad tt R w c k d n wp wr hok x ov z) gX0_next_X0_canCome rfl ⟨rfl, rfl⟩ (by decide +kernel) rfl ⟨Nat.le_of_ble_eq_true rfl, Nat.le_of_ble_eq_true rfl⟩ ⟨Nat.le_of_ble_eq_true rfl, Nat.le_of_ble_eq_true rfl⟩ hK hP hD hS hA [0, 1, 2, 3, 4, 5] [] rfl rfl (by decide) (by decide) (by decide) rfl rfl rfl hl.1 rfl (Nat.le_of_ble_eq_true rfl) dX0_next_4 (fun r_1 u1 H locs hw hP hD hS => ?_)
  have hP : va_P D vwCl (xw ad tt R w c k u1.1 u1.2 wp wr) H := hP
  have hD : va_D A (xw ad tt R w c k u1.1 u1.2 wp wr) := hD
  rcases hw with ⟨rfl, r, t, hcm, hrow⟩ | ⟨rfl, hno⟩
  · obtain ⟨⟨hrR, rfl, rfl, ht16, htR⟩, hTK⟩ := id hcm
    refine lv_if_ne (tgt := 12) hx hb dX0_next_7 (by decide) (fun c_2 => ?_) (fun c_2 => absurd c_2 (by decide))
    refine lv_aload_n hx hb dX0_next_12 rfl (lv_at hl 0 rfl) ?_
    refine lv_iload_n hx hb dX0_next_13 rfl (lv_at hl 1 rfl) ?_
    refine lv_iload_n hx hb dX0_next_14 rfl (lv_at hl 2 rfl) ?_
    refine lv_iload_n hx hb dX0_next_15 rfl (lv_at hl 3 rfl) ?_
    refine xs_Vv (wr := []) (q0 := 0) (ci := 0) (nA := 3) (As := [.int (nI r), .int ov, .int (nI t)]) (rest := []) S0 (k_X0_findWay l D ad tt R w c k u1.1 u1.2 wp wr hok ov t (ww_T R w c k ov t) (ww_T_ok hok k ov t) hrow r hrR hTK) gX0_next_X0_findWay rfl ⟨rfl, rfl⟩ (by decide +kernel) rfl ⟨Nat.le_of_ble_eq_true rfl, Nat.le_of_ble_eq_true rfl⟩ ⟨Nat.le_of_ble_eq_true rfl, Nat.le_of_ble_eq_true rfl⟩ hK hP hD hS hA [0, 1, 2, 3, 4, 5] [] rfl rfl (by decide) (by decide) (by decide) rfl rfl rfl hl.1 rfl (Nat.le_of_ble_eq_true rfl) dX0_next_16 (fun u2 H locs hw hP hD hS => ?_)
    have hP : va_P D vwCl (xw ad tt R w c k u1.1 u1.2 u2.1 u2.2) H := hP
    have hD : va_D A (xw ad tt R w c k u1.1 u1.2 u2.1 u2.2) := hD
    refine lv_aload_n hx hb dX0_next_19 rfl (lv_at hl 0 rfl) ?_
    refine x0_get (v := .int u2.2) S0 hin hK hP 7 (by decide) f_wayRouter rfl rfl dX0_next_20 ?_
    exact xr_i hx hb hr hlocks ((u1.1, u1.2), (u2.1, u2.2)) (Or.inl ⟨r, t, hcm, _, hw⟩) hP hK hD hS dX0_next_23
  · refine lv_if_ne (tgt := 12) hx hb dX0_next_7 (by decide) (fun c_4 => absurd c_4 (by decide)) (fun c_4 => ?_)
    refine lv_iconst (v := (-1)) hx hb dX0_next_10 (by decide) ?_
    exact xr_i hx hb hr hlocks ((u1.1, u1.2), (wp, wr)) (Or.inr ⟨rfl, hno⟩) hP hK hD hS dX0_next_11
set_option maxHeartbeats 4000000 in
set_option maxRecDepth 100000 in
theorem k_X0_walk (l : Launch) (D : va_G) (ad : Nat → Nat) (tt : Nat → ClassId) (R : Nat) (w c k d n : Nat → Int32) (wp wr : Int32) (hok : ww_ok R w c) (x ov z kk : Int32) : xMi l yX0_walk wsX0_walk { frames := 5, cells := 0, slots := 0, locals := 113 } D (tyX tt) [.ref (ad 0), .int x, .int ov, .int z, .int kk] (xw ad tt R w c k d n wp wr) (fun u : ((Nat → Int32) × (Nat → Int32)) × (Int32 × Int32) => xw ad tt R w c k u.1.1 u.1.2 u.2.1 u.2.2) (fun v _ => wk_ok R w c k x ov z kk v) := by
  refine xe_i (cc := cX0_walk) (maxL := 7) (ret := (some .int)) (lvl := [(0, .ref (ad 0)), (1, .int x), (2, .int ov), (3, .int z), (4, .int kk)]) (by decide) rfl (Nat.le_of_ble_eq_true rfl) rfl ?_
  intro p e s m below meth cd A ls hx hb hr hlocks hml hown hts hA hP hK hD hS hl
  have hin : ∀ w ∈ wsX00, w ∈ wsX0_walk := fun _ h => List.mem_cons_of_mem _ (List.mem_append_right _ h)
  have S0 : CallFix p m cd cX0_walk 7 s (([.ref (ad 0), .int x, .int ov, .int z, .int kk] : List Value).toArray) wsX0_walk RX0 := ⟨hx, hb, hml, hown, hts⟩
  obtain ⟨H, hH⟩ : ∃ H, H = s.heap := ⟨_, rfl⟩
  obtain ⟨locs, hlocs⟩ : ∃ q : List Loc, q = [] := ⟨_, rfl⟩
  have hP : va_P D vwCl (xw ad tt R w c k d n wp wr) H := by rw [hH]; exact hP
  have hS : va_S A s.heap H locs := by rw [hH, hlocs]; exact hS
  suffices hgo : W p l e (headSpec wsX0_walk ({ frames := 5, cells := 0, slots := 0, locals := 113 } : Room)).room s m (([.ref (ad 0), .int x, .int ov, .int z, .int kk] : List Value).toArray) below meth cd H locs 0 0 (MQ below (va_Qi (fun v _ => wk_ok R w c k x ov z kk v) (xB D (tyX tt) A (fun u : ((Nat → Int32) × (Nat → Int32)) × (Int32 × Int32) => xw ad tt R w c k u.1.1 u.1.2 u.2.1 u.2.2)) A) ([.ref (ad 0), .int x, .int ov, .int z, .int kk] : List Value).toArray s 0 0 A) (F0 m 0 ls []) by rw [hH, hlocs] at hgo; exact hgo
  clear hH hlocs
  have f_routers := hts (.fieldLink RX0 18 "WireWays" "routers" "I") (by decide +kernel)
  have f_wayRouter := hts (.fieldLink RX0 42 "WireWays" "wayRouter" "I") (by decide +kernel)
  have hR : R ≤ 10 := hok.2.1
  refine lv_iload hx hb dX0_walk_0 (lv_at hl 4 rfl) ?_
  refine lv_if_lt (tgt := 24) hx hb dX0_walk_2 (by decide) (fun c_1 => ?_) (fun c_1 => ?_)
  · have hk0 := c_1
    refine lv_iconst (v := (-1)) hx hb dX0_walk_24 (by decide) ?_
    exact xr_i hx hb hr hlocks ((d, n), (wp, wr)) (by first | exact Or.inr ⟨rfl, Or.inl hk0⟩ | exact Or.inl ⟨r, t, kn, hcm, hkn, rfl, Or.inr ⟨rfl, by have h9 := wks_stop (wks_end hws htg) (kn - (m9 + 1)); rw [show m9 + 1 + (kn - (m9 + 1)) = kn by omega] at h9; exact h9⟩⟩ | exact Or.inr ⟨rfl, Or.inr hno⟩ | exact wk_big hok hk1 hkR) hP hK hD hS dX0_walk_25
  · have hk1 := c_1
    refine lv_iload hx hb dX0_walk_5 (lv_at hl 4 rfl) ?_
    refine lv_aload_n hx hb dX0_walk_7 rfl (lv_at hl 0 rfl) ?_
    refine x0_get (v := .int (nI R)) S0 hin hK hP 0 (by decide) f_routers rfl rfl dX0_walk_8 ?_
    refine lv_icmp_ge (tgt := 24) hx hb dX0_walk_11 (by decide) (fun c_2 => ?_) (fun c_2 => ?_)
    · have hkR := c_2
      refine lv_iconst (v := (-1)) hx hb dX0_walk_24 (by decide) ?_
      exact xr_i hx hb hr hlocks ((d, n), (wp, wr)) (by first | exact Or.inr ⟨rfl, Or.inl hk0⟩ | exact Or.inl ⟨r, t, kn, hcm, hkn, rfl, Or.inr ⟨rfl, by have h9 := wks_stop (wks_end hws htg) (kn - (m9 + 1)); rw [show m9 + 1 + (kn - (m9 + 1)) = kn by omega] at h9; exact h9⟩⟩ | exact Or.inr ⟨rfl, Or.inr hno⟩ | exact wk_big hok hk1 hkR) hP hK hD hS dX0_walk_25
    · have hkR2 := c_2
      refine lv_aload_n hx hb dX0_walk_14 rfl (lv_at hl 0 rfl) ?_
      refine lv_iload_n hx hb dX0_walk_15 rfl (lv_at hl 1 rfl) ?_
      refine lv_iload_n hx hb dX0_walk_16 rfl (lv_at hl 2 rfl) ?_
      refine lv_iload_n hx hb dX0_walk_17 rfl (lv_at hl 3 rfl) ?_
      refine xs_Vi (wr := []) (q0 := 0) (ci := 0) (nA := 3) (As := [.int x, .int ov, .int z]) (rest := []) S0 (k_X0_canCome l D ad tt R w c k d n wp wr hok x ov z) gX0_walk_X0_canCome rfl ⟨rfl, rfl⟩ (by decide +kernel) rfl ⟨Nat.le_of_ble_eq_true rfl, Nat.le_of_ble_eq_true rfl⟩ ⟨Nat.le_of_ble_eq_true rfl, Nat.le_of_ble_eq_true rfl⟩ hK hP hD hS hA [0, 1, 2, 3, 4, 5] [] rfl rfl (by decide) (by decide) (by decide) rfl rfl rfl hl.1 rfl (Nat.le_of_ble_eq_true rfl) dX0_walk_18 (fun r_3 u1 H locs hw hP hD hS => ?_)
      have hP : va_P D vwCl (xw ad tt R w c k u1.1 u1.2 wp wr) H := hP
      have hD : va_D A (xw ad tt R w c k u1.1 u1.2 wp wr) := hD
      rcases hw with ⟨rfl, r, t, hcm, hrow⟩ | ⟨rfl, hno⟩
      · obtain ⟨⟨hrR, rfl, rfl, ht16, htR⟩, hTK⟩ := id hcm
        refine lv_if_ne (tgt := 26) hx hb dX0_walk_21 (by decide) (fun c_4 => ?_) (fun c_4 => absurd c_4 (by decide))
        obtain ⟨kn, hkn, rfl⟩ := nI_of hk1
        refine lv_iload_n hx hb dX0_walk_26 rfl (lv_at hl 1 rfl) ?_
        refine lv_istore (lv' := [(5, .int (nI r)), (0, .ref (ad 0)), (1, .int (nI r)), (2, .int ov), (3, .int (nI t)), (4, .int (nI kn))]) hx hb dX0_walk_27 hl (by decide) rfl (fun ls hl => ?_)
        refine lv_iconst (v := 0) hx hb dX0_walk_29 (by decide) ?_
        refine lv_istore (lv' := [(6, .int 0), (5, .int (nI r)), (0, .ref (ad 0)), (1, .int (nI r)), (2, .int ov), (3, .int (nI t)), (4, .int (nI kn))]) hx hb dX0_walk_30 hl (by decide) rfl (fun ls hl => ?_)
        have lp32 : ∀ (fuel : Nat) (m9 : Nat) (a : Nat) (p1 : Int32) (q1 : Int32), (m9 ≤ kn) → (a < R) → (ww_T R w c k ov t a < 1000000) → (wks (ww_tg w k ov t) (ww_E R w k) (ww_c c) 1000000 (ww_T R w c k ov t) m9 r a) → kn - m9 < fuel → ∀ (H : Heap) (locs : List Loc) (ls : Array Slot), va_P D vwCl (xw ad tt R w c k u1.1 u1.2 p1 q1) H → va_D A (xw ad tt R w c k u1.1 u1.2 p1 q1) → va_S A s.heap H locs → lv_has ls 7 [(6, .int (nI m9)), (5, .int (nI a)), (0, .ref (ad 0)), (1, .int (nI r)), (2, .int ov), (3, .int (nI t)), (4, .int (nI kn))] → W p l e (headSpec wsX0_walk ({ frames := 5, cells := 0, slots := 0, locals := 113 } : Room)).room s m ([.ref (ad 0), .int (nI r), .int ov, .int (nI t), .int (nI kn)] : List Value).toArray below meth cd H locs 0 0 (MQ below (va_Qi (fun v _ => wk_ok R w c k (nI r) ov (nI t) (nI kn) v) (xB D (tyX tt) A (fun u : ((Nat → Int32) × (Nat → Int32)) × (Int32 × Int32) => xw ad tt R w c k u.1.1 u.1.2 u.2.1 u.2.2)) A) ([.ref (ad 0), .int (nI r), .int ov, .int (nI t), .int (nI kn)] : List Value).toArray s 0 0 A) (F0 m 32 ls []) := by
          intro fuel
          induction fuel with
          | zero => intro m9 a p1 q1 hm0 haR haK hws hm; exact absurd hm (Nat.not_lt_zero _)
          | succ fuel ih32 =>
            intro m9 a p1 q1 hm0 haR haK hws hm H locs ls hP hD hS hl
            refine lv_iload hx hb dX0_walk_32 (lv_at hl 0 rfl) ?_
            refine lv_iload hx hb dX0_walk_34 (lv_at hl 6 rfl) ?_
            refine lv_icmp_ge (tgt := 72) hx hb dX0_walk_36 (by decide) (fun c_5 => ?_) (fun c_5 => ?_)
            · have hmk : kn ≤ m9 := (nI_leI (by omega) (by omega)).mp c_5
              refine lv_iload hx hb dX0_walk_72 (lv_at hl 1 rfl) ?_
              exact xr_i hx hb hr hlocks ((u1.1, u1.2), (p1, q1)) (Or.inl ⟨r, t, kn, hcm, hkn, rfl, Or.inl ⟨a, rfl, by rw [show kn = m9 by omega]; exact hws⟩⟩) hP hK hD hS dX0_walk_74
            · have hmk : m9 < kn := Nat.lt_of_not_le (fun h => c_5 (nI_le h (by omega)))
              refine lv_aload_n hx hb dX0_walk_39 rfl (lv_at hl 2 rfl) ?_
              refine lv_iload hx hb dX0_walk_40 (lv_at hl 1 rfl) ?_
              refine lv_iload_n hx hb dX0_walk_42 rfl (lv_at hl 4 rfl) ?_
              refine lv_iload_n hx hb dX0_walk_43 rfl (lv_at hl 5 rfl) ?_
              refine xs_Vv (wr := []) (q0 := 0) (ci := 0) (nA := 3) (As := [.int (nI a), .int ov, .int (nI t)]) (rest := []) S0 (k_X0_findWay l D ad tt R w c k u1.1 u1.2 p1 q1 hok ov t (ww_T R w c k ov t) (ww_T_ok hok k ov t) hrow a haR haK) gX0_walk_X0_findWay rfl ⟨rfl, rfl⟩ (by decide +kernel) rfl ⟨Nat.le_of_ble_eq_true rfl, Nat.le_of_ble_eq_true rfl⟩ ⟨Nat.le_of_ble_eq_true rfl, Nat.le_of_ble_eq_true rfl⟩ hK hP hD hS hA [0, 1, 2, 3, 4, 5] [] rfl rfl (by decide) (by decide) (by decide) rfl rfl rfl hl.1 rfl (Nat.le_of_ble_eq_true rfl) dX0_walk_44 (fun u2 H locs hw hP hD hS => ?_)
              have hP : va_P D vwCl (xw ad tt R w c k u1.1 u1.2 u2.1 u2.2) H := hP
              have hD : va_D A (xw ad tt R w c k u1.1 u1.2 u2.1 u2.2) := hD
              have hfw := hw
              refine lv_aload_n hx hb dX0_walk_47 rfl (lv_at hl 2 rfl) ?_
              refine lv_aload_n hx hb dX0_walk_48 rfl (lv_at hl 2 rfl) ?_
              refine x0_get (v := .int u2.2) S0 hin hK hP 7 (by decide) f_wayRouter rfl rfl dX0_walk_49 ?_
              refine xs_Vi (wr := []) (q0 := 0) (ci := 0) (nA := 1) (As := [.int u2.2]) (rest := []) S0 (k_X0_isRouter l D ad tt R w c k u1.1 u1.2 u2.1 u2.2 u2.2 hR) gX0_walk_X0_isRouter rfl ⟨rfl, rfl⟩ (by decide +kernel) rfl ⟨Nat.le_of_ble_eq_true rfl, Nat.le_of_ble_eq_true rfl⟩ ⟨Nat.le_of_ble_eq_true rfl, Nat.le_of_ble_eq_true rfl⟩ hK hP hD hS hA [0, 1, 2, 3, 4, 5] [] rfl rfl (by decide) (by decide) (by decide) rfl rfl rfl hl.1 rfl (Nat.le_of_ble_eq_true rfl) dX0_walk_52 (fun r_7 u H locs hw hP hD hS => ?_)
              have hP : va_P D vwCl (xw ad tt R w c k u1.1 u1.2 u2.1 u2.2) H := hP
              have hD : va_D A (xw ad tt R w c k u1.1 u1.2 u2.1 u2.2) := hD
              rcases hw with ⟨rfl, h_r⟩ | ⟨rfl, h_r⟩
              · obtain ⟨b, eb, hbR, hbT, hbg, p9, hbw⟩ := fw_r1 hok (ww_T_ok hok k ov t) hfw haR haK h_r
                refine lv_if_ne (tgt := 60) hx hb dX0_walk_55 (by decide) (fun c_8 => ?_) (fun c_8 => absurd c_8 (by decide))
                refine lv_aload_n hx hb dX0_walk_60 rfl (lv_at hl 2 rfl) ?_
                refine x0_get (v := .int u2.2) S0 hin hK hP 7 (by decide) f_wayRouter rfl rfl dX0_walk_61 ?_
                refine xt_eq (z := nI b) eb ?_
                refine lv_istore (lv' := [(5, .int (nI b)), (6, .int (nI m9)), (0, .ref (ad 0)), (1, .int (nI r)), (2, .int ov), (3, .int (nI t)), (4, .int (nI kn))]) hx hb dX0_walk_64 hl (by decide) rfl (fun ls hl => ?_)
                refine lv_iinc (v := nI (m9 + 1)) (lv' := [(6, .int (nI (m9 + 1))), (5, .int (nI b)), (0, .ref (ad 0)), (1, .int (nI r)), (2, .int ov), (3, .int (nI t)), (4, .int (nI kn))]) hx hb dX0_walk_66 hl (k := 1) rfl (nI_1 m9) (by decide) rfl (fun ls hl => ?_)
                refine lv_goto (tgt := 32) hx hb dX0_walk_69 (by decide) ?_
                exact ih32 (m9 + 1) b u2.1 u2.2 (by omega) hbR (by omega) ⟨a, hws, hbg, p9, hbw⟩ (by omega) H locs ls hP hD hS (lv_sub hl [0, 1, 2, 3, 4, 5, 6] rfl)
              · have htg := fw_r0 hfw h_r
                refine lv_if_ne (tgt := 60) hx hb dX0_walk_55 (by decide) (fun c_9 => absurd c_9 (by decide)) (fun c_9 => ?_)
                refine lv_iconst (v := (-1)) hx hb dX0_walk_58 (by decide) ?_
                exact xr_i hx hb hr hlocks ((u1.1, u1.2), (u2.1, u2.2)) (by first | exact Or.inr ⟨rfl, Or.inl hk0⟩ | exact Or.inl ⟨r, t, kn, hcm, hkn, rfl, Or.inr ⟨rfl, by have h9 := wks_stop (wks_end hws htg) (kn - (m9 + 1)); rw [show m9 + 1 + (kn - (m9 + 1)) = kn by omega] at h9; exact h9⟩⟩ | exact Or.inr ⟨rfl, Or.inr hno⟩ | exact wk_big hok hk1 hkR) hP hK hD hS dX0_walk_59
        exact lp32 _ 0 r wp wr (by omega) hrR hTK rfl (Nat.lt_succ_self _) H locs ls hP hD hS (lv_sub hl [0, 1, 2, 3, 4, 5, 6] rfl)
      · refine lv_if_ne (tgt := 26) hx hb dX0_walk_21 (by decide) (fun c_10 => absurd c_10 (by decide)) (fun c_10 => ?_)
        refine lv_iconst (v := (-1)) hx hb dX0_walk_24 (by decide) ?_
        exact xr_i hx hb hr hlocks ((u1.1, u1.2), (wp, wr)) (by first | exact Or.inr ⟨rfl, Or.inl hk0⟩ | exact Or.inl ⟨r, t, kn, hcm, hkn, rfl, Or.inr ⟨rfl, by have h9 := wks_stop (wks_end hws htg) (kn - (m9 + 1)); rw [show m9 + 1 + (kn - (m9 + 1)) = kn by omega] at h9; exact h9⟩⟩ | exact Or.inr ⟨rfl, Or.inr hno⟩ | exact wk_big hok hk1 hkR) hP hK hD hS dX0_walk_25
set_option maxHeartbeats 4000000 in
set_option maxRecDepth 100000 in
theorem k_X0_reach (l : Launch) (D : va_G) (ad : Nat → Nat) (tt : Nat → ClassId) (R : Nat) (w c k d n : Nat → Int32) (wp wr : Int32) (hok : ww_ok R w c) (x : Int32) : xMi l yX0_reach wsX0_reach { frames := 4, cells := 0, slots := 0, locals := 90 } D (tyX tt) [.ref (ad 0), .int x] (xw ad tt R w c k d n wp wr) (fun u : (Nat → Int32) × (Nat → Int32) => xw ad tt R w c k u.1 u.2 wp wr) (fun v _ => rc_ok R w c k x v) := by
  refine xe_i (cc := cX0_reach) (maxL := 4) (ret := (some .int)) (lvl := [(0, .ref (ad 0)), (1, .int x)]) (by decide) rfl (Nat.le_of_ble_eq_true rfl) rfl ?_
  intro p e s m below meth cd A ls hx hb hr hlocks hml hown hts hA hP hK hD hS hl
  have hin : ∀ w ∈ wsX00, w ∈ wsX0_reach := fun _ h => List.mem_cons_of_mem _ (List.mem_append_right _ h)
  have S0 : CallFix p m cd cX0_reach 4 s (([.ref (ad 0), .int x] : List Value).toArray) wsX0_reach RX0 := ⟨hx, hb, hml, hown, hts⟩
  obtain ⟨H, hH⟩ : ∃ H, H = s.heap := ⟨_, rfl⟩
  obtain ⟨locs, hlocs⟩ : ∃ q : List Loc, q = [] := ⟨_, rfl⟩
  have hP : va_P D vwCl (xw ad tt R w c k d n wp wr) H := by rw [hH]; exact hP
  have hS : va_S A s.heap H locs := by rw [hH, hlocs]; exact hS
  suffices hgo : W p l e (headSpec wsX0_reach ({ frames := 4, cells := 0, slots := 0, locals := 90 } : Room)).room s m (([.ref (ad 0), .int x] : List Value).toArray) below meth cd H locs 0 0 (MQ below (va_Qi (fun v _ => rc_ok R w c k x v) (xB D (tyX tt) A (fun u : (Nat → Int32) × (Nat → Int32) => xw ad tt R w c k u.1 u.2 wp wr)) A) ([.ref (ad 0), .int x] : List Value).toArray s 0 0 A) (F0 m 0 ls []) by rw [hH, hlocs] at hgo; exact hgo
  clear hH hlocs
  have f_routers := hts (.fieldLink RX0 18 "WireWays" "routers" "I") (by decide +kernel)
  have f_distance := hts (.fieldLink RX0 33 "WireWays" "distance" "[I") (by decide +kernel)
  have hR : R ≤ 10 := hok.2.1
  refine lv_aload_n hx hb dX0_reach_0 rfl (lv_at hl 0 rfl) ?_
  refine lv_iload_n hx hb dX0_reach_1 rfl (lv_at hl 1 rfl) ?_
  refine xs_Vi (wr := []) (q0 := 0) (ci := 0) (nA := 1) (As := [.int x]) (rest := []) S0 (k_X0_isRouter l D ad tt R w c k d n wp wr x hR) gX0_reach_X0_isRouter rfl ⟨rfl, rfl⟩ (by decide +kernel) rfl ⟨Nat.le_of_ble_eq_true rfl, Nat.le_of_ble_eq_true rfl⟩ ⟨Nat.le_of_ble_eq_true rfl, Nat.le_of_ble_eq_true rfl⟩ hK hP hD hS hA [0, 1, 2, 3, 4, 5] [] rfl rfl (by decide) (by decide) (by decide) rfl rfl rfl hl.1 rfl (Nat.le_of_ble_eq_true rfl) dX0_reach_2 (fun r_1 u H locs hw hP hD hS => ?_)
  have hP : va_P D vwCl (xw ad tt R w c k d n wp wr) H := hP
  have hD : va_D A (xw ad tt R w c k d n wp wr) := hD
  rcases hw with ⟨rfl, h_r⟩ | ⟨rfl, h_r⟩
  · refine lv_if_ne (tgt := 10) hx hb dX0_reach_5 (by decide) (fun c_2 => ?_) (fun c_2 => absurd c_2 (by decide))
    obtain ⟨r, hrR, rfl⟩ := h_r
    refine lv_aload_n hx hb dX0_reach_10 rfl (lv_at hl 0 rfl) ?_
    refine lv_iconst (v := 0) hx hb dX0_reach_11 (by decide) ?_
    refine lv_iload_n hx hb dX0_reach_12 rfl (lv_at hl 1 rfl) ?_
    refine xs_Vv (wr := []) (q0 := 0) (ci := 0) (nA := 2) (As := [.int 0, .int (nI r)]) (rest := []) S0 (k_X0_measure l D ad tt R w c k d n wp wr hok 0 r ⟨fun h => absurd rfl h, fun _ => hrR⟩ (ww_T R w c k 0 r) (ww_T_ok hok k 0 r)) gX0_reach_X0_measure rfl ⟨rfl, rfl⟩ (by decide +kernel) rfl ⟨Nat.le_of_ble_eq_true rfl, Nat.le_of_ble_eq_true rfl⟩ ⟨Nat.le_of_ble_eq_true rfl, Nat.le_of_ble_eq_true rfl⟩ hK hP hD hS hA [0, 1, 2, 3, 4, 5] [] rfl rfl (by decide) (by decide) (by decide) rfl rfl rfl hl.1 rfl (Nat.le_of_ble_eq_true rfl) dX0_reach_13 (fun u1 H locs hw hP hD hS => ?_)
    have hP : va_P D vwCl (xw ad tt R w c k u1.1 u1.2 wp wr) H := hP
    have hD : va_D A (xw ad tt R w c k u1.1 u1.2 wp wr) := hD
    have hrow := hw
    refine lv_iconst (v := 0) hx hb dX0_reach_16 (by decide) ?_
    refine lv_istore_n (lv' := [(2, .int 0), (0, .ref (ad 0)), (1, .int (nI r))]) hx hb dX0_reach_17 rfl hl (by decide) rfl (fun ls hl => ?_)
    refine lv_iconst (v := 0) hx hb dX0_reach_18 (by decide) ?_
    refine lv_istore_n (lv' := [(3, .int 0), (2, .int 0), (0, .ref (ad 0)), (1, .int (nI r))]) hx hb dX0_reach_19 rfl hl (by decide) rfl (fun ls hl => ?_)
    have lp20 : ∀ (fuel : Nat) (a : Nat) (cn : Nat), (a ≤ R) → (cn = dm_cnt (fun a => decide (ww_T R w c k 0 r a < 1000000)) a) → R - a < fuel → ∀ (H : Heap) (locs : List Loc) (ls : Array Slot), va_P D vwCl (xw ad tt R w c k u1.1 u1.2 wp wr) H → va_D A (xw ad tt R w c k u1.1 u1.2 wp wr) → va_S A s.heap H locs → lv_has ls 4 [(3, .int (nI a)), (2, .int (nI cn)), (0, .ref (ad 0)), (1, .int (nI r))] → W p l e (headSpec wsX0_reach ({ frames := 4, cells := 0, slots := 0, locals := 90 } : Room)).room s m ([.ref (ad 0), .int (nI r)] : List Value).toArray below meth cd H locs 0 0 (MQ below (va_Qi (fun v _ => rc_ok R w c k (nI r) v) (xB D (tyX tt) A (fun u : (Nat → Int32) × (Nat → Int32) => xw ad tt R w c k u.1 u.2 wp wr)) A) ([.ref (ad 0), .int (nI r)] : List Value).toArray s 0 0 A) (F0 m 20 ls []) := by
      intro fuel
      induction fuel with
      | zero => intro a cn ha0 hcn hm; exact absurd hm (Nat.not_lt_zero _)
      | succ fuel ih20 =>
        intro a cn ha0 hcn hm H locs ls hP hD hS hl
        refine lv_iload_n hx hb dX0_reach_20 rfl (lv_at hl 0 rfl) ?_
        refine lv_aload_n hx hb dX0_reach_21 rfl (lv_at hl 2 rfl) ?_
        refine x0_get (v := .int (nI R)) S0 hin hK hP 0 (by decide) f_routers rfl rfl dX0_reach_22 ?_
        refine lv_icmp_ge (tgt := 48) hx hb dX0_reach_25 (by decide) (fun c_4 => ?_) (fun c_4 => ?_)
        · have haR : R ≤ a := (nI_leI (by omega) (by omega)).mp c_4
          refine lv_iload_n hx hb dX0_reach_48 rfl (lv_at hl 1 rfl) ?_
          exact xr_i hx hb hr hlocks (u1.1, u1.2) (Or.inl ⟨r, hrR, rfl, by rw [hcn, show a = R by omega]⟩) hP hK hD hS dX0_reach_49
        · have haR : a < R := Nat.lt_of_not_le (fun h => c_4 (nI_le h (by omega)))
          have hTle := (ww_T_ok hok k 0 r).1 a haR
          refine lv_aload_n hx hb dX0_reach_28 rfl (lv_at hl 2 rfl) ?_
          refine x0_get (v := .ref (ad 4)) S0 hin hK hP 4 (by decide) f_distance rfl rfl dX0_reach_29 ?_
          refine lv_iload_n hx hb dX0_reach_32 rfl (lv_at hl 0 rfl) ?_
          refine va_iald hx hb hK hP 4 3 rfl rfl (vp_in_nI (by omega) (by omega)) dX0_reach_33 ?_
          refine xt_eq (z := u1.1 a) (congrArg u1.1 (nI_clamp (by omega))) ?_
          refine xt_eq (z := nI (ww_T R w c k 0 r a)) (hrow a haR) ?_
          refine lv_ldc (v := 1000000) hx hb hown (hts (.constant RX0 83 1000000) (by decide +kernel)) dX0_reach_34 ?_
          refine lv_icmp_ge (tgt := 42) hx hb dX0_reach_36 (by decide) (fun c_5 => ?_) (fun c_5 => ?_)
          · have hge : 1000000 ≤ ww_T R w c k 0 r a := (nI_leI (a := 1000000) (by omega) (by omega)).mp c_5
            refine lv_iinc (v := nI (a + 1)) (lv' := [(3, .int (nI (a + 1))), (2, .int (nI cn)), (0, .ref (ad 0)), (1, .int (nI r))]) hx hb dX0_reach_42 hl (k := 0) rfl (nI_1 a) (by decide) rfl (fun ls hl => ?_)
            refine lv_goto (tgt := 20) hx hb dX0_reach_45 (by decide) ?_
            exact ih20 (a + 1) cn (by omega) (cnt_f hcn (fun h => absurd (of_decide_eq_true h) (by omega))) (by omega) H locs ls hP hD hS (lv_sub hl [0, 1, 2, 3] rfl)
          · have hge : ww_T R w c k 0 r a < 1000000 := Nat.lt_of_not_le (fun h => c_5 (nI_le (a := 1000000) h (by omega)))
            refine lv_iinc (v := nI (cn + 1)) (lv' := [(2, .int (nI (cn + 1))), (3, .int (nI a)), (0, .ref (ad 0)), (1, .int (nI r))]) hx hb dX0_reach_39 hl (k := 1) rfl (nI_1 cn) (by decide) rfl (fun ls hl => ?_)
            refine lv_iinc (v := nI (a + 1)) (lv' := [(3, .int (nI (a + 1))), (2, .int (nI (cn + 1))), (0, .ref (ad 0)), (1, .int (nI r))]) hx hb dX0_reach_42 hl (k := 1) rfl (nI_1 a) (by decide) rfl (fun ls hl => ?_)
            refine lv_goto (tgt := 20) hx hb dX0_reach_45 (by decide) ?_
            exact ih20 (a + 1) (cn + 1) (by omega) (cnt_t hcn (decide_eq_true hge)) (by omega) H locs ls hP hD hS (lv_sub hl [0, 1, 2, 3] rfl)
    exact lp20 _ 0 0 (by omega) rfl (Nat.lt_succ_self _) H locs ls hP hD hS (lv_sub hl [0, 1, 2, 3] rfl)
  · refine lv_if_ne (tgt := 10) hx hb dX0_reach_5 (by decide) (fun c_6 => absurd c_6 (by decide)) (fun c_6 => ?_)
    refine lv_iconst (v := (-1)) hx hb dX0_reach_8 (by decide) ?_
    exact xr_i hx hb hr hlocks (d, n) (Or.inr ⟨rfl, h_r⟩) hP hK hD hS dX0_reach_9
set_option maxHeartbeats 4000000 in
set_option maxRecDepth 100000 in
theorem k_X0_pluggedPorts (l : Launch) (D : va_G) (ad : Nat → Nat) (tt : Nat → ClassId) (R : Nat) (w c k d n : Nat → Int32) (wp wr : Int32) (hW : ∀ a, a < 40 → w a = -1 ∨ ix (w a) 16) : xMi l yX0_pluggedPorts wsX0_pluggedPorts { frames := 1, cells := 0, slots := 0, locals := 20 } D (tyX tt) [.ref (ad 0)] (xw ad tt R w c k d n wp wr) (fun _ : Unit => xw ad tt R w c k d n wp wr) (fun v _ => v = nI (dm_cnt (fun a => decide (w a ≠ -1)) 40)) := by
  refine xe_i (cc := cX0_pluggedPorts) (maxL := 3) (ret := (some .int)) (lvl := [(0, .ref (ad 0))]) (by decide) rfl (Nat.le_of_ble_eq_true rfl) rfl ?_
  intro p e s m below meth cd A ls hx hb hr hlocks hml hown hts hA hP hK hD hS hl
  have hin : ∀ w ∈ wsX00, w ∈ wsX0_pluggedPorts := fun _ h => List.mem_cons_of_mem _ (List.mem_append_right _ h)
  have S0 : CallFix p m cd cX0_pluggedPorts 3 s (([.ref (ad 0)] : List Value).toArray) wsX0_pluggedPorts RX0 := ⟨hx, hb, hml, hown, hts⟩
  obtain ⟨H, hH⟩ : ∃ H, H = s.heap := ⟨_, rfl⟩
  obtain ⟨locs, hlocs⟩ : ∃ q : List Loc, q = [] := ⟨_, rfl⟩
  have hP : va_P D vwCl (xw ad tt R w c k d n wp wr) H := by rw [hH]; exact hP
  have hS : va_S A s.heap H locs := by rw [hH, hlocs]; exact hS
  suffices hgo : W p l e (headSpec wsX0_pluggedPorts ({ frames := 1, cells := 0, slots := 0, locals := 20 } : Room)).room s m (([.ref (ad 0)] : List Value).toArray) below meth cd H locs 0 0 (MQ below (va_Qi (fun v _ => v = nI (dm_cnt (fun a => decide (w a ≠ -1)) 40)) (xB D (tyX tt) A (fun _ : Unit => xw ad tt R w c k d n wp wr)) A) ([.ref (ad 0)] : List Value).toArray s 0 0 A) (F0 m 0 ls []) by rw [hH, hlocs] at hgo; exact hgo
  clear hH hlocs
  have f_wireAt := hts (.fieldLink RX0 22 "WireWays" "wireAt" "[I") (by decide +kernel)
  refine lv_iconst (v := 0) hx hb dX0_pluggedPorts_0 (by decide) ?_
  refine lv_istore_n (lv' := [(1, .int 0), (0, .ref (ad 0))]) hx hb dX0_pluggedPorts_1 rfl hl (by decide) rfl (fun ls hl => ?_)
  refine lv_iconst (v := 0) hx hb dX0_pluggedPorts_2 (by decide) ?_
  refine lv_istore_n (lv' := [(2, .int 0), (1, .int 0), (0, .ref (ad 0))]) hx hb dX0_pluggedPorts_3 rfl hl (by decide) rfl (fun ls hl => ?_)
  have lp4 : ∀ (fuel : Nat) (a : Nat) (cn : Nat), (a ≤ 40) → (cn = dm_cnt (fun a => decide (w a ≠ -1)) a) → 40 - a < fuel → ∀ (H : Heap) (locs : List Loc) (ls : Array Slot), va_P D vwCl (xw ad tt R w c k d n wp wr) H → va_D A (xw ad tt R w c k d n wp wr) → va_S A s.heap H locs → lv_has ls 3 [(2, .int (nI a)), (1, .int (nI cn)), (0, .ref (ad 0))] → W p l e (headSpec wsX0_pluggedPorts ({ frames := 1, cells := 0, slots := 0, locals := 20 } : Room)).room s m ([.ref (ad 0)] : List Value).toArray below meth cd H locs 0 0 (MQ below (va_Qi (fun v _ => v = nI (dm_cnt (fun a => decide (w a ≠ -1)) 40)) (xB D (tyX tt) A (fun _ : Unit => xw ad tt R w c k d n wp wr)) A) ([.ref (ad 0)] : List Value).toArray s 0 0 A) (F0 m 4 ls []) := by
    intro fuel
    induction fuel with
    | zero => intro a cn ha0 hcn hm; exact absurd hm (Nat.not_lt_zero _)
    | succ fuel ih4 =>
      intro a cn ha0 hcn hm H locs ls hP hD hS hl
      refine lv_iload_n hx hb dX0_pluggedPorts_4 rfl (lv_at hl 0 rfl) ?_
      refine lv_aload_n hx hb dX0_pluggedPorts_5 rfl (lv_at hl 2 rfl) ?_
      refine x0_get (v := .ref (ad 1)) S0 hin hK hP 1 (by decide) f_wireAt rfl rfl dX0_pluggedPorts_6 ?_
      refine va_alen (v := 40) hx hb hK hP 1 0 rfl rfl rfl dX0_pluggedPorts_9 ?_
      refine lv_icmp_ge (tgt := 34) hx hb dX0_pluggedPorts_10 (by decide) (fun c_1 => ?_) (fun c_1 => ?_)
      · have ha4 : 40 ≤ a := (nI_leI (a := 40) (by omega) (by omega)).mp c_1
        refine lv_iload_n hx hb dX0_pluggedPorts_34 rfl (lv_at hl 1 rfl) ?_
        exact xr_i hx hb hr hlocks () (by rw [hcn, show a = 40 by omega]) hP hK hD hS dX0_pluggedPorts_35
      · have ha4 : a < 40 := Nat.lt_of_not_le (fun h => c_1 (nI_le (a := 40) h (by omega)))
        refine lv_aload_n hx hb dX0_pluggedPorts_13 rfl (lv_at hl 2 rfl) ?_
        refine x0_get (v := .ref (ad 1)) S0 hin hK hP 1 (by decide) f_wireAt rfl rfl dX0_pluggedPorts_14 ?_
        refine lv_iload_n hx hb dX0_pluggedPorts_17 rfl (lv_at hl 0 rfl) ?_
        refine va_iald hx hb hK hP 1 0 rfl rfl (vp_in_nI (by omega) (by omega)) dX0_pluggedPorts_18 ?_
        refine xt_eq (z := w a) (congrArg w (nI_clamp (by omega))) ?_
        refine xs_Si (nA := 1) (As := [.int (w a)]) (rest := []) S0 (k_X0_isWire l D (w a)) gX0_pluggedPorts_X0_isWire rfl ⟨rfl, rfl⟩ (by decide +kernel) rfl ⟨Nat.le_of_ble_eq_true rfl, Nat.le_of_ble_eq_true rfl⟩ ⟨Nat.le_of_ble_eq_true rfl, Nat.le_of_ble_eq_true rfl⟩ hK hP hD hS hA hl.1 rfl (Nat.le_of_ble_eq_true rfl) dX0_pluggedPorts_19 (fun r_2 H locs hw hP hD hS => ?_)
        rcases hw with ⟨rfl, h_w⟩ | ⟨rfl, h_w⟩
        · refine lv_if_eq (tgt := 28) hx hb dX0_pluggedPorts_22 (by decide) (fun c_3 => absurd c_3 (by decide)) (fun c_3 => ?_)
          refine lv_iinc (v := nI (cn + 1)) (lv' := [(1, .int (nI (cn + 1))), (2, .int (nI a)), (0, .ref (ad 0))]) hx hb dX0_pluggedPorts_25 hl (k := 1) rfl (nI_1 cn) (by decide) rfl (fun ls hl => ?_)
          refine lv_iinc (v := nI (a + 1)) (lv' := [(2, .int (nI (a + 1))), (1, .int (nI (cn + 1))), (0, .ref (ad 0))]) hx hb dX0_pluggedPorts_28 hl (k := 1) rfl (nI_1 a) (by decide) rfl (fun ls hl => ?_)
          refine lv_goto (tgt := 4) hx hb dX0_pluggedPorts_31 (by decide) ?_
          exact ih4 (a + 1) (cn + 1) (by omega) (cnt_t hcn (decide_eq_true (ix_m1 h_w))) (by omega) H locs ls hP hD hS (lv_sub hl [0, 1, 2] rfl)
        · refine lv_if_eq (tgt := 28) hx hb dX0_pluggedPorts_22 (by decide) (fun c_4 => ?_) (fun c_4 => absurd c_4 (by decide))
          refine lv_iinc (v := nI (a + 1)) (lv' := [(2, .int (nI (a + 1))), (1, .int (nI cn)), (0, .ref (ad 0))]) hx hb dX0_pluggedPorts_28 hl (k := 0) rfl (nI_1 a) (by decide) rfl (fun ls hl => ?_)
          refine lv_goto (tgt := 4) hx hb dX0_pluggedPorts_31 (by decide) ?_
          exact ih4 (a + 1) cn (by omega) (cnt_f hcn (fun h => h_w ((hW a ha4).resolve_left (of_decide_eq_true h)))) (by omega) H locs ls hP hD hS (lv_sub hl [0, 1, 2] rfl)
  exact lp4 _ 0 0 (by omega) rfl (Nat.lt_succ_self _) H locs ls hP hD hS (lv_sub hl [0, 1, 2] rfl)
set_option maxHeartbeats 4000000 in
set_option maxRecDepth 100000 in
theorem k_X0_cutWires (l : Launch) (D : va_G) (ad : Nat → Nat) (tt : Nat → ClassId) (R : Nat) (w c k d n : Nat → Int32) (wp wr : Int32) : xMi l yX0_cutWires wsX0_cutWires { frames := 0, cells := 0, slots := 0, locals := 0 } D (tyX tt) [.ref (ad 0)] (xw ad tt R w c k d n wp wr) (fun _ : Unit => xw ad tt R w c k d n wp wr) (fun v _ => v = nI (dm_cnt (fun a => decide (k a ≠ 0)) 16)) := by
  refine xe_i (cc := cX0_cutWires) (maxL := 3) (ret := (some .int)) (lvl := [(0, .ref (ad 0))]) (by decide) rfl (Nat.le_of_ble_eq_true rfl) rfl ?_
  intro p e s m below meth cd A ls hx hb hr hlocks hml hown hts hA hP hK hD hS hl
  have hin : ∀ w ∈ wsX00, w ∈ wsX0_cutWires := fun _ h => List.mem_cons_of_mem _ (List.mem_append_right _ h)
  have S0 : CallFix p m cd cX0_cutWires 3 s (([.ref (ad 0)] : List Value).toArray) wsX0_cutWires RX0 := ⟨hx, hb, hml, hown, hts⟩
  obtain ⟨H, hH⟩ : ∃ H, H = s.heap := ⟨_, rfl⟩
  obtain ⟨locs, hlocs⟩ : ∃ q : List Loc, q = [] := ⟨_, rfl⟩
  have hP : va_P D vwCl (xw ad tt R w c k d n wp wr) H := by rw [hH]; exact hP
  have hS : va_S A s.heap H locs := by rw [hH, hlocs]; exact hS
  suffices hgo : W p l e (headSpec wsX0_cutWires ({ frames := 0, cells := 0, slots := 0, locals := 0 } : Room)).room s m (([.ref (ad 0)] : List Value).toArray) below meth cd H locs 0 0 (MQ below (va_Qi (fun v _ => v = nI (dm_cnt (fun a => decide (k a ≠ 0)) 16)) (xB D (tyX tt) A (fun _ : Unit => xw ad tt R w c k d n wp wr)) A) ([.ref (ad 0)] : List Value).toArray s 0 0 A) (F0 m 0 ls []) by rw [hH, hlocs] at hgo; exact hgo
  clear hH hlocs
  have f_isCut := hts (.fieldLink RX0 29 "WireWays" "isCut" "[Z") (by decide +kernel)
  refine lv_iconst (v := 0) hx hb dX0_cutWires_0 (by decide) ?_
  refine lv_istore_n (lv' := [(1, .int 0), (0, .ref (ad 0))]) hx hb dX0_cutWires_1 rfl hl (by decide) rfl (fun ls hl => ?_)
  refine lv_iconst (v := 0) hx hb dX0_cutWires_2 (by decide) ?_
  refine lv_istore_n (lv' := [(2, .int 0), (1, .int 0), (0, .ref (ad 0))]) hx hb dX0_cutWires_3 rfl hl (by decide) rfl (fun ls hl => ?_)
  have lp4 : ∀ (fuel : Nat) (a : Nat) (cn : Nat), (a ≤ 16) → (cn = dm_cnt (fun a => decide (k a ≠ 0)) a) → 16 - a < fuel → ∀ (H : Heap) (locs : List Loc) (ls : Array Slot), va_P D vwCl (xw ad tt R w c k d n wp wr) H → va_D A (xw ad tt R w c k d n wp wr) → va_S A s.heap H locs → lv_has ls 3 [(2, .int (nI a)), (1, .int (nI cn)), (0, .ref (ad 0))] → W p l e (headSpec wsX0_cutWires ({ frames := 0, cells := 0, slots := 0, locals := 0 } : Room)).room s m ([.ref (ad 0)] : List Value).toArray below meth cd H locs 0 0 (MQ below (va_Qi (fun v _ => v = nI (dm_cnt (fun a => decide (k a ≠ 0)) 16)) (xB D (tyX tt) A (fun _ : Unit => xw ad tt R w c k d n wp wr)) A) ([.ref (ad 0)] : List Value).toArray s 0 0 A) (F0 m 4 ls []) := by
    intro fuel
    induction fuel with
    | zero => intro a cn ha0 hcn hm; exact absurd hm (Nat.not_lt_zero _)
    | succ fuel ih4 =>
      intro a cn ha0 hcn hm H locs ls hP hD hS hl
      refine lv_iload_n hx hb dX0_cutWires_4 rfl (lv_at hl 0 rfl) ?_
      refine lv_bipush (v := 16) hx hb dX0_cutWires_5 (by decide) ?_
      refine lv_icmp_ge (tgt := 28) hx hb dX0_cutWires_7 (by decide) (fun c_1 => ?_) (fun c_1 => ?_)
      · have ha4 : 16 ≤ a := (nI_leI (a := 16) (by omega) (by omega)).mp c_1
        refine lv_iload_n hx hb dX0_cutWires_28 rfl (lv_at hl 1 rfl) ?_
        exact xr_i hx hb hr hlocks () (by rw [hcn, show a = 16 by omega]) hP hK hD hS dX0_cutWires_29
      · have ha4 : a < 16 := Nat.lt_of_not_le (fun h => c_1 (nI_le (a := 16) h (by omega)))
        refine lv_aload_n hx hb dX0_cutWires_10 rfl (lv_at hl 2 rfl) ?_
        refine x0_get (v := .ref (ad 3)) S0 hin hK hP 3 (by decide) f_isCut rfl rfl dX0_cutWires_11 ?_
        refine lv_iload_n hx hb dX0_cutWires_14 rfl (lv_at hl 0 rfl) ?_
        refine va_zald hx hb hK hP 3 2 rfl rfl (vp_in_nI (by omega) (by omega)) dX0_cutWires_15 ?_
        refine xt_eq (z := k a) (congrArg k (nI_clamp (by omega))) ?_
        refine lv_if_eq (tgt := 22) hx hb dX0_cutWires_16 (by decide) (fun c_2 => ?_) (fun c_2 => ?_)
        · have hk0 := c_2
          refine lv_iinc (v := nI (a + 1)) (lv' := [(2, .int (nI (a + 1))), (1, .int (nI cn)), (0, .ref (ad 0))]) hx hb dX0_cutWires_22 hl (k := 0) rfl (nI_1 a) (by decide) rfl (fun ls hl => ?_)
          refine lv_goto (tgt := 4) hx hb dX0_cutWires_25 (by decide) ?_
          exact ih4 (a + 1) cn (by omega) (cnt_f hcn (fun h => of_decide_eq_true h hk0)) (by omega) H locs ls hP hD hS (lv_sub hl [0, 1, 2] rfl)
        · have hk0 := c_2
          refine lv_iinc (v := nI (cn + 1)) (lv' := [(1, .int (nI (cn + 1))), (2, .int (nI a)), (0, .ref (ad 0))]) hx hb dX0_cutWires_19 hl (k := 1) rfl (nI_1 cn) (by decide) rfl (fun ls hl => ?_)
          refine lv_iinc (v := nI (a + 1)) (lv' := [(2, .int (nI (a + 1))), (1, .int (nI (cn + 1))), (0, .ref (ad 0))]) hx hb dX0_cutWires_22 hl (k := 1) rfl (nI_1 a) (by decide) rfl (fun ls hl => ?_)
          refine lv_goto (tgt := 4) hx hb dX0_cutWires_25 (by decide) ?_
          exact ih4 (a + 1) (cn + 1) (by omega) (cnt_t hcn (decide_eq_true hk0)) (by omega) H locs ls hP hD hS (lv_sub hl [0, 1, 2] rfl)
  exact lp4 _ 0 0 (by omega) rfl (Nat.lt_succ_self _) H locs ls hP hD hS (lv_sub hl [0, 1, 2] rfl)
set_option maxHeartbeats 4000000 in
set_option maxRecDepth 100000 in
theorem k_X0_greatestDistance (l : Launch) (D : va_G) (ad : Nat → Nat) (tt : Nat → ClassId) (R : Nat) (w c k d n : Nat → Int32) (wp wr : Int32) (hok : ww_ok R w c) : xMi l yX0_greatestDistance wsX0_greatestDistance { frames := 4, cells := 0, slots := 0, locals := 90 } D (tyX tt) [.ref (ad 0)] (xw ad tt R w c k d n wp wr) (fun u : (Nat → Int32) × (Nat → Int32) => xw ad tt R w c k u.1 u.2 wp wr) (fun v _ => v = nI (ww_mx R w c k)) := by
  refine xe_i (cc := cX0_greatestDistance) (maxL := 4) (ret := (some .int)) (lvl := [(0, .ref (ad 0))]) (by decide) rfl (Nat.le_of_ble_eq_true rfl) rfl ?_
  intro p e s m below meth cd A ls hx hb hr hlocks hml hown hts hA hP hK hD hS hl
  have hin : ∀ w ∈ wsX00, w ∈ wsX0_greatestDistance := fun _ h => List.mem_cons_of_mem _ (List.mem_append_right _ h)
  have S0 : CallFix p m cd cX0_greatestDistance 4 s (([.ref (ad 0)] : List Value).toArray) wsX0_greatestDistance RX0 := ⟨hx, hb, hml, hown, hts⟩
  obtain ⟨H, hH⟩ : ∃ H, H = s.heap := ⟨_, rfl⟩
  obtain ⟨locs, hlocs⟩ : ∃ q : List Loc, q = [] := ⟨_, rfl⟩
  have hP : va_P D vwCl (xw ad tt R w c k d n wp wr) H := by rw [hH]; exact hP
  have hS : va_S A s.heap H locs := by rw [hH, hlocs]; exact hS
  suffices hgo : W p l e (headSpec wsX0_greatestDistance ({ frames := 4, cells := 0, slots := 0, locals := 90 } : Room)).room s m (([.ref (ad 0)] : List Value).toArray) below meth cd H locs 0 0 (MQ below (va_Qi (fun v _ => v = nI (ww_mx R w c k)) (xB D (tyX tt) A (fun u : (Nat → Int32) × (Nat → Int32) => xw ad tt R w c k u.1 u.2 wp wr)) A) ([.ref (ad 0)] : List Value).toArray s 0 0 A) (F0 m 0 ls []) by rw [hH, hlocs] at hgo; exact hgo
  clear hH hlocs
  have f_routers := hts (.fieldLink RX0 18 "WireWays" "routers" "I") (by decide +kernel)
  have f_distance := hts (.fieldLink RX0 33 "WireWays" "distance" "[I") (by decide +kernel)
  have hR : R ≤ 10 := hok.2.1
  refine lv_iconst (v := 0) hx hb dX0_greatestDistance_0 (by decide) ?_
  refine lv_istore_n (lv' := [(1, .int 0), (0, .ref (ad 0))]) hx hb dX0_greatestDistance_1 rfl hl (by decide) rfl (fun ls hl => ?_)
  refine lv_iconst (v := 0) hx hb dX0_greatestDistance_2 (by decide) ?_
  refine lv_istore_n (lv' := [(2, .int 0), (1, .int 0), (0, .ref (ad 0))]) hx hb dX0_greatestDistance_3 rfl hl (by decide) rfl (fun ls hl => ?_)
  have lp4 : ∀ (fuel : Nat) (t : Nat) (g : Nat) (d1 : Nat → Int32) (n1 : Nat → Int32), (t ≤ R) → (g = mx2 (fun t => ww_T R w c k 0 t) 1000000 R t) → R - t < fuel → ∀ (H : Heap) (locs : List Loc) (ls : Array Slot), va_P D vwCl (xw ad tt R w c k d1 n1 wp wr) H → va_D A (xw ad tt R w c k d1 n1 wp wr) → va_S A s.heap H locs → lv_has ls 4 [(2, .int (nI t)), (1, .int (nI g)), (0, .ref (ad 0))] → W p l e (headSpec wsX0_greatestDistance ({ frames := 4, cells := 0, slots := 0, locals := 90 } : Room)).room s m ([.ref (ad 0)] : List Value).toArray below meth cd H locs 0 0 (MQ below (va_Qi (fun v _ => v = nI (ww_mx R w c k)) (xB D (tyX tt) A (fun u : (Nat → Int32) × (Nat → Int32) => xw ad tt R w c k u.1 u.2 wp wr)) A) ([.ref (ad 0)] : List Value).toArray s 0 0 A) (F0 m 4 ls []) := by
    intro fuel
    induction fuel with
    | zero => intro t g d1 n1 ht0 hg hm; exact absurd hm (Nat.not_lt_zero _)
    | succ fuel ih4 =>
      intro t g d1 n1 ht0 hg hm H locs ls hP hD hS hl
      refine lv_iload_n hx hb dX0_greatestDistance_4 rfl (lv_at hl 0 rfl) ?_
      refine lv_aload_n hx hb dX0_greatestDistance_5 rfl (lv_at hl 2 rfl) ?_
      refine x0_get (v := .int (nI R)) S0 hin hK hP 0 (by decide) f_routers rfl rfl dX0_greatestDistance_6 ?_
      refine lv_icmp_ge (tgt := 68) hx hb dX0_greatestDistance_9 (by decide) (fun c_1 => ?_) (fun c_1 => ?_)
      · have htR : R ≤ t := (nI_leI (by omega) (by omega)).mp c_1
        refine lv_iload_n hx hb dX0_greatestDistance_68 rfl (lv_at hl 1 rfl) ?_
        exact xr_i hx hb hr hlocks (d1, n1) (by rw [hg, show t = R by omega]; rfl) hP hK hD hS dX0_greatestDistance_69
      · have htR : t < R := Nat.lt_of_not_le (fun h => c_1 (nI_le h (by omega)))
        refine lv_aload_n hx hb dX0_greatestDistance_12 rfl (lv_at hl 2 rfl) ?_
        refine lv_iconst (v := 0) hx hb dX0_greatestDistance_13 (by decide) ?_
        refine lv_iload_n hx hb dX0_greatestDistance_14 rfl (lv_at hl 0 rfl) ?_
        refine xs_Vv (wr := []) (q0 := 0) (ci := 0) (nA := 2) (As := [.int 0, .int (nI t)]) (rest := []) S0 (k_X0_measure l D ad tt R w c k d1 n1 wp wr hok 0 t ⟨fun h => absurd rfl h, fun _ => htR⟩ (ww_T R w c k 0 t) (ww_T_ok hok k 0 t)) gX0_greatestDistance_X0_measure rfl ⟨rfl, rfl⟩ (by decide +kernel) rfl ⟨Nat.le_of_ble_eq_true rfl, Nat.le_of_ble_eq_true rfl⟩ ⟨Nat.le_of_ble_eq_true rfl, Nat.le_of_ble_eq_true rfl⟩ hK hP hD hS hA [0, 1, 2, 3, 4, 5] [] rfl rfl (by decide) (by decide) (by decide) rfl rfl rfl hl.1 rfl (Nat.le_of_ble_eq_true rfl) dX0_greatestDistance_15 (fun u1 H locs hw hP hD hS => ?_)
        have hP : va_P D vwCl (xw ad tt R w c k u1.1 u1.2 wp wr) H := hP
        have hD : va_D A (xw ad tt R w c k u1.1 u1.2 wp wr) := hD
        have hrow := hw
        refine lv_iconst (v := 0) hx hb dX0_greatestDistance_18 (by decide) ?_
        refine lv_istore_n (lv' := [(3, .int 0), (2, .int (nI t)), (1, .int (nI g)), (0, .ref (ad 0))]) hx hb dX0_greatestDistance_19 rfl hl (by decide) rfl (fun ls hl => ?_)
        have lp20 : ∀ (fuel : Nat) (a : Nat) (g1 : Nat), (a ≤ R) → (g1 = mx1 (ww_T R w c k 0 t) 1000000 a (mx2 (fun t => ww_T R w c k 0 t) 1000000 R t)) → R - a < fuel → ∀ (H : Heap) (locs : List Loc) (ls : Array Slot), va_P D vwCl (xw ad tt R w c k u1.1 u1.2 wp wr) H → va_D A (xw ad tt R w c k u1.1 u1.2 wp wr) → va_S A s.heap H locs → lv_has ls 4 [(3, .int (nI a)), (2, .int (nI t)), (1, .int (nI g1)), (0, .ref (ad 0))] → W p l e (headSpec wsX0_greatestDistance ({ frames := 4, cells := 0, slots := 0, locals := 90 } : Room)).room s m ([.ref (ad 0)] : List Value).toArray below meth cd H locs 0 0 (MQ below (va_Qi (fun v _ => v = nI (ww_mx R w c k)) (xB D (tyX tt) A (fun u : (Nat → Int32) × (Nat → Int32) => xw ad tt R w c k u.1 u.2 wp wr)) A) ([.ref (ad 0)] : List Value).toArray s 0 0 A) (F0 m 20 ls []) := by
          intro fuel
          induction fuel with
          | zero => intro a g1 ha0 hg1 hm; exact absurd hm (Nat.not_lt_zero _)
          | succ fuel ih20 =>
            intro a g1 ha0 hg1 hm H locs ls hP hD hS hl
            refine lv_iload_n hx hb dX0_greatestDistance_20 rfl (lv_at hl 0 rfl) ?_
            refine lv_aload_n hx hb dX0_greatestDistance_21 rfl (lv_at hl 3 rfl) ?_
            refine x0_get (v := .int (nI R)) S0 hin hK hP 0 (by decide) f_routers rfl rfl dX0_greatestDistance_22 ?_
            refine lv_icmp_ge (tgt := 62) hx hb dX0_greatestDistance_25 (by decide) (fun c_3 => ?_) (fun c_3 => ?_)
            · have haR : R ≤ a := (nI_leI (by omega) (by omega)).mp c_3
              refine lv_iinc (v := nI (t + 1)) (lv' := [(2, .int (nI (t + 1))), (3, .int (nI a)), (1, .int (nI g1)), (0, .ref (ad 0))]) hx hb dX0_greatestDistance_62 hl (k := 1) rfl (nI_1 t) (by decide) rfl (fun ls hl => ?_)
              refine lv_goto (tgt := 4) hx hb dX0_greatestDistance_65 (by decide) ?_
              exact ih4 (t + 1) g1 u1.1 u1.2 (by omega) (by rw [hg1, show a = R by omega]; rfl) (by omega) H locs ls hP hD hS (lv_sub hl [0, 2, 3] rfl)
            · have haR : a < R := Nat.lt_of_not_le (fun h => c_3 (nI_le h (by omega)))
              have hTle := (ww_T_ok hok k 0 t).1 a haR
              have hg9 : g1 ≤ 1000000 := by rw [hg1]; exact mx1_le (mx2_le _ _ _ t) a
              refine lv_aload_n hx hb dX0_greatestDistance_28 rfl (lv_at hl 3 rfl) ?_
              refine x0_get (v := .ref (ad 4)) S0 hin hK hP 4 (by decide) f_distance rfl rfl dX0_greatestDistance_29 ?_
              refine lv_iload_n hx hb dX0_greatestDistance_32 rfl (lv_at hl 0 rfl) ?_
              refine va_iald hx hb hK hP 4 3 rfl rfl (vp_in_nI (by omega) (by omega)) dX0_greatestDistance_33 ?_
              refine xt_eq (z := u1.1 a) (congrArg u1.1 (nI_clamp (by omega))) ?_
              refine xt_eq (z := nI (ww_T R w c k 0 t a)) (hrow a haR) ?_
              refine lv_ldc (v := 1000000) hx hb hown (hts (.constant RX0 83 1000000) (by decide +kernel)) dX0_greatestDistance_34 ?_
              refine lv_icmp_ge (tgt := 56) hx hb dX0_greatestDistance_36 (by decide) (fun c_4 => ?_) (fun c_4 => ?_)
              · have hge : 1000000 ≤ ww_T R w c k 0 t a := (nI_leI (a := 1000000) (by omega) (by omega)).mp c_4
                refine lv_iinc (v := nI (a + 1)) (lv' := [(3, .int (nI (a + 1))), (2, .int (nI t)), (1, .int (nI g1)), (0, .ref (ad 0))]) hx hb dX0_greatestDistance_56 hl (k := 0) rfl (nI_1 a) (by decide) rfl (fun ls hl => ?_)
                refine lv_goto (tgt := 20) hx hb dX0_greatestDistance_59 (by decide) ?_
                exact ih20 (a + 1) g1 (by omega) (mx1_f hg1 (by omega)) (by omega) H locs ls hP hD hS (lv_sub hl [0, 1, 2, 3] rfl)
              · have hge : ww_T R w c k 0 t a < 1000000 := Nat.lt_of_not_le (fun h => c_4 (nI_le (a := 1000000) h (by omega)))
                refine lv_aload_n hx hb dX0_greatestDistance_39 rfl (lv_at hl 3 rfl) ?_
                refine x0_get (v := .ref (ad 4)) S0 hin hK hP 4 (by decide) f_distance rfl rfl dX0_greatestDistance_40 ?_
                refine lv_iload_n hx hb dX0_greatestDistance_43 rfl (lv_at hl 0 rfl) ?_
                refine va_iald hx hb hK hP 4 3 rfl rfl (vp_in_nI (by omega) (by omega)) dX0_greatestDistance_44 ?_
                refine xt_eq (z := u1.1 a) (congrArg u1.1 (nI_clamp (by omega))) ?_
                refine xt_eq (z := nI (ww_T R w c k 0 t a)) (hrow a haR) ?_
                refine lv_iload_n hx hb dX0_greatestDistance_45 rfl (lv_at hl 2 rfl) ?_
                refine lv_icmp_le (tgt := 56) hx hb dX0_greatestDistance_46 (by decide) (fun c_5 => ?_) (fun c_5 => ?_)
                · have hle : ww_T R w c k 0 t a ≤ g1 := (nI_leI (by omega) (by omega)).mp c_5
                  refine lv_iinc (v := nI (a + 1)) (lv' := [(3, .int (nI (a + 1))), (2, .int (nI t)), (1, .int (nI g1)), (0, .ref (ad 0))]) hx hb dX0_greatestDistance_56 hl (k := 0) rfl (nI_1 a) (by decide) rfl (fun ls hl => ?_)
                  refine lv_goto (tgt := 20) hx hb dX0_greatestDistance_59 (by decide) ?_
                  exact ih20 (a + 1) g1 (by omega) (mx1_f hg1 (by omega)) (by omega) H locs ls hP hD hS (lv_sub hl [0, 1, 2, 3] rfl)
                · have hle : g1 < ww_T R w c k 0 t a := Nat.lt_of_not_le (fun h => c_5 (nI_le h (by omega)))
                  refine lv_aload_n hx hb dX0_greatestDistance_49 rfl (lv_at hl 3 rfl) ?_
                  refine x0_get (v := .ref (ad 4)) S0 hin hK hP 4 (by decide) f_distance rfl rfl dX0_greatestDistance_50 ?_
                  refine lv_iload_n hx hb dX0_greatestDistance_53 rfl (lv_at hl 0 rfl) ?_
                  refine va_iald hx hb hK hP 4 3 rfl rfl (vp_in_nI (by omega) (by omega)) dX0_greatestDistance_54 ?_
                  refine xt_eq (z := u1.1 a) (congrArg u1.1 (nI_clamp (by omega))) ?_
                  refine xt_eq (z := nI (ww_T R w c k 0 t a)) (hrow a haR) ?_
                  refine lv_istore_n (lv' := [(1, .int (nI (ww_T R w c k 0 t a))), (3, .int (nI a)), (2, .int (nI t)), (0, .ref (ad 0))]) hx hb dX0_greatestDistance_55 rfl hl (by decide) rfl (fun ls hl => ?_)
                  refine lv_iinc (v := nI (a + 1)) (lv' := [(3, .int (nI (a + 1))), (1, .int (nI (ww_T R w c k 0 t a))), (2, .int (nI t)), (0, .ref (ad 0))]) hx hb dX0_greatestDistance_56 hl (k := 1) rfl (nI_1 a) (by decide) rfl (fun ls hl => ?_)
                  refine lv_goto (tgt := 20) hx hb dX0_greatestDistance_59 (by decide) ?_
                  exact ih20 (a + 1) (ww_T R w c k 0 t a) (by omega) (mx1_t hg1 hge hle) (by omega) H locs ls hP hD hS (lv_sub hl [0, 2, 1, 3] rfl)
        exact lp20 _ 0 g (by omega) hg (Nat.lt_succ_self _) H locs ls hP hD hS (lv_sub hl [0, 1, 2, 3] rfl)
  exact lp4 _ 0 0 d n (by omega) rfl (Nat.lt_succ_self _) H locs ls hP hD hS (lv_sub hl [0, 1, 2] rfl)
set_option maxHeartbeats 4000000 in
set_option maxRecDepth 100000 in
theorem k_X0_count (l : Launch) (D : va_G) (ad : Nat → Nat) (tt : Nat → ClassId) (R : Nat) (w c k d n : Nat → Int32) (wp wr : Int32) (hok : ww_ok R w c) (x : Int32) : xMi l yX0_count wsX0_count { frames := 5, cells := 0, slots := 0, locals := 113 } D (tyX tt) [.ref (ad 0), .int x] (xw ad tt R w c k d n wp wr) (fun u : (Nat → Int32) × (Nat → Int32) => xw ad tt R w c k u.1 u.2 wp wr) (fun v _ => ct_ok R w c k x v) := by
  refine xe_i (cc := cX0_count) (maxL := 2) (ret := (some .int)) (lvl := [(0, .ref (ad 0)), (1, .int x)]) (by decide) rfl (Nat.le_of_ble_eq_true rfl) rfl ?_
  intro p e s m below meth cd A ls hx hb hr hlocks hml hown hts hA hP hK hD hS hl
  have hin : ∀ w ∈ wsX00, w ∈ wsX0_count := fun _ h => List.mem_cons_of_mem _ (List.mem_append_right _ h)
  have S0 : CallFix p m cd cX0_count 2 s (([.ref (ad 0), .int x] : List Value).toArray) wsX0_count RX0 := ⟨hx, hb, hml, hown, hts⟩
  obtain ⟨H, hH⟩ : ∃ H, H = s.heap := ⟨_, rfl⟩
  obtain ⟨locs, hlocs⟩ : ∃ q : List Loc, q = [] := ⟨_, rfl⟩
  have hP : va_P D vwCl (xw ad tt R w c k d n wp wr) H := by rw [hH]; exact hP
  have hS : va_S A s.heap H locs := by rw [hH, hlocs]; exact hS
  suffices hgo : W p l e (headSpec wsX0_count ({ frames := 5, cells := 0, slots := 0, locals := 113 } : Room)).room s m (([.ref (ad 0), .int x] : List Value).toArray) below meth cd H locs 0 0 (MQ below (va_Qi (fun v _ => ct_ok R w c k x v) (xB D (tyX tt) A (fun u : (Nat → Int32) × (Nat → Int32) => xw ad tt R w c k u.1 u.2 wp wr)) A) ([.ref (ad 0), .int x] : List Value).toArray s 0 0 A) (F0 m 0 ls []) by rw [hH, hlocs] at hgo; exact hgo
  clear hH hlocs
  have f_routers := hts (.fieldLink RX0 18 "WireWays" "routers" "I") (by decide +kernel)
  have hR : R ≤ 10 := hok.2.1
  refine lv_iload_n hx hb dX0_count_0 rfl (lv_at hl 1 rfl) ?_
  by_cases h0 : x = 0
  · subst h0
    refine lv_tableIn (off := 31) (tgt := 32) hx hb dX0_count_1 (by decide) (by decide) rfl (by decide) ?_
    refine lv_aload_n hx hb dX0_count_32 rfl (lv_at hl 0 rfl) ?_
    refine x0_get (v := .int (nI R)) S0 hin hK hP 0 (by decide) f_routers rfl rfl dX0_count_33 ?_
    exact xr_i hx hb hr hlocks (d, n) (Or.inl ⟨rfl, rfl⟩) hP hK hD hS dX0_count_36
  by_cases h1 : x = 1
  · subst h1
    refine lv_tableIn (off := 36) (tgt := 37) hx hb dX0_count_1 (by decide) (by decide) rfl (by decide) ?_
    refine lv_aload_n hx hb dX0_count_37 rfl (lv_at hl 0 rfl) ?_
    refine xs_Vi (wr := []) (q0 := 0) (ci := 0) (nA := 0) (As := []) (rest := []) S0 (k_X0_pluggedPorts l D ad tt R w c k d n wp wr hok.2.2.1) gX0_count_X0_pluggedPorts rfl ⟨rfl, rfl⟩ (by decide +kernel) rfl ⟨Nat.le_of_ble_eq_true rfl, Nat.le_of_ble_eq_true rfl⟩ ⟨Nat.le_of_ble_eq_true rfl, Nat.le_of_ble_eq_true rfl⟩ hK hP hD hS hA [0, 1, 2, 3, 4, 5] [] rfl rfl (by decide) (by decide) (by decide) rfl rfl rfl hl.1 rfl (Nat.le_of_ble_eq_true rfl) dX0_count_38 (fun r_1 u1 H locs hw hP hD hS => ?_)
    have hP : va_P D vwCl (xw ad tt R w c k d n wp wr) H := hP
    have hD : va_D A (xw ad tt R w c k d n wp wr) := hD
    subst hw
    exact xr_i hx hb hr hlocks (d, n) (Or.inr (Or.inl ⟨rfl, rfl⟩)) hP hK hD hS dX0_count_41
  by_cases h2 : x = 2
  · subst h2
    refine lv_tableIn (off := 41) (tgt := 42) hx hb dX0_count_1 (by decide) (by decide) rfl (by decide) ?_
    refine lv_aload_n hx hb dX0_count_42 rfl (lv_at hl 0 rfl) ?_
    refine xs_Vi (wr := []) (q0 := 0) (ci := 0) (nA := 0) (As := []) (rest := []) S0 (k_X0_cutWires l D ad tt R w c k d n wp wr) gX0_count_X0_cutWires rfl ⟨rfl, rfl⟩ (by decide +kernel) rfl ⟨Nat.le_of_ble_eq_true rfl, Nat.le_of_ble_eq_true rfl⟩ ⟨Nat.le_of_ble_eq_true rfl, Nat.le_of_ble_eq_true rfl⟩ hK hP hD hS hA [0, 1, 2, 3, 4, 5] [] rfl rfl (by decide) (by decide) (by decide) rfl rfl rfl hl.1 rfl (Nat.le_of_ble_eq_true rfl) dX0_count_43 (fun r_2 u1 H locs hw hP hD hS => ?_)
    have hP : va_P D vwCl (xw ad tt R w c k d n wp wr) H := hP
    have hD : va_D A (xw ad tt R w c k d n wp wr) := hD
    subst hw
    exact xr_i hx hb hr hlocks (d, n) (Or.inr (Or.inr (Or.inl ⟨rfl, rfl⟩))) hP hK hD hS dX0_count_46
  by_cases h3 : x = 3
  · subst h3
    refine lv_tableIn (off := 46) (tgt := 47) hx hb dX0_count_1 (by decide) (by decide) rfl (by decide) ?_
    refine lv_aload_n hx hb dX0_count_47 rfl (lv_at hl 0 rfl) ?_
    refine xs_Vi (wr := []) (q0 := 0) (ci := 0) (nA := 0) (As := []) (rest := []) S0 (k_X0_greatestDistance l D ad tt R w c k d n wp wr hok) gX0_count_X0_greatestDistance rfl ⟨rfl, rfl⟩ (by decide +kernel) rfl ⟨Nat.le_of_ble_eq_true rfl, Nat.le_of_ble_eq_true rfl⟩ ⟨Nat.le_of_ble_eq_true rfl, Nat.le_of_ble_eq_true rfl⟩ hK hP hD hS hA [0, 1, 2, 3, 4, 5] [] rfl rfl (by decide) (by decide) (by decide) rfl rfl rfl hl.1 rfl (Nat.le_of_ble_eq_true rfl) dX0_count_48 (fun r_3 u1 H locs hw hP hD hS => ?_)
    have hP : va_P D vwCl (xw ad tt R w c k u1.1 u1.2 wp wr) H := hP
    have hD : va_D A (xw ad tt R w c k u1.1 u1.2 wp wr) := hD
    subst hw
    exact xr_i hx hb hr hlocks (u1.1, u1.2) (Or.inr (Or.inr (Or.inr (Or.inl ⟨rfl, rfl⟩)))) hP hK hD hS dX0_count_51
  refine lv_tableOut (tgt := 52) hx hb dX0_count_1 (tb4 h0 h1 h2 h3) (by decide) ?_
  refine lv_iconst (v := (-1)) hx hb dX0_count_52 (by decide) ?_
  exact xr_i hx hb hr hlocks (d, n) (Or.inr (Or.inr (Or.inr (Or.inr ⟨h0, h1, h2, h3, rfl⟩)))) hP hK hD hS dX0_count_53
end
section
/-! The reference's own rows. -/
section
variable {R p q p' q' κ : Nat}
theorem pr_lt (hp : p < 4) (hq : q < R) : p * R + q < 4 * R := by
  have : p * R ≤ 3 * R := Nat.mul_le_mul_right R (by omega)
  omega
theorem pr_div (hq : q < R) : (p * R + q) / R = p := by
  rw [Nat.mul_comm, Nat.mul_add_div (by omega), Nat.div_eq_of_lt hq]
  rfl
theorem pr_mod (hq : q < R) : (p * R + q) % R = q := by
  rw [Nat.mul_comm, Nat.mul_add_mod]
  exact Nat.mod_eq_of_lt hq
theorem pr_of (κ : Nat) (hR : 0 < R) : κ / R * R + κ % R = κ := by
  rw [Nat.mul_comm]
  exact Nat.div_add_mod κ R
theorem pr_4 (h : κ < 4 * R) : κ / R < 4 := Nat.div_lt_of_lt_mul (by rw [Nat.mul_comm]; exact h)
theorem pr_lex (hq : q < R) (hq' : q' < R) (h : p * R + q < p' * R + q') : p < p' ∨ (p = p' ∧ q < q') := by
  rcases Nat.lt_trichotomy p p' with z | z | z
  · exact Or.inl z
  · subst z
    exact Or.inr ⟨rfl, by omega⟩
  · exfalso
    have : (p' + 1) * R ≤ p * R := Nat.mul_le_mul_right R z
    rw [Nat.add_mul] at this
    omega
end
/-- what by answers: the sum, or 100000 -/
def by_ok (R : Nat) (w c k : Nat → Int32) (dn : Nat → Nat) (r p q dv : Nat) : Prop := (ww_E R w k r p q ∧ dn q < 100000 ∧ dv = ww_c c r p + dn q) ∨ (¬ (ww_E R w k r p q ∧ dn q < 100000) ∧ dv = 100000)
section
variable {R : Nat} {w c k : Nat → Int32} {dn dm Tm : Nat → Nat} {tg : Nat → Prop} {r p q x dv κ b : Nat}
theorem by_x (hx : x < 16) (ex : w (4 * r + p) = nI x) (h : ww_E R w k r p q) : k x = 0 ∧ q ≠ r ∧ ww_on w q (w (4 * r + p)) := by
  obtain ⟨-, -, h1, h2, y, hy, ey, hk, h3⟩ := h
  have : x = y := (nI_eq (by omega) (by omega)).mp (ex.symm.trans ey)
  subst this
  exact ⟨hk, h2, by rw [ex]; exact h3⟩
theorem by_m1 (e : w (4 * r + p) = -1) (h : ww_E R w k r p q) : False := by
  obtain ⟨-, -, h1, h2, y, hy, ey, hk, h3⟩ := h
  exact nI_m1 (by omega) (ey.symm.trans e)
theorem by_le (hok : ww_ok R w c) (h : by_ok R w c k dn r p q dv) : dv ≤ 100009 := by
  rcases h with ⟨h1, h2, h3⟩ | ⟨h1, h2⟩
  · have := ww_gr hok r p q h1
    omega
  · omega
/-- one pass so far: nothing has come down and all pairs that V names hold, or something has -/
def rk_in (R : Nat) (w c k : Nat → Int32) (dn dm : Nat → Nat) (b : Nat) (V : Nat → Nat → Nat → Prop) : Prop := (b = 0 ∧ (∀ a, a < R → dm a = dn a) ∧ ∀ a p q, a < R → V a p q → ww_E R w k a p q → dn a ≤ ww_c c a p + dn q) ∨ (b = 1 ∧ dm_sum dm R < dm_sum dn R)
/-- the row: never too small, at most 100000, 0 at the aim -/
def rk_row (R : Nat) (tg : Nat → Prop) (Tm : Nat → Nat) (d : Nat → Int32) (dm : Nat → Nat) : Prop := (∀ a, a < R → d a = nI (dm a) ∧ dm a ≤ 100000) ∧ (∀ a, a < R → Tm a ≤ dm a) ∧ (∀ a, a < R → tg a → dm a = 0)
theorem rk_V {V V' : Nat → Nat → Nat → Prop} (h : rk_in R w c k dn dm b V) (hV : ∀ a p q, a < R → p < 4 → q < R → V' a p q → V a p q) : rk_in R w c k dn dm b V' := h.imp (fun h => ⟨h.1, h.2.1, fun a p q ha hv hE => h.2.2 a p q ha (hV a p q ha hE.2.1 hE.2.2.1 hv) hE⟩) id
theorem rk_same {d : Nat → Int32} (h : rk_row R tg Tm d dm) (hr : r < R) : rk_row R tg Tm (upd d r (nI (dm r))) dm := by
  refine ⟨fun a ha => ?_, h.2⟩
  by_cases e : a = r
  · subst e
    rw [pk_us]
    exact ⟨rfl, (h.1 a ha).2⟩
  · rw [pk_un e]
    exact h.1 a ha
theorem rk_put {d : Nat → Int32} (hok : ww_ok R w c) (hT : dm_ok R tg (ww_E R w k) (ww_c c) 100000 Tm) (h : rk_row R tg Tm d dm) (hr : r < R) (hb : by_ok R w c k dm r p q dv) (hlt : dv < dm r) : rk_row R tg Tm (upd d r (nI dv)) (nup dm r dv) := by
  have h9 := (h.1 r hr).2
  refine ⟨fun a ha => ?_, fun a ha => ?_, fun a ha ht => ?_⟩
  · by_cases e : a = r
    · subst e
      rw [pk_us, nup_s]
      exact ⟨rfl, by omega⟩
    · rw [pk_un e, nup_n e]
      exact h.1 a ha
  · by_cases e : a = r
    · subst e
      rw [nup_s]
      rcases hb with ⟨h1, h2, h3⟩ | ⟨h1, h2⟩
      · have g1 := hT.2.2.1 a p q ha h1
        have g2 := h.2.1 q h1.2.2.1
        omega
      · omega
    · rw [nup_n e]
      exact h.2.1 a ha
  · by_cases e : a = r
    · subst e
      have := h.2.2 a ha ht
      omega
    · rw [nup_n e]
      exact h.2.2 a ha ht
/-- the pair that stands at place κ holds -/
theorem rk_keep (hR : 0 < R) (h : rk_in R w c k dn dm b (fun a p q => a < r ∨ (a = r ∧ p * R + q < κ))) (hr : r < R) (hK : ∀ a, a < R → dm a ≤ 100000) (hb : by_ok R w c k dm r (κ / R) (κ % R) dv) (hle : dm r ≤ dv) : rk_in R w c k dn dm b (fun a p q => a < r ∨ (a = r ∧ p * R + q < κ + 1)) := by
  rcases h with ⟨h1, h2, h3⟩ | h
  · refine Or.inl ⟨h1, h2, fun a p q ha hv hE => ?_⟩
    by_cases e : a = r ∧ p * R + q = κ
    · obtain ⟨rfl, e⟩ := e
      have hq := hE.2.2.1
      have e1 : κ / R = p := by rw [← e]; exact pr_div hq
      have e2 : κ % R = q := by rw [← e]; exact pr_mod hq
      rw [e1, e2] at hb
      have k1 := h2 a ha
      have k2 := h2 q hq
      have k3 := hK a ha
      rcases hb with ⟨-, g2, g3⟩ | ⟨g1, g2⟩
      · omega
      · have : ¬ dm q < 100000 := fun h => g1 ⟨hE, h⟩
        omega
    · exact h3 a p q ha (by omega) hE
  · exact Or.inr h
theorem rk_less (h : rk_in R w c k dn dm b (fun a p q => a < r ∨ (a = r ∧ p * R + q < κ))) (hr : r < R) (hlt : dv < dm r) (V : Nat → Nat → Nat → Prop) : rk_in R w c k dn (nup dm r dv) 1 V := by
  have h0 : dm_sum dm R ≤ dm_sum dn R := by
    rcases h with ⟨h1, h2, h3⟩ | h
    · exact dm_sum_le (fun a ha => Nat.le_of_eq (h2 a ha))
    · exact Nat.le_of_lt h.2
  refine Or.inr ⟨rfl, Nat.lt_of_lt_of_le (dm_sum_lt hr (fun a _ => ?_) (by rw [nup_s]; exact hlt)) h0⟩
  by_cases e : a = r
  · subst e
    rw [nup_s]
    omega
  · rw [nup_n e]
    exact Nat.le_refl _
theorem rk_fix {d : Nat → Int32} (hok : ww_ok R w c) (hT : dm_ok R tg (ww_E R w k) (ww_c c) 100000 Tm) (h : rk_row R tg Tm d dm) (hi : rk_in R w c k dn dm 0 (fun _ _ _ => True)) : ∀ a, a < R → dm a = Tm a := by
  rcases hi with ⟨-, h2, h3⟩ | ⟨h, -⟩
  · intro a ha
    refine dm_fix (ww_gr hok) hT h.2.1 (fun a ha => (h.1 a ha).2) h.2.2 (fun a p q ha hE => ?_) (Tm a) a ha rfl
    rw [h2 a ha, h2 q hE.2.2.1]
    exact h3 a p q ha trivial hE
  · exact absurd h (by decide)
theorem rk_init {d : Nat → Int32} (hT : dm_ok R tg (ww_E R w k) (ww_c c) 100000 Tm) (h : ∀ a, a < R → (tg a → d a = nI 0) ∧ (¬ tg a → d a = nI 100000)) : ∃ dn, rk_row R tg Tm d dn := by
  obtain ⟨dn, h1, h2, h3⟩ := me_init hT h
  exact ⟨dn, h1, h2, h3⟩
end
/-- the way among the pairs below place κ -/
def cw_in (R : Nat) (E : Nat → Nat → Nat → Prop) (cs : Nat → Nat → Nat) (K : Nat) (T : Nat → Nat) (r κ lt : Nat) (p1 q1 : Int32) : Prop :=
  (lt = K ∧ p1 = -1 ∧ q1 = -1 ∧ ∀ p b, p * R + b < κ → E r p b → ¬ T b < K) ∨ ∃ p b, p * R + b < κ ∧ p1 = nI p ∧ q1 = nI b ∧ E r p b ∧ T b < K ∧ lt = cs r p + T b ∧ ∀ p' b', p' * R + b' < κ → E r p' b' → T b' < K → lt < cs r p' + T b' ∨ (lt = cs r p' + T b' ∧ (p < p' ∨ (p = p' ∧ b ≤ b')))
section
variable {R : Nat} {w c k : Nat → Int32} {T : Nat → Nat} {r κ lt dv : Nat} {p1 q1 : Int32}
theorem cw_0 {E : Nat → Nat → Nat → Prop} {cs : Nat → Nat → Nat} {K : Nat} : cw_in R E cs K T r 0 K (-1) (-1) := Or.inl ⟨rfl, rfl, rfl, fun p b h => absurd h (Nat.not_lt_zero _)⟩
theorem cw_skip (h : cw_in R (ww_E R w k) (ww_c c) 100000 T r κ lt p1 q1) (hb : by_ok R w c k T r (κ / R) (κ % R) dv) (hs : ∀ b, b < R → T b < 100000 → T b ≤ 90) (hok : ww_ok R w c) (hle : lt ≤ dv) : cw_in R (ww_E R w k) (ww_c c) 100000 T r (κ + 1) lt p1 q1 := by
  rcases h with ⟨h1, h2, h3, h4⟩ | ⟨p, b, h1, h2, h3, h4, h5, h6, h7⟩
  · refine Or.inl ⟨h1, h2, h3, fun p b hp hE hk => ?_⟩
    by_cases e : p * R + b = κ
    · have hq := hE.2.2.1
      have e1 : κ / R = p := by rw [← e]; exact pr_div hq
      have e2 : κ % R = b := by rw [← e]; exact pr_mod hq
      rw [e1, e2] at hb
      have := hs b hq hk
      have g := ww_gr hok r p b hE
      rcases hb with ⟨-, g2, g3⟩ | ⟨g1, g2⟩
      · omega
      · exact g1 ⟨hE, hk⟩
    · exact h4 p b (by omega) hE hk
  · refine Or.inr ⟨p, b, by omega, h2, h3, h4, h5, h6, fun p' b' hp' hE' hk' => ?_⟩
    by_cases e : p' * R + b' = κ
    · have hq := hE'.2.2.1
      have e1 : κ / R = p' := by rw [← e]; exact pr_div hq
      have e2 : κ % R = b' := by rw [← e]; exact pr_mod hq
      rw [e1, e2] at hb
      rcases hb with ⟨-, g2, g3⟩ | ⟨g1, g2⟩
      · have hx := pr_lex h4.2.2.1 hq (by omega : p * R + b < p' * R + b')
        omega
      · exact absurd ⟨hE', hk'⟩ g1
    · exact h7 p' b' (by omega) hE' hk'
theorem cw_put (h : cw_in R (ww_E R w k) (ww_c c) 100000 T r κ lt p1 q1) (hb : by_ok R w c k T r (κ / R) (κ % R) dv) (hR : 0 < R) (hlK : lt ≤ 100000) (hlt : dv < lt) : cw_in R (ww_E R w k) (ww_c c) 100000 T r (κ + 1) dv (nI (κ / R)) (nI (κ % R)) := by
  rcases hb with ⟨hE, hk, e⟩ | ⟨g1, g2⟩
  · have ek := pr_of κ hR
    refine Or.inr ⟨κ / R, κ % R, by omega, rfl, rfl, hE, hk, e, fun p' b' hp' hE' hk' => ?_⟩
    by_cases e9 : p' * R + b' = κ
    · have hq := hE'.2.2.1
      have e1 : κ / R = p' := by rw [← e9]; exact pr_div hq
      have e2 : κ % R = b' := by rw [← e9]; exact pr_mod hq
      rw [e1, e2] at e
      rw [e1, e2]
      exact Or.inr ⟨e, Or.inr ⟨rfl, Nat.le_refl _⟩⟩
    · rcases h with ⟨h1, h2, h3, h4⟩ | ⟨p, b, h1, h2, h3, h4, h5, h6, h7⟩
      · exact absurd hk' (h4 p' b' (by omega) hE')
      · have := h7 p' b' (by omega) hE' hk'
        omega
  · omega
theorem cw_way (h : cw_in R (ww_E R w k) (ww_c c) 100000 T r κ lt p1 q1) (hk : 4 * R ≤ κ) (hex : ∃ p b, ww_E R w k r p b ∧ T b < 100000) : ∃ p b, p1 = nI p ∧ q1 = nI b ∧ dm_way (ww_E R w k) (ww_c c) 100000 T r p b := by
  have hin : ∀ p b, ww_E R w k r p b → p * R + b < κ := fun p b hE => by
    have := pr_lt hE.2.1 hE.2.2.1
    omega
  rcases h with ⟨h1, h2, h3, h4⟩ | ⟨p, b, h1, h2, h3, h4, h5, h6, h7⟩
  · obtain ⟨p, b, he, hb⟩ := hex
    exact absurd hb (h4 p b (hin p b he) he)
  · exact ⟨p, b, h2, h3, h4, h5, fun p' b' he hb => by
      have := h7 p' b' (hin p' b' he) he hb
      omega⟩
end
/-- the same distances, with 100000 for none -/
noncomputable def ww_M (R : Nat) (w c k : Nat → Int32) (ov : Int32) (t : Nat) : Nat → Nat := fun a => if ww_T R w c k ov t a < 1000000 then ww_T R w c k ov t a else 100000
section
variable {R : Nat} {w c k : Nat → Int32} {ov : Int32} {t : Nat}
theorem ww_M_lt (hok : ww_ok R w c) {a : Nat} (ha : a < R) : ww_T R w c k ov t a < 1000000 → ww_T R w c k ov t a ≤ 90 := fun h => by
  have h1 := dm_small (ww_gr hok) (ww_T_ok hok k ov t) ha h
  have h2 := hok.2.1
  omega
theorem ww_M_1 {a : Nat} (h : ww_T R w c k ov t a < 1000000) : ww_M R w c k ov t a = ww_T R w c k ov t a := if_pos h
theorem ww_M_0 {a : Nat} (h : ¬ ww_T R w c k ov t a < 1000000) : ww_M R w c k ov t a = 100000 := if_neg h
theorem ww_M_iff (hok : ww_ok R w c) {a : Nat} (ha : a < R) : ww_M R w c k ov t a < 100000 ↔ ww_T R w c k ov t a < 1000000 := by
  by_cases h : ww_T R w c k ov t a < 1000000
  · rw [ww_M_1 h]
    have := ww_M_lt hok ha h
    omega
  · rw [ww_M_0 h]
    omega
theorem ww_M_ok (hok : ww_ok R w c) (k : Nat → Int32) (ov : Int32) (t : Nat) : dm_ok R (ww_tg w k ov t) (ww_E R w k) (ww_c c) 100000 (ww_M R w c k ov t) := by
  have hT := ww_T_ok hok k ov t
  refine ⟨fun r hr => ?_, fun r hr ht => ?_, fun r p q hr hE => ?_, fun r hr ht hk => ?_⟩
  · by_cases h : ww_T R w c k ov t r < 1000000
    · rw [ww_M_1 h]
      have := ww_M_lt hok hr h
      omega
    · rw [ww_M_0 h]
      exact Nat.le_refl _
  · have h0 := hT.2.1 r hr ht
    rw [ww_M_1 (by omega), h0]
  · have h1 := hT.2.2.1 r p q hr hE
    have hg := ww_gr hok r p q hE
    by_cases hq : ww_T R w c k ov t q < 1000000
    · have h2 := ww_M_lt hok hE.2.2.1 hq
      rw [ww_M_1 hq, ww_M_1 (by omega)]
      exact h1
    · rw [ww_M_0 hq]
      by_cases h : ww_T R w c k ov t r < 1000000
      · rw [ww_M_1 h]
        have := ww_M_lt hok hr h
        omega
      · rw [ww_M_0 h]
        omega
  · have hk' := (ww_M_iff hok hr).mp hk
    obtain ⟨p, q, hE, e⟩ := hT.2.2.2 r hr ht hk'
    refine ⟨p, q, hE, ?_⟩
    rw [ww_M_1 hk', ww_M_1 (by omega)]
    exact e
/-- the way is the same -/
theorem ww_M_way (hok : ww_ok R w c) {r p b : Nat} (h : dm_way (ww_E R w k) (ww_c c) 100000 (ww_M R w c k ov t) r p b) : dm_way (ww_E R w k) (ww_c c) 1000000 (ww_T R w c k ov t) r p b := by
  obtain ⟨h1, h2, h3⟩ := h
  have h2' := (ww_M_iff hok h1.2.2.1).mp h2
  rw [ww_M_1 h2'] at h3
  refine ⟨h1, h2', fun p' b' hE hk => ?_⟩
  have := h3 p' b' hE ((ww_M_iff hok hE.2.2.1).mpr hk)
  rw [ww_M_1 hk] at this
  exact this
theorem ww_M_fw (hok : ww_ok R w c) {r : Nat} {p1 q1 : Int32} (h : fw_ok R w c k ov t 100000 (ww_M R w c k ov t) r p1 q1) : fw_ok R w c k ov t 1000000 (ww_T R w c k ov t) r p1 q1 := by
  refine ⟨h.1, fun htg => ?_⟩
  obtain ⟨p, b, h1, h2, h3⟩ := h.2 htg
  exact ⟨p, b, h1, h2, ww_M_way hok h3⟩
/-- one can come there and back -/
theorem ww_back (hok : ww_ok R w c) {q r p : Nat} (hE : ww_E R w k q p r) : ∀ n x, x < R → ww_T R w c k 0 q x = n → n < 1000000 → ww_T R w c k 0 r x < 1000000 := by
  intro n
  induction n using Nat.strongRecOn with
  | ind n ih =>
    intro x hx hn hk
    have hT := ww_T_ok hok k 0 q
    have hr := ww_T_ok hok k 0 r
    have hqR := hE.1
    have hgE := ww_gr hok q p r hE
    by_cases htg : ww_tg w k 0 q x
    · have e : x = q := htg.2 rfl
      subst e
      have h1 := hr.2.2.1 x p r hx hE
      have h2 := hr.2.1 r hE.2.2.1 ⟨fun h => absurd rfl h, fun _ => rfl⟩
      omega
    · obtain ⟨p', y, hE', e⟩ := hT.2.2.2 x hx htg (by omega)
      have hg := ww_gr hok x p' y hE'
      have h1 := ih (ww_T R w c k 0 q y) (by omega) y hE'.2.2.1 rfl (by omega)
      have h2 := ww_M_lt (k := k) (ov := 0) (t := r) hok hE'.2.2.1 h1
      have h3 := hr.2.2.1 x p' y hx hE'
      omega
theorem ww_sym1 (hok : ww_ok R w c) {t : Nat} (ht : t < R) : ∀ n r, r < R → ww_T R w c k 0 t r = n → n < 1000000 → ww_T R w c k 0 r t < 1000000 := by
  intro n
  induction n using Nat.strongRecOn with
  | ind n ih =>
    intro r hr hn hk
    have hT := ww_T_ok hok k 0 t
    by_cases htg : ww_tg w k 0 t r
    · have e : r = t := htg.2 rfl
      subst e
      omega
    · obtain ⟨p, q, hE, e⟩ := hT.2.2.2 r hr htg (by omega)
      have hg := ww_gr hok r p q hE
      have h1 := ih (ww_T R w c k 0 t q) (by omega) q hE.2.2.1 rfl (by omega)
      obtain ⟨g1, g2, g3, g4, x, gx, ex, gk, p', gp', ep'⟩ := hE
      exact ww_back hok (q := q) (r := r) (p := p') ⟨g3, gp', hr, fun h => g4 h.symm, x, gx, ep', gk, p, g2, ex⟩ _ t ht rfl h1
theorem ww_sym (hok : ww_ok R w c) {r t : Nat} (hr : r < R) (ht : t < R) : ww_T R w c k 0 t r < 1000000 ↔ ww_T R w c k 0 r t < 1000000 := ⟨fun h => ww_sym1 hok ht _ r hr rfl h, fun h => ww_sym1 hok hr _ t ht rfl h⟩
end
end
section
section
variable {R : Nat} {w c k : Nat → Int32} {dn dm Tm : Nat → Nat} {tg : Nat → Prop} {r b : Nat} {V : Nat → Nat → Nat → Prop}
theorem rk_b1 (h : rk_in R w c k dn dm b V) (hn : ¬ b = 0) : b = 1 := by
  rcases h with h | h
  · exact absurd h.1 hn
  · exact h.1
theorem rk_b2 (h : rk_in R w c k dn dm b V) : b ≤ 1 := by
  rcases h with h | h <;> omega
theorem rk_b0 {d : Nat → Int32} (hok : ww_ok R w c) (hT : dm_ok R tg (ww_E R w k) (ww_c c) 100000 Tm) (h : rk_row R tg Tm d dm) (hi : rk_in R w c k dn dm b (fun a _ _ => a < r)) (hr : R ≤ r) : (b = 0 ∧ ∀ a, a < R → dm a = Tm a) ∨ b = 1 := by
  by_cases hb : b = 0
  · subst hb
    exact Or.inl ⟨rfl, rk_fix hok hT h (rk_V hi (fun a p q ha _ _ _ => by omega))⟩
  · exact Or.inr (rk_b1 hi hb)
theorem rk_mu {fuel : Nat} (hi : rk_in R w c k dn dm b V) (hm : 2 * dm_sum dn R + 1 < fuel + 1) : 2 * dm_sum dm R + b < fuel := by
  rcases hi with ⟨h1, h2, h3⟩ | ⟨h1, h2⟩
  · have : dm_sum dm R ≤ dm_sum dn R := dm_sum_le (fun a ha => Nat.le_of_eq (h2 a ha))
    omega
  · omega
end
end
section
set_option maxHeartbeats 4000000 in
set_option maxRecDepth 100000 in
theorem k_X1_isAt (l : Launch) (D : va_G) (ad : Nat → Nat) (tt : Nat → ClassId) (R : Nat) (w c k d : Nat → Int32) (wp wr : Int32) (r : Nat) (ov : Int32) (t : Nat) (hr10 : r < 10) (ht : ov ≠ 0 → t < 16) (ht2 : t < 16) : xMi l yX1_isAt wsX1_isAt { frames := 1, cells := 0, slots := 0, locals := 23 } D (tyM tt) [.ref (ad 0), .int (nI r), .int ov, .int (nI t)] (mw ad tt R w c k d wp wr) (fun _ : Unit => mw ad tt R w c k d wp wr) (fun v _ => (v = 1 ∧ ww_tg w k ov t r) ∨ (v = 0 ∧ ¬ ww_tg w k ov t r)) := by
  refine xe_i (cc := cX1_isAt) (maxL := 4) (ret := (some .boolean)) (lvl := [(0, .ref (ad 0)), (1, .int (nI r)), (2, .int ov), (3, .int (nI t))]) (by decide) rfl (Nat.le_of_ble_eq_true rfl) rfl ?_
  intro p e s m below meth cd A ls hx hb hr hlocks hml hown hts hA hP hK hD hS hl
  have hin : ∀ w ∈ wsX10, w ∈ wsX1_isAt := fun _ h => List.mem_cons_of_mem _ (List.mem_append_right _ h)
  have S0 : CallFix p m cd cX1_isAt 4 s (([.ref (ad 0), .int (nI r), .int ov, .int (nI t)] : List Value).toArray) wsX1_isAt RX1 := ⟨hx, hb, hml, hown, hts⟩
  obtain ⟨H, hH⟩ : ∃ H, H = s.heap := ⟨_, rfl⟩
  obtain ⟨locs, hlocs⟩ : ∃ q : List Loc, q = [] := ⟨_, rfl⟩
  have hP : va_P D vwCl (mw ad tt R w c k d wp wr) H := by rw [hH]; exact hP
  have hS : va_S A s.heap H locs := by rw [hH, hlocs]; exact hS
  suffices hgo : W p l e (headSpec wsX1_isAt ({ frames := 1, cells := 0, slots := 0, locals := 23 } : Room)).room s m (([.ref (ad 0), .int (nI r), .int ov, .int (nI t)] : List Value).toArray) below meth cd H locs 0 0 (MQ below (va_Qi (fun v _ => (v = 1 ∧ ww_tg w k ov t r) ∨ (v = 0 ∧ ¬ ww_tg w k ov t r)) (xB D (tyM tt) A (fun _ : Unit => mw ad tt R w c k d wp wr)) A) ([.ref (ad 0), .int (nI r), .int ov, .int (nI t)] : List Value).toArray s 0 0 A) (F0 m 0 ls []) by rw [hH, hlocs] at hgo; exact hgo
  clear hH hlocs
  have f_isCut := hts (.fieldLink RX1 16 "WireWaysModel" "isCut" "[Z") (by decide +kernel)
  refine lv_iload_n hx hb dX1_isAt_0 rfl (lv_at hl 2 rfl) ?_
  refine lv_if_eq (tgt := 31) hx hb dX1_isAt_1 (by decide) (fun c_1 => ?_) (fun c_1 => ?_)
  · have hov := c_1
    refine lv_iload_n hx hb dX1_isAt_31 rfl (lv_at hl 1 rfl) ?_
    refine lv_iload_n hx hb dX1_isAt_32 rfl (lv_at hl 3 rfl) ?_
    refine lv_icmp_ne (tgt := 40) hx hb dX1_isAt_33 (by decide) (fun c_2 => ?_) (fun c_2 => ?_)
    · have htg : ¬ ww_tg w k ov t r := fun h => c_2 (congrArg nI (h.2 hov))
      refine lv_iconst (v := 0) hx hb dX1_isAt_40 (by decide) ?_
      exact xr_z hx hb hr hlocks rfl () (Or.inr ⟨rfl, htg⟩) hP hK hD hS dX1_isAt_41
    · have htg : ww_tg w k ov t r := ⟨fun h => absurd hov h, fun _ => (nI_eq (by omega) (by omega)).mp c_2⟩
      refine lv_iconst (v := 1) hx hb dX1_isAt_36 (by decide) ?_
      refine lv_goto (tgt := 41) hx hb dX1_isAt_37 (by decide) ?_
      exact xr_z hx hb hr hlocks rfl () (Or.inl ⟨rfl, htg⟩) hP hK hD hS dX1_isAt_41
  · have hov := c_1
    have ht16 := ht hov
    refine lv_aload_n hx hb dX1_isAt_4 rfl (lv_at hl 0 rfl) ?_
    refine x1_get (v := .ref (ad 3)) S0 hin hK hP 3 (by decide) f_isCut rfl rfl dX1_isAt_5 ?_
    refine lv_iload_n hx hb dX1_isAt_8 rfl (lv_at hl 3 rfl) ?_
    refine va_zald hx hb hK hP 3 2 rfl rfl (vp_in_nI (by omega) (by omega)) dX1_isAt_9 ?_
    refine xt_eq (z := k t) (congrArg k (nI_clamp (by omega))) ?_
    refine lv_if_ne (tgt := 27) hx hb dX1_isAt_10 (by decide) (fun c_3 => ?_) (fun c_3 => ?_)
    · have htg : ¬ ww_tg w k ov t r := fun h => c_3 (h.1 hov).1
      refine lv_iconst (v := 0) hx hb dX1_isAt_27 (by decide) ?_
      refine lv_goto (tgt := 41) hx hb dX1_isAt_28 (by decide) ?_
      exact xr_z hx hb hr hlocks rfl () (Or.inr ⟨rfl, htg⟩) hP hK hD hS dX1_isAt_41
    · have hk0 := c_3
      refine lv_aload_n hx hb dX1_isAt_13 rfl (lv_at hl 0 rfl) ?_
      refine lv_iload_n hx hb dX1_isAt_14 rfl (lv_at hl 1 rfl) ?_
      refine lv_iload_n hx hb dX1_isAt_15 rfl (lv_at hl 3 rfl) ?_
      refine xs_Vi (wr := []) (q0 := 0) (ci := 1) (nA := 2) (As := [.int (nI r), .int (nI t)]) (rest := []) S0 (k_X1_portOn l D ad tt R w c k d wp wr r (nI t) (by omega)) gX1_isAt_X1_portOn rfl ⟨rfl, rfl⟩ (by decide +kernel) rfl ⟨Nat.le_of_ble_eq_true rfl, Nat.le_of_ble_eq_true rfl⟩ ⟨Nat.le_of_ble_eq_true rfl, Nat.le_of_ble_eq_true rfl⟩ hK hP hD hS hA [0, 1, 2, 3, 4] [] rfl rfl (by decide) (by decide) (by decide) rfl rfl rfl hl.1 rfl (Nat.le_of_ble_eq_true rfl) dX1_isAt_16 (fun r_4 u H locs hw hP hD hS => ?_)
      have hP : va_P D vwCl (mw ad tt R w c k d wp wr) H := hP
      have hD : va_D A (mw ad tt R w c k d wp wr) := hD
      have h_po := hw
      refine lv_iconst (v := (-1)) hx hb dX1_isAt_19 (by decide) ?_
      refine lv_icmp_eq (tgt := 27) hx hb dX1_isAt_20 (by decide) (fun c_5 => ?_) (fun c_5 => ?_)
      · have htg : ¬ ww_tg w k ov t r := fun h => (ww_po_on h_po).mp c_5 (h.1 hov).2
        refine lv_iconst (v := 0) hx hb dX1_isAt_27 (by decide) ?_
        refine lv_goto (tgt := 41) hx hb dX1_isAt_28 (by decide) ?_
        exact xr_z hx hb hr hlocks rfl () (Or.inr ⟨rfl, htg⟩) hP hK hD hS dX1_isAt_41
      · have htg : ww_tg w k ov t r := ⟨fun _ => ⟨hk0, ww_on_of (v := 0) h_po c_5⟩, fun h => absurd h hov⟩
        refine lv_iconst (v := 1) hx hb dX1_isAt_23 (by decide) ?_
        refine lv_goto (tgt := 41) hx hb dX1_isAt_24 (by decide) ?_
        exact xr_z hx hb hr hlocks rfl () (Or.inl ⟨rfl, htg⟩) hP hK hD hS dX1_isAt_41
set_option maxHeartbeats 4000000 in
set_option maxRecDepth 100000 in
theorem k_X1_by (l : Launch) (D : va_G) (ad : Nat → Nat) (tt : Nat → ClassId) (R : Nat) (w c k d : Nat → Int32) (wp wr : Int32) (hok : ww_ok R w c) (dn : Nat → Nat) (hd : ∀ a, a < R → d a = nI (dn a) ∧ dn a ≤ 100000) (r p9 q : Nat) (hrR : r < R) (hp4 : p9 < 4) (hqR : q < R) : xMi l yX1_by wsX1_by { frames := 1, cells := 0, slots := 0, locals := 23 } D (tyM tt) [.ref (ad 0), .int (nI r), .int (nI p9), .int (nI q)] (mw ad tt R w c k d wp wr) (fun _ : Unit => mw ad tt R w c k d wp wr) (fun v _ => ∃ dv, v = nI dv ∧ by_ok R w c k dn r p9 q dv) := by
  refine xe_i (cc := cX1_by) (maxL := 5) (ret := (some .int)) (lvl := [(0, .ref (ad 0)), (1, .int (nI r)), (2, .int (nI p9)), (3, .int (nI q))]) (by decide) rfl (Nat.le_of_ble_eq_true rfl) rfl ?_
  intro p e s m below meth cd A ls hx hb hr hlocks hml hown hts hA hP hK hD hS hl
  have hin : ∀ w ∈ wsX10, w ∈ wsX1_by := fun _ h => List.mem_cons_of_mem _ (List.mem_append_right _ h)
  have S0 : CallFix p m cd cX1_by 5 s (([.ref (ad 0), .int (nI r), .int (nI p9), .int (nI q)] : List Value).toArray) wsX1_by RX1 := ⟨hx, hb, hml, hown, hts⟩
  obtain ⟨H, hH⟩ : ∃ H, H = s.heap := ⟨_, rfl⟩
  obtain ⟨locs, hlocs⟩ : ∃ q : List Loc, q = [] := ⟨_, rfl⟩
  have hP : va_P D vwCl (mw ad tt R w c k d wp wr) H := by rw [hH]; exact hP
  have hS : va_S A s.heap H locs := by rw [hH, hlocs]; exact hS
  suffices hgo : W p l e (headSpec wsX1_by ({ frames := 1, cells := 0, slots := 0, locals := 23 } : Room)).room s m (([.ref (ad 0), .int (nI r), .int (nI p9), .int (nI q)] : List Value).toArray) below meth cd H locs 0 0 (MQ below (va_Qi (fun v _ => ∃ dv, v = nI dv ∧ by_ok R w c k dn r p9 q dv) (xB D (tyM tt) A (fun _ : Unit => mw ad tt R w c k d wp wr)) A) ([.ref (ad 0), .int (nI r), .int (nI p9), .int (nI q)] : List Value).toArray s 0 0 A) (F0 m 0 ls []) by rw [hH, hlocs] at hgo; exact hgo
  clear hH hlocs
  have f_wireOf := hts (.fieldLink RX1 7 "WireWaysModel" "wireOf" "[I") (by decide +kernel)
  have f_costOf := hts (.fieldLink RX1 13 "WireWaysModel" "costOf" "[I") (by decide +kernel)
  have f_isCut := hts (.fieldLink RX1 16 "WireWaysModel" "isCut" "[Z") (by decide +kernel)
  have f_distance := hts (.fieldLink RX1 20 "WireWaysModel" "distance" "[I") (by decide +kernel)
  have hR : R ≤ 10 := hok.2.1
  refine lv_aload_n hx hb dX1_by_0 rfl (lv_at hl 0 rfl) ?_
  refine x1_get (v := .ref (ad 1)) S0 hin hK hP 1 (by decide) f_wireOf rfl rfl dX1_by_1 ?_
  refine lv_iconst (v := 4) hx hb dX1_by_4 (by decide) ?_
  refine lv_iload_n hx hb dX1_by_5 rfl (lv_at hl 1 rfl) ?_
  refine lv_imul hx hb dX1_by_6 ?_
  refine lv_iload_n hx hb dX1_by_7 rfl (lv_at hl 2 rfl) ?_
  refine lv_iadd hx hb dX1_by_8 ?_
  refine xt_eq (z := nI (4 * r + p9)) (nI_lp _ _) ?_
  refine va_iald hx hb hK hP 1 0 rfl rfl (vp_in_nI (by omega) (by omega)) dX1_by_9 ?_
  refine xt_eq (z := w (4 * r + p9)) (congrArg w (nI_clamp (by omega))) ?_
  refine lv_istore (lv' := [(4, .int (w (4 * r + p9))), (0, .ref (ad 0)), (1, .int (nI r)), (2, .int (nI p9)), (3, .int (nI q))]) hx hb dX1_by_10 hl (by decide) rfl (fun ls hl => ?_)
  refine lv_iload hx hb dX1_by_12 (lv_at hl 0 rfl) ?_
  refine lv_iconst (v := (-1)) hx hb dX1_by_14 (by decide) ?_
  refine lv_icmp_eq (tgt := 44) hx hb dX1_by_15 (by decide) (fun c_1 => ?_) (fun c_1 => ?_)
  · have hne : ¬ (ww_E R w k r p9 q ∧ dn q < 100000) := fun h => by_m1 c_1 h.1
    refine lv_ldc (v := 100000) hx hb hown (hts (.constant RX1 42 100000) (by decide +kernel)) dX1_by_44 ?_
    exact xr_i hx hb hr hlocks () ⟨100000, rfl, Or.inr ⟨hne, rfl⟩⟩ hP hK hD hS dX1_by_46
  · obtain ⟨x, hx6, ex⟩ := (hok.2.2.1 (4 * r + p9) (by omega)).resolve_left c_1
    refine lv_aload_n hx hb dX1_by_18 rfl (lv_at hl 1 rfl) ?_
    refine x1_get (v := .ref (ad 3)) S0 hin hK hP 3 (by decide) f_isCut rfl rfl dX1_by_19 ?_
    refine lv_iload hx hb dX1_by_22 (lv_at hl 0 rfl) ?_
    refine va_zald hx hb hK hP 3 2 rfl rfl (ex_in ex (by omega) (by omega)) dX1_by_24 ?_
    refine xt_eq (z := k x) (congrArg k (ex_cl ex (by omega))) ?_
    refine lv_if_ne (tgt := 44) hx hb dX1_by_25 (by decide) (fun c_2 => ?_) (fun c_2 => ?_)
    · have hne : ¬ (ww_E R w k r p9 q ∧ dn q < 100000) := fun h => c_2 (by_x hx6 ex h.1).1
      refine lv_ldc (v := 100000) hx hb hown (hts (.constant RX1 42 100000) (by decide +kernel)) dX1_by_44 ?_
      exact xr_i hx hb hr hlocks () ⟨100000, rfl, Or.inr ⟨hne, rfl⟩⟩ hP hK hD hS dX1_by_46
    · have hk0 := c_2
      refine lv_iload_n hx hb dX1_by_28 rfl (lv_at hl 4 rfl) ?_
      refine lv_iload_n hx hb dX1_by_29 rfl (lv_at hl 2 rfl) ?_
      refine lv_icmp_eq (tgt := 44) hx hb dX1_by_30 (by decide) (fun c_3 => ?_) (fun c_3 => ?_)
      · have hne : ¬ (ww_E R w k r p9 q ∧ dn q < 100000) := fun h => (by_x hx6 ex h.1).2.1 ((nI_eq (by omega) (by omega)).mp c_3)
        refine lv_ldc (v := 100000) hx hb hown (hts (.constant RX1 42 100000) (by decide +kernel)) dX1_by_44 ?_
        exact xr_i hx hb hr hlocks () ⟨100000, rfl, Or.inr ⟨hne, rfl⟩⟩ hP hK hD hS dX1_by_46
      · have hqr : q ≠ r := fun h => c_3 (congrArg nI h)
        refine lv_aload_n hx hb dX1_by_33 rfl (lv_at hl 1 rfl) ?_
        refine lv_iload_n hx hb dX1_by_34 rfl (lv_at hl 4 rfl) ?_
        refine lv_iload hx hb dX1_by_35 (lv_at hl 0 rfl) ?_
        refine xs_Vi (wr := []) (q0 := 0) (ci := 1) (nA := 2) (As := [.int (nI q), .int (w (4 * r + p9))]) (rest := []) S0 (k_X1_portOn l D ad tt R w c k d wp wr q (w (4 * r + p9)) (by omega)) gX1_by_X1_portOn rfl ⟨rfl, rfl⟩ (by decide +kernel) rfl ⟨Nat.le_of_ble_eq_true rfl, Nat.le_of_ble_eq_true rfl⟩ ⟨Nat.le_of_ble_eq_true rfl, Nat.le_of_ble_eq_true rfl⟩ hK hP hD hS hA [0, 1, 2, 3, 4] [] rfl rfl (by decide) (by decide) (by decide) rfl rfl rfl hl.1 rfl (Nat.le_of_ble_eq_true rfl) dX1_by_37 (fun r_4 u H locs hw hP hD hS => ?_)
        have hP : va_P D vwCl (mw ad tt R w c k d wp wr) H := hP
        have hD : va_D A (mw ad tt R w c k d wp wr) := hD
        have h_po := hw
        refine lv_iconst (v := (-1)) hx hb dX1_by_40 (by decide) ?_
        refine lv_icmp_ne (tgt := 47) hx hb dX1_by_41 (by decide) (fun c_5 => ?_) (fun c_5 => ?_)
        · have hE : ww_E R w k r p9 q := ⟨hrR, hp4, hqR, hqr, x, hx6, ex, hk0, by rw [← ex]; exact ww_on_of (v := 0) h_po c_5⟩
          have hcc := ww_c_ok hok hrR hp4 hx6 ex
          have hdq := hd q hqR
          refine lv_aload_n hx hb dX1_by_47 rfl (lv_at hl 1 rfl) ?_
          refine x1_get (v := .ref (ad 4)) S0 hin hK hP 4 (by decide) f_distance rfl rfl dX1_by_48 ?_
          refine lv_iload_n hx hb dX1_by_51 rfl (lv_at hl 4 rfl) ?_
          refine va_iald hx hb hK hP 4 3 rfl rfl (vp_in_nI (by omega) (by omega)) dX1_by_52 ?_
          refine xt_eq (z := d q) (congrArg d (nI_clamp (by omega))) ?_
          refine xt_eq (z := nI (dn q)) hdq.1 ?_
          refine lv_ldc (v := 100000) hx hb hown (hts (.constant RX1 42 100000) (by decide +kernel)) dX1_by_53 ?_
          refine lv_icmp_lt (tgt := 63) hx hb dX1_by_55 (by decide) (fun c_6 => ?_) (fun c_6 => ?_)
          · have hlt : dn q < 100000 := (nI_ltI (b := 100000) (by omega) (by omega)).mp c_6
            refine lv_aload_n hx hb dX1_by_63 rfl (lv_at hl 1 rfl) ?_
            refine x1_get (v := .ref (ad 2)) S0 hin hK hP 2 (by decide) f_costOf rfl rfl dX1_by_64 ?_
            refine lv_iconst (v := 4) hx hb dX1_by_67 (by decide) ?_
            refine lv_iload_n hx hb dX1_by_68 rfl (lv_at hl 2 rfl) ?_
            refine lv_imul hx hb dX1_by_69 ?_
            refine lv_iload_n hx hb dX1_by_70 rfl (lv_at hl 3 rfl) ?_
            refine lv_iadd hx hb dX1_by_71 ?_
            refine xt_eq (z := nI (4 * r + p9)) (nI_lp _ _) ?_
            refine va_iald hx hb hK hP 2 1 rfl rfl (vp_in_nI (by omega) (by omega)) dX1_by_72 ?_
            refine xt_eq (z := c (4 * r + p9)) (congrArg c (nI_clamp (by omega))) ?_
            refine xt_eq (z := nI (ww_c c r p9)) hcc.1 ?_
            refine lv_aload_n hx hb dX1_by_73 rfl (lv_at hl 1 rfl) ?_
            refine x1_get (v := .ref (ad 4)) S0 hin hK hP 4 (by decide) f_distance rfl rfl dX1_by_74 ?_
            refine lv_iload_n hx hb dX1_by_77 rfl (lv_at hl 4 rfl) ?_
            refine va_iald hx hb hK hP 4 3 rfl rfl (vp_in_nI (by omega) (by omega)) dX1_by_78 ?_
            refine xt_eq (z := d q) (congrArg d (nI_clamp (by omega))) ?_
            refine xt_eq (z := nI (dn q)) hdq.1 ?_
            refine lv_iadd hx hb dX1_by_79 ?_
            refine xt_eq (z := nI (ww_c c r p9 + dn q)) (nI_add _ _) ?_
            exact xr_i hx hb hr hlocks () ⟨_, rfl, Or.inl ⟨hE, hlt, rfl⟩⟩ hP hK hD hS dX1_by_80
          · have hne : ¬ (ww_E R w k r p9 q ∧ dn q < 100000) := fun h => c_6 (nI_lt (b := 100000) h.2 (by omega))
            refine lv_ldc (v := 100000) hx hb hown (hts (.constant RX1 42 100000) (by decide +kernel)) dX1_by_58 ?_
            refine lv_goto (tgt := 80) hx hb dX1_by_60 (by decide) ?_
            exact xr_i hx hb hr hlocks () ⟨100000, rfl, Or.inr ⟨hne, rfl⟩⟩ hP hK hD hS dX1_by_80
        · have hne : ¬ (ww_E R w k r p9 q ∧ dn q < 100000) := fun h => (ww_po_on h_po).mp c_5 (by_x hx6 ex h.1).2.2
          refine lv_ldc (v := 100000) hx hb hown (hts (.constant RX1 42 100000) (by decide +kernel)) dX1_by_44 ?_
          exact xr_i hx hb hr hlocks () ⟨100000, rfl, Or.inr ⟨hne, rfl⟩⟩ hP hK hD hS dX1_by_46
set_option maxHeartbeats 4000000 in
set_option maxRecDepth 100000 in
theorem k_X1_reckon (l : Launch) (D : va_G) (ad : Nat → Nat) (tt : Nat → ClassId) (R : Nat) (w c k d : Nat → Int32) (wp wr : Int32) (hok : ww_ok R w c) (ov : Int32) (t : Nat) (ht : t < 16) (T0 : Nat → Nat) (hT0 : dm_ok R (ww_tg w k ov t) (ww_E R w k) (ww_c c) 100000 T0) : xMv l yX1_reckon wsX1_reckon { frames := 2, cells := 0, slots := 0, locals := 47 } D (tyM tt) [.ref (ad 0), .int ov, .int (nI t)] (mw ad tt R w c k d wp wr) (fun u : Nat → Int32 => mw ad tt R w c k u wp wr) (fun u => ∀ a, a < R → u a = nI (T0 a)) := by
  refine xe_v (cc := cX1_reckon) (maxL := 7) (ret := none) (lvl := [(0, .ref (ad 0)), (1, .int ov), (2, .int (nI t))]) (by decide) rfl (Nat.le_of_ble_eq_true rfl) rfl ?_
  intro p e s m below meth cd A ls hx hb hr hlocks hml hown hts hA hP hK hD hS hl
  have hin : ∀ w ∈ wsX10, w ∈ wsX1_reckon := fun _ h => List.mem_cons_of_mem _ (List.mem_append_right _ h)
  have S0 : CallFix p m cd cX1_reckon 7 s (([.ref (ad 0), .int ov, .int (nI t)] : List Value).toArray) wsX1_reckon RX1 := ⟨hx, hb, hml, hown, hts⟩
  obtain ⟨H, hH⟩ : ∃ H, H = s.heap := ⟨_, rfl⟩
  obtain ⟨locs, hlocs⟩ : ∃ q : List Loc, q = [] := ⟨_, rfl⟩
  have hP : va_P D vwCl (mw ad tt R w c k d wp wr) H := by rw [hH]; exact hP
  have hS : va_S A s.heap H locs := by rw [hH, hlocs]; exact hS
  suffices hgo : W p l e (headSpec wsX1_reckon ({ frames := 2, cells := 0, slots := 0, locals := 47 } : Room)).room s m (([.ref (ad 0), .int ov, .int (nI t)] : List Value).toArray) below meth cd H locs 0 0 (MQ below (va_Qv (fun u => ∀ a, a < R → u a = nI (T0 a)) (xB D (tyM tt) A (fun u : Nat → Int32 => mw ad tt R w c k u wp wr)) A) ([.ref (ad 0), .int ov, .int (nI t)] : List Value).toArray s 0 0 A) (F0 m 0 ls []) by rw [hH, hlocs] at hgo; exact hgo
  clear hH hlocs
  have f_distance := hts (.fieldLink RX1 20 "WireWaysModel" "distance" "[I") (by decide +kernel)
  have f_routers := hts (.fieldLink RX1 23 "WireWaysModel" "routers" "I") (by decide +kernel)
  have hR : R ≤ 10 := hok.2.1
  have hR1 : 1 ≤ R := hok.1
  refine lv_iconst (v := 0) hx hb dX1_reckon_0 (by decide) ?_
  refine lv_istore_n (lv' := [(3, .int 0), (0, .ref (ad 0)), (1, .int ov), (2, .int (nI t))]) hx hb dX1_reckon_1 rfl hl (by decide) rfl (fun ls hl => ?_)
  have lp2 : ∀ (fuel : Nat) (r : Nat) (d1 : Nat → Int32), (r ≤ R) → (∀ a, a < r → (ww_tg w k ov t a → d1 a = nI 0) ∧ (¬ ww_tg w k ov t a → d1 a = nI 100000)) → R - r < fuel → ∀ (H : Heap) (locs : List Loc) (ls : Array Slot), va_P D vwCl (mw ad tt R w c k d1 wp wr) H → va_D A (mw ad tt R w c k d1 wp wr) → va_S A s.heap H locs → lv_has ls 7 [(3, .int (nI r)), (0, .ref (ad 0)), (1, .int ov), (2, .int (nI t))] → W p l e (headSpec wsX1_reckon ({ frames := 2, cells := 0, slots := 0, locals := 47 } : Room)).room s m ([.ref (ad 0), .int ov, .int (nI t)] : List Value).toArray below meth cd H locs 0 0 (MQ below (va_Qv (fun u => ∀ a, a < R → u a = nI (T0 a)) (xB D (tyM tt) A (fun u : Nat → Int32 => mw ad tt R w c k u wp wr)) A) ([.ref (ad 0), .int ov, .int (nI t)] : List Value).toArray s 0 0 A) (F0 m 2 ls []) := by
    intro fuel
    induction fuel with
    | zero => intro r d1 hr0 hd1 hm; exact absurd hm (Nat.not_lt_zero _)
    | succ fuel ih2 =>
      intro r d1 hr0 hd1 hm H locs ls hP hD hS hl
      refine lv_iload_n hx hb dX1_reckon_2 rfl (lv_at hl 0 rfl) ?_
      refine lv_aload_n hx hb dX1_reckon_3 rfl (lv_at hl 1 rfl) ?_
      refine x1_get (v := .int (nI R)) S0 hin hK hP 0 (by decide) f_routers rfl rfl dX1_reckon_4 ?_
      refine lv_icmp_ge (tgt := 38) hx hb dX1_reckon_7 (by decide) (fun c_1 => ?_) (fun c_1 => ?_)
      · have hrR : R ≤ r := (nI_leI (by omega) (by omega)).mp c_1
        obtain ⟨dn, hrw⟩ := rk_init hT0 (fun a ha => hd1 a (by omega))
        refine lv_iconst (v := 1) hx hb dX1_reckon_38 (by decide) ?_
        refine lv_istore_n (lv' := [(3, .int 1), (0, .ref (ad 0)), (1, .int ov), (2, .int (nI t))]) hx hb dX1_reckon_39 rfl hl (by decide) rfl (fun ls hl => ?_)
        have lp40 : ∀ (fuel : Nat) (b : Nat) (d2 : Nat → Int32) (dn : Nat → Nat), (rk_row R (ww_tg w k ov t) T0 d2 dn) → ((b = 0 ∧ ∀ a, a < R → dn a = T0 a) ∨ b = 1) → 2 * dm_sum dn R + b < fuel → ∀ (H : Heap) (locs : List Loc) (ls : Array Slot), va_P D vwCl (mw ad tt R w c k d2 wp wr) H → va_D A (mw ad tt R w c k d2 wp wr) → va_S A s.heap H locs → lv_has ls 7 [(3, .int (nI b)), (0, .ref (ad 0)), (1, .int ov), (2, .int (nI t))] → W p l e (headSpec wsX1_reckon ({ frames := 2, cells := 0, slots := 0, locals := 47 } : Room)).room s m ([.ref (ad 0), .int ov, .int (nI t)] : List Value).toArray below meth cd H locs 0 0 (MQ below (va_Qv (fun u => ∀ a, a < R → u a = nI (T0 a)) (xB D (tyM tt) A (fun u : Nat → Int32 => mw ad tt R w c k u wp wr)) A) ([.ref (ad 0), .int ov, .int (nI t)] : List Value).toArray s 0 0 A) (F0 m 40 ls []) := by
          intro fuel
          induction fuel with
          | zero => intro b d2 dn hrw hbz hm; exact absurd hm (Nat.not_lt_zero _)
          | succ fuel ih40 =>
            intro b d2 dn hrw hbz hm H locs ls hP hD hS hl
            refine lv_iload_n hx hb dX1_reckon_40 rfl (lv_at hl 0 rfl) ?_
            refine lv_if_eq (tgt := 162) hx hb dX1_reckon_41 (by decide) (fun c_2 => ?_) (fun c_2 => ?_)
            · have hb0 : b = 0 := (nI_eq (b := 0) (by omega) (by omega)).mp c_2
              have hend : ∀ a, a < R → dn a = T0 a := by
                rcases hbz with h | h
                · exact h.2
                · omega
              exact xr_v hx hb hr hlocks d2 (fun a h => by rw [← hend a h]; exact (hrw.1 a h).1) hP hK hD hS dX1_reckon_162
            · have hb1 : b = 1 := by
                rcases hbz with h | h
                · exact absurd (by rw [h.1]; rfl) c_2
                · exact h
              refine lv_iconst (v := 0) hx hb dX1_reckon_44 (by decide) ?_
              refine lv_istore_n (lv' := [(3, .int 0), (0, .ref (ad 0)), (1, .int ov), (2, .int (nI t))]) hx hb dX1_reckon_45 rfl hl (by decide) rfl (fun ls hl => ?_)
              refine lv_iconst (v := 0) hx hb dX1_reckon_46 (by decide) ?_
              refine lv_istore (lv' := [(4, .int 0), (3, .int 0), (0, .ref (ad 0)), (1, .int ov), (2, .int (nI t))]) hx hb dX1_reckon_47 hl (by decide) rfl (fun ls hl => ?_)
              have lp49 : ∀ (fuel : Nat) (r : Nat) (b2 : Nat) (d3 : Nat → Int32) (dm : Nat → Nat), (r ≤ R) → (rk_row R (ww_tg w k ov t) T0 d3 dm) → (rk_in R w c k dn dm b2 (fun a _ _ => a < r)) → R - r < fuel → ∀ (H : Heap) (locs : List Loc) (ls : Array Slot), va_P D vwCl (mw ad tt R w c k d3 wp wr) H → va_D A (mw ad tt R w c k d3 wp wr) → va_S A s.heap H locs → lv_has ls 7 [(4, .int (nI r)), (3, .int (nI b2)), (0, .ref (ad 0)), (1, .int ov), (2, .int (nI t))] → W p l e (headSpec wsX1_reckon ({ frames := 2, cells := 0, slots := 0, locals := 47 } : Room)).room s m ([.ref (ad 0), .int ov, .int (nI t)] : List Value).toArray below meth cd H locs 0 0 (MQ below (va_Qv (fun u => ∀ a, a < R → u a = nI (T0 a)) (xB D (tyM tt) A (fun u : Nat → Int32 => mw ad tt R w c k u wp wr)) A) ([.ref (ad 0), .int ov, .int (nI t)] : List Value).toArray s 0 0 A) (F0 m 49 ls []) := by
                intro fuel
                induction fuel with
                | zero => intro r b2 d3 dm hr0 hrw3 hri hm; exact absurd hm (Nat.not_lt_zero _)
                | succ fuel ih49 =>
                  intro r b2 d3 dm hr0 hrw3 hri hm H locs ls hP hD hS hl
                  refine lv_iload hx hb dX1_reckon_49 (lv_at hl 0 rfl) ?_
                  refine lv_aload_n hx hb dX1_reckon_51 rfl (lv_at hl 2 rfl) ?_
                  refine x1_get (v := .int (nI R)) S0 hin hK hP 0 (by decide) f_routers rfl rfl dX1_reckon_52 ?_
                  refine lv_icmp_ge (tgt := 159) hx hb dX1_reckon_55 (by decide) (fun c_3 => ?_) (fun c_3 => ?_)
                  · have hrR : R ≤ r := (nI_leI (by omega) (by omega)).mp c_3
                    refine lv_goto (tgt := 40) hx hb dX1_reckon_159 (by decide) ?_
                    exact ih40 b2 d3 dm hrw3 (rk_b0 hok hT0 hrw3 hri (by omega)) (rk_mu hri (by omega)) H locs ls hP hD hS (lv_sub hl [1, 2, 3, 4] rfl)
                  · have hrR : r < R := Nat.lt_of_not_le (fun h => c_3 (nI_le h (by omega)))
                    refine lv_iconst (v := 0) hx hb dX1_reckon_58 (by decide) ?_
                    refine lv_istore (lv' := [(5, .int 0), (4, .int (nI r)), (3, .int (nI b2)), (0, .ref (ad 0)), (1, .int ov), (2, .int (nI t))]) hx hb dX1_reckon_59 hl (by decide) rfl (fun ls hl => ?_)
                    have lp61 : ∀ (fuel : Nat) (κ : Nat) (b3 : Nat) (d4 : Nat → Int32) (dp : Nat → Nat), (κ ≤ 4 * R) → (rk_row R (ww_tg w k ov t) T0 d4 dp) → (rk_in R w c k dn dp b3 (fun a p q => a < r ∨ (a = r ∧ p * R + q < κ))) → 4 * R - κ < fuel → ∀ (H : Heap) (locs : List Loc) (ls : Array Slot), va_P D vwCl (mw ad tt R w c k d4 wp wr) H → va_D A (mw ad tt R w c k d4 wp wr) → va_S A s.heap H locs → lv_has ls 7 [(5, .int (nI κ)), (4, .int (nI r)), (3, .int (nI b3)), (0, .ref (ad 0)), (1, .int ov), (2, .int (nI t))] → W p l e (headSpec wsX1_reckon ({ frames := 2, cells := 0, slots := 0, locals := 47 } : Room)).room s m ([.ref (ad 0), .int ov, .int (nI t)] : List Value).toArray below meth cd H locs 0 0 (MQ below (va_Qv (fun u => ∀ a, a < R → u a = nI (T0 a)) (xB D (tyM tt) A (fun u : Nat → Int32 => mw ad tt R w c k u wp wr)) A) ([.ref (ad 0), .int ov, .int (nI t)] : List Value).toArray s 0 0 A) (F0 m 61 ls []) := by
                      intro fuel
                      induction fuel with
                      | zero => intro κ b3 d4 dp hκ0 hrw4 hrj hm; exact absurd hm (Nat.not_lt_zero _)
                      | succ fuel ih61 =>
                        intro κ b3 d4 dp hκ0 hrw4 hrj hm H locs ls hP hD hS hl
                        refine lv_iload hx hb dX1_reckon_61 (lv_at hl 0 rfl) ?_
                        refine lv_iconst (v := 4) hx hb dX1_reckon_63 (by decide) ?_
                        refine lv_aload_n hx hb dX1_reckon_64 rfl (lv_at hl 3 rfl) ?_
                        refine x1_get (v := .int (nI R)) S0 hin hK hP 0 (by decide) f_routers rfl rfl dX1_reckon_65 ?_
                        refine lv_imul hx hb dX1_reckon_68 ?_
                        refine xt_eq (z := nI (4 * R)) (pk_mul 4 R) ?_
                        refine lv_icmp_ge (tgt := 153) hx hb dX1_reckon_69 (by decide) (fun c_4 => ?_) (fun c_4 => ?_)
                        · have hκ : 4 * R ≤ κ := (nI_leI (by omega) (by omega)).mp c_4
                          refine lv_iinc (v := nI (r + 1)) (lv' := [(4, .int (nI (r + 1))), (5, .int (nI κ)), (3, .int (nI b3)), (0, .ref (ad 0)), (1, .int ov), (2, .int (nI t))]) hx hb dX1_reckon_153 hl (k := 1) rfl (nI_1 r) (by decide) rfl (fun ls hl => ?_)
                          refine lv_goto (tgt := 49) hx hb dX1_reckon_156 (by decide) ?_
                          exact ih49 (r + 1) b3 d4 dp (by omega) hrw4 (rk_V hrj (fun a p q ha hp hq h => by have h9 := pr_lt hp hq; omega)) (by omega) H locs ls hP hD hS (lv_sub hl [0, 2, 3, 4, 5] rfl)
                        · have hκ : κ < 4 * R := Nat.lt_of_not_le (fun h => c_4 (nI_le h (by omega)))
                          have hdr := hrw4.1 r hrR
                          refine lv_aload_n hx hb dX1_reckon_72 rfl (lv_at hl 3 rfl) ?_
                          refine lv_iload hx hb dX1_reckon_73 (lv_at hl 1 rfl) ?_
                          refine lv_iload hx hb dX1_reckon_75 (lv_at hl 0 rfl) ?_
                          refine lv_aload_n hx hb dX1_reckon_77 rfl (lv_at hl 3 rfl) ?_
                          refine x1_get (v := .int (nI R)) S0 hin hK hP 0 (by decide) f_routers rfl rfl dX1_reckon_78 ?_
                          refine lv_idiv hx hb dX1_reckon_81 (nI_ne0 (by omega) (by omega)) ?_
                          refine xt_eq (z := nI (κ / R)) (pk_div (by omega) (by omega) (by omega)) ?_
                          refine lv_iload hx hb dX1_reckon_82 (lv_at hl 0 rfl) ?_
                          refine lv_aload_n hx hb dX1_reckon_84 rfl (lv_at hl 3 rfl) ?_
                          refine x1_get (v := .int (nI R)) S0 hin hK hP 0 (by decide) f_routers rfl rfl dX1_reckon_85 ?_
                          refine lv_irem hx hb dX1_reckon_88 (nI_ne0 (by omega) (by omega)) ?_
                          refine xt_eq (z := nI (κ % R)) (pk_rem (by omega) (by omega) (by omega)) ?_
                          refine xs_Vi (wr := []) (q0 := 0) (ci := 1) (nA := 3) (As := [.int (nI r), .int (nI (κ / R)), .int (nI (κ % R))]) (rest := []) S0 (k_X1_by l D ad tt R w c k d4 wp wr hok dp hrw4.1 r (κ / R) (κ % R) hrR (pr_4 hκ) (Nat.mod_lt _ (by omega))) gX1_reckon_X1_by rfl ⟨rfl, rfl⟩ (by decide +kernel) rfl ⟨Nat.le_of_ble_eq_true rfl, Nat.le_of_ble_eq_true rfl⟩ ⟨Nat.le_of_ble_eq_true rfl, Nat.le_of_ble_eq_true rfl⟩ hK hP hD hS hA [0, 1, 2, 3, 4] [] rfl rfl (by decide) (by decide) (by decide) rfl rfl rfl hl.1 rfl (Nat.le_of_ble_eq_true rfl) dX1_reckon_89 (fun r_5 u H locs hw hP hD hS => ?_)
                          have hP : va_P D vwCl (mw ad tt R w c k d4 wp wr) H := hP
                          have hD : va_D A (mw ad tt R w c k d4 wp wr) := hD
                          obtain ⟨dv, rfl, hdv⟩ := hw
                          have hdvb := by_le hok hdv
                          refine lv_istore (lv' := [(6, .int (nI dv)), (5, .int (nI κ)), (4, .int (nI r)), (3, .int (nI b3)), (0, .ref (ad 0)), (1, .int ov), (2, .int (nI t))]) hx hb dX1_reckon_92 hl (by decide) rfl (fun ls hl => ?_)
                          refine lv_iload_n hx hb dX1_reckon_94 rfl (lv_at hl 3 rfl) ?_
                          refine lv_if_ne (tgt := 110) hx hb dX1_reckon_95 (by decide) (fun c_6 => ?_) (fun c_6 => ?_)
                          · have hb3 : b3 = 1 := rk_b1 hrj (fun h => c_6 (by rw [h]; rfl))
                            refine lv_iconst (v := 1) hx hb dX1_reckon_110 (by decide) ?_
                            refine lv_goto (tgt := 115) hx hb dX1_reckon_111 (by decide) ?_
                            refine lv_istore_n (lv' := [(3, .int 1), (6, .int (nI dv)), (5, .int (nI κ)), (4, .int (nI r)), (0, .ref (ad 0)), (1, .int ov), (2, .int (nI t))]) hx hb dX1_reckon_115 rfl hl (by decide) rfl (fun ls hl => ?_)
                            refine lv_aload_n hx hb dX1_reckon_116 rfl (lv_at hl 4 rfl) ?_
                            refine x1_get (v := .ref (ad 4)) S0 hin hK hP 4 (by decide) f_distance rfl rfl dX1_reckon_117 ?_
                            refine lv_iload hx hb dX1_reckon_120 (lv_at hl 3 rfl) ?_
                            refine lv_iload hx hb dX1_reckon_122 (lv_at hl 1 rfl) ?_
                            refine lv_aload_n hx hb dX1_reckon_124 rfl (lv_at hl 4 rfl) ?_
                            refine x1_get (v := .ref (ad 4)) S0 hin hK hP 4 (by decide) f_distance rfl rfl dX1_reckon_125 ?_
                            refine lv_iload hx hb dX1_reckon_128 (lv_at hl 3 rfl) ?_
                            refine va_iald hx hb hK hP 4 3 rfl rfl (vp_in_nI (by omega) (by omega)) dX1_reckon_130 ?_
                            refine xt_eq (z := d4 r) (congrArg d4 (nI_clamp (by omega))) ?_
                            refine xt_eq (z := nI (dp r)) hdr.1 ?_
                            refine lv_icmp_ge (tgt := 139) hx hb dX1_reckon_131 (by decide) (fun c_7 => ?_) (fun c_7 => ?_)
                            · have hcmp : dp r ≤ dv := (nI_leI (by omega) (by omega)).mp c_7
                              refine lv_aload_n hx hb dX1_reckon_139 rfl (lv_at hl 4 rfl) ?_
                              refine x1_get (v := .ref (ad 4)) S0 hin hK hP 4 (by decide) f_distance rfl rfl dX1_reckon_140 ?_
                              refine lv_iload hx hb dX1_reckon_143 (lv_at hl 3 rfl) ?_
                              refine va_iald hx hb hK hP 4 3 rfl rfl (vp_in_nI (by omega) (by omega)) dX1_reckon_145 ?_
                              refine xt_eq (z := d4 r) (congrArg d4 (nI_clamp (by omega))) ?_
                              refine xt_eq (z := nI (dp r)) hdr.1 ?_
                              refine va_iast hx hb hK hP hD hS 4 3 rfl rfl (vp_in_nI (by omega) (by omega)) dX1_reckon_146 (fun H locs hP hD hS => ?_)
                              rw [(nI_clamp (by omega))] at hP hD
                              have hP : va_P D vwCl (mw ad tt R w c k (upd d4 r (nI (dp r))) wp wr) H := hP
                              have hD : va_D A (mw ad tt R w c k (upd d4 r (nI (dp r))) wp wr) := hD
                              refine lv_iinc (v := nI (κ + 1)) (lv' := [(5, .int (nI (κ + 1))), (3, .int 1), (6, .int (nI dv)), (4, .int (nI r)), (0, .ref (ad 0)), (1, .int ov), (2, .int (nI t))]) hx hb dX1_reckon_147 hl (k := 2) rfl (nI_1 κ) (by decide) rfl (fun ls hl => ?_)
                              refine lv_goto (tgt := 61) hx hb dX1_reckon_150 (by decide) ?_
                              exact ih61 (κ + 1) 1 _ dp (by omega) (rk_same hrw4 hrR) (by rw [hb3] at hrj; exact rk_keep (by omega) hrj hrR (fun a ha => (hrw4.1 a ha).2) hdv hcmp) (by omega) H locs ls hP hD hS (lv_sub hl [0, 3, 1, 4, 5, 6] rfl)
                            · have hcmp : dv < dp r := Nat.lt_of_not_le (fun h => c_7 (nI_le h (by omega)))
                              refine lv_iload hx hb dX1_reckon_134 (lv_at hl 1 rfl) ?_
                              refine lv_goto (tgt := 146) hx hb dX1_reckon_136 (by decide) ?_
                              refine va_iast hx hb hK hP hD hS 4 3 rfl rfl (vp_in_nI (by omega) (by omega)) dX1_reckon_146 (fun H locs hP hD hS => ?_)
                              rw [(nI_clamp (by omega))] at hP hD
                              have hP : va_P D vwCl (mw ad tt R w c k (upd d4 r (nI dv)) wp wr) H := hP
                              have hD : va_D A (mw ad tt R w c k (upd d4 r (nI dv)) wp wr) := hD
                              refine lv_iinc (v := nI (κ + 1)) (lv' := [(5, .int (nI (κ + 1))), (3, .int 1), (6, .int (nI dv)), (4, .int (nI r)), (0, .ref (ad 0)), (1, .int ov), (2, .int (nI t))]) hx hb dX1_reckon_147 hl (k := 2) rfl (nI_1 κ) (by decide) rfl (fun ls hl => ?_)
                              refine lv_goto (tgt := 61) hx hb dX1_reckon_150 (by decide) ?_
                              exact ih61 (κ + 1) 1 _ (nup dp r dv) (by omega) (rk_put hok hT0 hrw4 hrR hdv hcmp) (rk_less hrj hrR hcmp _) (by omega) H locs ls hP hD hS (lv_sub hl [0, 3, 1, 4, 5, 6] rfl)
                          · have hb3 : b3 = 0 := (nI_eq (b := 0) (by have := rk_b2 hrj; omega) (by omega)).mp c_6
                            refine lv_iload hx hb dX1_reckon_98 (lv_at hl 0 rfl) ?_
                            refine lv_aload_n hx hb dX1_reckon_100 rfl (lv_at hl 4 rfl) ?_
                            refine x1_get (v := .ref (ad 4)) S0 hin hK hP 4 (by decide) f_distance rfl rfl dX1_reckon_101 ?_
                            refine lv_iload hx hb dX1_reckon_104 (lv_at hl 2 rfl) ?_
                            refine va_iald hx hb hK hP 4 3 rfl rfl (vp_in_nI (by omega) (by omega)) dX1_reckon_106 ?_
                            refine xt_eq (z := d4 r) (congrArg d4 (nI_clamp (by omega))) ?_
                            refine xt_eq (z := nI (dp r)) hdr.1 ?_
                            refine lv_icmp_ge (tgt := 114) hx hb dX1_reckon_107 (by decide) (fun c_8 => ?_) (fun c_8 => ?_)
                            · have hcmp : dp r ≤ dv := (nI_leI (by omega) (by omega)).mp c_8
                              refine lv_iconst (v := 0) hx hb dX1_reckon_114 (by decide) ?_
                              refine lv_istore_n (lv' := [(3, .int 0), (6, .int (nI dv)), (5, .int (nI κ)), (4, .int (nI r)), (0, .ref (ad 0)), (1, .int ov), (2, .int (nI t))]) hx hb dX1_reckon_115 rfl hl (by decide) rfl (fun ls hl => ?_)
                              refine lv_aload_n hx hb dX1_reckon_116 rfl (lv_at hl 4 rfl) ?_
                              refine x1_get (v := .ref (ad 4)) S0 hin hK hP 4 (by decide) f_distance rfl rfl dX1_reckon_117 ?_
                              refine lv_iload hx hb dX1_reckon_120 (lv_at hl 3 rfl) ?_
                              refine lv_iload hx hb dX1_reckon_122 (lv_at hl 1 rfl) ?_
                              refine lv_aload_n hx hb dX1_reckon_124 rfl (lv_at hl 4 rfl) ?_
                              refine x1_get (v := .ref (ad 4)) S0 hin hK hP 4 (by decide) f_distance rfl rfl dX1_reckon_125 ?_
                              refine lv_iload hx hb dX1_reckon_128 (lv_at hl 3 rfl) ?_
                              refine va_iald hx hb hK hP 4 3 rfl rfl (vp_in_nI (by omega) (by omega)) dX1_reckon_130 ?_
                              refine xt_eq (z := d4 r) (congrArg d4 (nI_clamp (by omega))) ?_
                              refine xt_eq (z := nI (dp r)) hdr.1 ?_
                              refine lv_icmp_ge (tgt := 139) hx hb dX1_reckon_131 (by decide) (fun c_9 => ?_) (fun c_9 => by exact absurd (nI_le hcmp (by omega)) c_9)
                              refine lv_aload_n hx hb dX1_reckon_139 rfl (lv_at hl 4 rfl) ?_
                              refine x1_get (v := .ref (ad 4)) S0 hin hK hP 4 (by decide) f_distance rfl rfl dX1_reckon_140 ?_
                              refine lv_iload hx hb dX1_reckon_143 (lv_at hl 3 rfl) ?_
                              refine va_iald hx hb hK hP 4 3 rfl rfl (vp_in_nI (by omega) (by omega)) dX1_reckon_145 ?_
                              refine xt_eq (z := d4 r) (congrArg d4 (nI_clamp (by omega))) ?_
                              refine xt_eq (z := nI (dp r)) hdr.1 ?_
                              refine va_iast hx hb hK hP hD hS 4 3 rfl rfl (vp_in_nI (by omega) (by omega)) dX1_reckon_146 (fun H locs hP hD hS => ?_)
                              rw [(nI_clamp (by omega))] at hP hD
                              have hP : va_P D vwCl (mw ad tt R w c k (upd d4 r (nI (dp r))) wp wr) H := hP
                              have hD : va_D A (mw ad tt R w c k (upd d4 r (nI (dp r))) wp wr) := hD
                              refine lv_iinc (v := nI (κ + 1)) (lv' := [(5, .int (nI (κ + 1))), (3, .int 0), (6, .int (nI dv)), (4, .int (nI r)), (0, .ref (ad 0)), (1, .int ov), (2, .int (nI t))]) hx hb dX1_reckon_147 hl (k := 2) rfl (nI_1 κ) (by decide) rfl (fun ls hl => ?_)
                              refine lv_goto (tgt := 61) hx hb dX1_reckon_150 (by decide) ?_
                              exact ih61 (κ + 1) 0 _ dp (by omega) (rk_same hrw4 hrR) (by rw [hb3] at hrj; exact rk_keep (by omega) hrj hrR (fun a ha => (hrw4.1 a ha).2) hdv hcmp) (by omega) H locs ls hP hD hS (lv_sub hl [0, 3, 1, 4, 5, 6] rfl)
                            · have hcmp : dv < dp r := Nat.lt_of_not_le (fun h => c_8 (nI_le h (by omega)))
                              refine lv_iconst (v := 1) hx hb dX1_reckon_110 (by decide) ?_
                              refine lv_goto (tgt := 115) hx hb dX1_reckon_111 (by decide) ?_
                              refine lv_istore_n (lv' := [(3, .int 1), (6, .int (nI dv)), (5, .int (nI κ)), (4, .int (nI r)), (0, .ref (ad 0)), (1, .int ov), (2, .int (nI t))]) hx hb dX1_reckon_115 rfl hl (by decide) rfl (fun ls hl => ?_)
                              refine lv_aload_n hx hb dX1_reckon_116 rfl (lv_at hl 4 rfl) ?_
                              refine x1_get (v := .ref (ad 4)) S0 hin hK hP 4 (by decide) f_distance rfl rfl dX1_reckon_117 ?_
                              refine lv_iload hx hb dX1_reckon_120 (lv_at hl 3 rfl) ?_
                              refine lv_iload hx hb dX1_reckon_122 (lv_at hl 1 rfl) ?_
                              refine lv_aload_n hx hb dX1_reckon_124 rfl (lv_at hl 4 rfl) ?_
                              refine x1_get (v := .ref (ad 4)) S0 hin hK hP 4 (by decide) f_distance rfl rfl dX1_reckon_125 ?_
                              refine lv_iload hx hb dX1_reckon_128 (lv_at hl 3 rfl) ?_
                              refine va_iald hx hb hK hP 4 3 rfl rfl (vp_in_nI (by omega) (by omega)) dX1_reckon_130 ?_
                              refine xt_eq (z := d4 r) (congrArg d4 (nI_clamp (by omega))) ?_
                              refine xt_eq (z := nI (dp r)) hdr.1 ?_
                              refine lv_icmp_ge (tgt := 139) hx hb dX1_reckon_131 (by decide) (fun c_10 => by exact absurd c_10 (nI_ge hcmp (by omega))) (fun c_10 => ?_)
                              refine lv_iload hx hb dX1_reckon_134 (lv_at hl 1 rfl) ?_
                              refine lv_goto (tgt := 146) hx hb dX1_reckon_136 (by decide) ?_
                              refine va_iast hx hb hK hP hD hS 4 3 rfl rfl (vp_in_nI (by omega) (by omega)) dX1_reckon_146 (fun H locs hP hD hS => ?_)
                              rw [(nI_clamp (by omega))] at hP hD
                              have hP : va_P D vwCl (mw ad tt R w c k (upd d4 r (nI dv)) wp wr) H := hP
                              have hD : va_D A (mw ad tt R w c k (upd d4 r (nI dv)) wp wr) := hD
                              refine lv_iinc (v := nI (κ + 1)) (lv' := [(5, .int (nI (κ + 1))), (3, .int 1), (6, .int (nI dv)), (4, .int (nI r)), (0, .ref (ad 0)), (1, .int ov), (2, .int (nI t))]) hx hb dX1_reckon_147 hl (k := 2) rfl (nI_1 κ) (by decide) rfl (fun ls hl => ?_)
                              refine lv_goto (tgt := 61) hx hb dX1_reckon_150 (by decide) ?_
                              exact ih61 (κ + 1) 1 _ (nup dp r dv) (by omega) (rk_put hok hT0 hrw4 hrR hdv hcmp) (rk_less hrj hrR hcmp _) (by omega) H locs ls hP hD hS (lv_sub hl [0, 3, 1, 4, 5, 6] rfl)
                    exact lp61 _ 0 b2 d3 dm (by omega) hrw3 (rk_V hri (fun a p q ha hp hq h => by omega)) (Nat.lt_succ_self _) H locs ls hP hD hS (lv_sub hl [0, 1, 2, 3, 4, 5] rfl)
              exact lp49 _ 0 0 d2 dn (by omega) hrw (Or.inl ⟨rfl, fun _ _ => rfl, fun a p q _ h => absurd h (Nat.not_lt_zero a)⟩) (Nat.lt_succ_self _) H locs ls hP hD hS (lv_sub hl [0, 1, 2, 3, 4] rfl)
        exact lp40 _ 1 d1 dn hrw (Or.inr rfl) (Nat.lt_succ_self _) H locs ls hP hD hS (lv_sub hl [0, 1, 2, 3] rfl)
      · have hrR : r < R := Nat.lt_of_not_le (fun h => c_1 (nI_le h (by omega)))
        refine lv_aload_n hx hb dX1_reckon_10 rfl (lv_at hl 1 rfl) ?_
        refine x1_get (v := .ref (ad 4)) S0 hin hK hP 4 (by decide) f_distance rfl rfl dX1_reckon_11 ?_
        refine lv_iload_n hx hb dX1_reckon_14 rfl (lv_at hl 0 rfl) ?_
        refine lv_aload_n hx hb dX1_reckon_15 rfl (lv_at hl 1 rfl) ?_
        refine lv_iload_n hx hb dX1_reckon_16 rfl (lv_at hl 0 rfl) ?_
        refine lv_iload_n hx hb dX1_reckon_17 rfl (lv_at hl 2 rfl) ?_
        refine lv_iload_n hx hb dX1_reckon_18 rfl (lv_at hl 3 rfl) ?_
        refine xs_Vi (wr := []) (q0 := 0) (ci := 1) (nA := 3) (As := [.int (nI r), .int ov, .int (nI t)]) (rest := [.int (nI r), .ref (ad 4)]) S0 (k_X1_isAt l D ad tt R w c k d1 wp wr r ov t (by omega) (fun _ => by omega) (by omega)) gX1_reckon_X1_isAt rfl ⟨rfl, rfl⟩ (by decide +kernel) rfl ⟨Nat.le_of_ble_eq_true rfl, Nat.le_of_ble_eq_true rfl⟩ ⟨Nat.le_of_ble_eq_true rfl, Nat.le_of_ble_eq_true rfl⟩ hK hP hD hS hA [0, 1, 2, 3, 4] [] rfl rfl (by decide) (by decide) (by decide) rfl rfl rfl hl.1 rfl (Nat.le_of_ble_eq_true rfl) dX1_reckon_19 (fun r_11 u H locs hw hP hD hS => ?_)
        have hP : va_P D vwCl (mw ad tt R w c k d1 wp wr) H := hP
        have hD : va_D A (mw ad tt R w c k d1 wp wr) := hD
        rcases hw with ⟨rfl, h_tg⟩ | ⟨rfl, h_tg⟩
        · refine lv_if_eq (tgt := 29) hx hb dX1_reckon_22 (by decide) (fun c_12 => absurd c_12 (by decide)) (fun c_12 => ?_)
          refine lv_iconst (v := 0) hx hb dX1_reckon_25 (by decide) ?_
          refine lv_goto (tgt := 31) hx hb dX1_reckon_26 (by decide) ?_
          refine va_iast hx hb hK hP hD hS 4 3 rfl rfl (vp_in_nI (by omega) (by omega)) dX1_reckon_31 (fun H locs hP hD hS => ?_)
          rw [(nI_clamp (by omega))] at hP hD
          have hP : va_P D vwCl (mw ad tt R w c k (upd d1 r 0) wp wr) H := hP
          have hD : va_D A (mw ad tt R w c k (upd d1 r 0) wp wr) := hD
          refine lv_iinc (v := nI (r + 1)) (lv' := [(3, .int (nI (r + 1))), (0, .ref (ad 0)), (1, .int ov), (2, .int (nI t))]) hx hb dX1_reckon_32 hl (k := 0) rfl (nI_1 r) (by decide) rfl (fun ls hl => ?_)
          refine lv_goto (tgt := 2) hx hb dX1_reckon_35 (by decide) ?_
          exact ih2 (r + 1) _ (by omega) (up_P (P := (fun a v => (ww_tg w k ov t a → v = nI 0) ∧ (¬ ww_tg w k ov t a → v = nI 100000))) hd1 ⟨fun _ => rfl, fun h => absurd h_tg h⟩) (by omega) H locs ls hP hD hS (lv_sub hl [0, 1, 2, 3] rfl)
        · refine lv_if_eq (tgt := 29) hx hb dX1_reckon_22 (by decide) (fun c_13 => ?_) (fun c_13 => absurd c_13 (by decide))
          refine lv_ldc (v := 100000) hx hb hown (hts (.constant RX1 42 100000) (by decide +kernel)) dX1_reckon_29 ?_
          refine va_iast hx hb hK hP hD hS 4 3 rfl rfl (vp_in_nI (by omega) (by omega)) dX1_reckon_31 (fun H locs hP hD hS => ?_)
          rw [(nI_clamp (by omega))] at hP hD
          have hP : va_P D vwCl (mw ad tt R w c k (upd d1 r 100000) wp wr) H := hP
          have hD : va_D A (mw ad tt R w c k (upd d1 r 100000) wp wr) := hD
          refine lv_iinc (v := nI (r + 1)) (lv' := [(3, .int (nI (r + 1))), (0, .ref (ad 0)), (1, .int ov), (2, .int (nI t))]) hx hb dX1_reckon_32 hl (k := 0) rfl (nI_1 r) (by decide) rfl (fun ls hl => ?_)
          refine lv_goto (tgt := 2) hx hb dX1_reckon_35 (by decide) ?_
          exact ih2 (r + 1) _ (by omega) (up_P (P := (fun a v => (ww_tg w k ov t a → v = nI 0) ∧ (¬ ww_tg w k ov t a → v = nI 100000))) hd1 ⟨fun h => absurd h h_tg, fun _ => rfl⟩) (by omega) H locs ls hP hD hS (lv_sub hl [0, 1, 2, 3] rfl)
  exact lp2 _ 0 d (by omega) (fun a h => absurd h (Nat.not_lt_zero a)) (Nat.lt_succ_self _) H locs ls hP hD hS (lv_sub hl [0, 1, 2, 3] rfl)
end
section
section
variable {R : Nat} {w c k : Nat → Int32} {x ov z : Int32} {r t : Nat}
/-- what choose leaves -/
def ch_ok (R : Nat) (w c k : Nat → Int32) (ov : Int32) (t : Nat) (r : Nat) (p1 q1 : Int32) : Prop := (ww_T R w c k ov t r < 1000000 → fw_ok R w c k ov t 1000000 (ww_T R w c k ov t) r p1 q1) ∧ (¬ ww_T R w c k ov t r < 1000000 → p1 = -1 ∧ q1 = -1)
theorem as_r (h : ∃ r t, asks R x ov z r t) : ix x R := by
  obtain ⟨r, t, h⟩ := h
  exact ⟨r, h.1, h.2.1⟩
theorem as_z (h : ∃ r t, asks R x ov z r t) : (ov ≠ 0 → ix z 16) ∧ (ov = 0 → ix z R) := by
  obtain ⟨r, t, h⟩ := h
  exact ⟨fun h0 => ⟨t, h.2.2.2.1 h0, h.2.2.1⟩, fun h0 => ⟨t, h.2.2.2.2 h0, h.2.2.1⟩⟩
theorem as_no (h : ¬ ∃ r t, asks R x ov z r t) : ¬ ∃ r t, come R w c k x ov z r t := fun ⟨r, t, h1⟩ => h ⟨r, t, h1.1⟩
theorem as_no2 (hR : R ≤ 10) (h : asks R x ov z r t) (hk : ¬ ww_T R w c k ov t r < 1000000) : ¬ ∃ r t, come R w c k x ov z r t := come_no hR h (by omega)
/-- the walk's next place -/
theorem wk_step {a m : Nat} {p1 q1 : Int32} (hok : ww_ok R w c) (haR : a < R) (haK : ww_T R w c k ov t a < 1000000) (hws : wks (ww_tg w k ov t) (ww_E R w k) (ww_c c) 1000000 (ww_T R w c k ov t) m r a) (h : ch_ok R w c k ov t a p1 q1) :
    (∃ b, q1 = nI b ∧ b < R ∧ ww_T R w c k ov t b < 1000000 ∧ wks (ww_tg w k ov t) (ww_E R w k) (ww_c c) 1000000 (ww_T R w c k ov t) (m + 1) r b) ∨ (q1 = -1 ∧ ¬ ∃ b, wks (ww_tg w k ov t) (ww_E R w k) (ww_c c) 1000000 (ww_T R w c k ov t) (m + 1) r b) := by
  have hf := h.1 haK
  by_cases htg : ww_tg w k ov t a
  · exact Or.inr ⟨(hf.1 htg).1, wks_end hws htg⟩
  · obtain ⟨p, b, h1, h2, h3⟩ := hf.2 htg
    obtain ⟨g1, g2⟩ := dm_way_less (ww_gr hok) (ww_T_ok hok k ov t) haR htg haK h3
    exact Or.inl ⟨b, h2, g1, by omega, a, hws, htg, p, h3⟩
theorem rc_cnt (hok : ww_ok R w c) (hr : r < R) {n : Nat} (h : n = dm_cnt (fun a => decide (ww_T R w c k 0 a r < 1000000)) R) : n = dm_cnt (fun a => decide (ww_T R w c k 0 r a < 1000000)) R := by
  rw [h]
  apply Nat.le_antisymm
  · exact dm_cnt_mono (fun j hj hp => decide_eq_true ((ww_sym hok hr hj).mp (of_decide_eq_true hp)))
  · exact dm_cnt_mono (fun j hj hp => decide_eq_true ((ww_sym hok hr hj).mpr (of_decide_eq_true hp)))
theorem fa_m1 (hok : ww_ok R w c) {v : Int32} (h : fa_ok R w c k x ov z v) : v = -1 ↔ ¬ ∃ r t, come R w c k x ov z r t := by
  rcases h with ⟨r, t, h1, h2⟩ | ⟨h1, h2⟩
  · refine ⟨fun e => absurd (h2.symm.trans e) (nI_m1 (by have := h1.2; omega)), fun h => absurd ⟨r, t, h1⟩ h⟩
  · exact ⟨fun _ => h2, fun _ => h1⟩
theorem fa_0 {v : Int32} (hr : r < R) (ht : t < R) (hok : ww_ok R w c) (h : fa_ok R w c k (nI r) 0 (nI t) v) : v = -1 ↔ ¬ ww_T R w c k 0 t r < 1000000 := by
  have ha : asks R (nI r) 0 (nI t) r t := ⟨hr, rfl, rfl, fun h => absurd rfl h, fun _ => ht⟩
  rw [fa_m1 hok h]
  refine ⟨fun h1 h2 => h1 ⟨r, t, ha, h2⟩, fun h1 => as_no2 hok.2.1 ha h1⟩
theorem ch_po {p1 q1 : Int32} (hR : R ≤ 10) (ha : asks R x ov z r t) (h : ch_ok R w c k ov t r p1 q1) : po_ok R w c k x ov z p1 := by
  by_cases hTK : ww_T R w c k ov t r < 1000000
  · exact Or.inl ⟨r, t, ⟨ha, hTK⟩, _, h.1 hTK⟩
  · exact Or.inr ⟨(h.2 hTK).1, as_no2 hR ha hTK⟩
theorem ch_nx {p1 q1 : Int32} (hR : R ≤ 10) (ha : asks R x ov z r t) (h : ch_ok R w c k ov t r p1 q1) : nx_ok R w c k x ov z q1 := by
  by_cases hTK : ww_T R w c k ov t r < 1000000
  · exact Or.inl ⟨r, t, ⟨ha, hTK⟩, _, h.1 hTK⟩
  · exact Or.inr ⟨(h.2 hTK).2, as_no2 hR ha hTK⟩
end
end
section
set_option maxHeartbeats 4000000 in
set_option maxRecDepth 100000 in
theorem k_X1_choose (l : Launch) (D : va_G) (ad : Nat → Nat) (tt : Nat → ClassId) (R : Nat) (w c k d : Nat → Int32) (wp wr : Int32) (hok : ww_ok R w c) (ov : Int32) (t : Nat) (ht : t < 16) (hd : ∀ a, a < R → d a = nI (ww_M R w c k ov t a)) (r : Nat) (hrR : r < R) : xMv l yX1_choose wsX1_choose { frames := 2, cells := 0, slots := 0, locals := 47 } D (tyM tt) [.ref (ad 0), .int (nI r), .int ov, .int (nI t)] (mw ad tt R w c k d wp wr) (fun u : Int32 × Int32 => mw ad tt R w c k d u.1 u.2) (fun u => ch_ok R w c k ov t r u.1 u.2) := by
  refine xe_v (cc := cX1_choose) (maxL := 7) (ret := none) (lvl := [(0, .ref (ad 0)), (1, .int (nI r)), (2, .int ov), (3, .int (nI t))]) (by decide) rfl (Nat.le_of_ble_eq_true rfl) rfl ?_
  intro p e s m below meth cd A ls hx hb hr hlocks hml hown hts hA hP hK hD hS hl
  have hin : ∀ w ∈ wsX10, w ∈ wsX1_choose := fun _ h => List.mem_cons_of_mem _ (List.mem_append_right _ h)
  have S0 : CallFix p m cd cX1_choose 7 s (([.ref (ad 0), .int (nI r), .int ov, .int (nI t)] : List Value).toArray) wsX1_choose RX1 := ⟨hx, hb, hml, hown, hts⟩
  obtain ⟨H, hH⟩ : ∃ H, H = s.heap := ⟨_, rfl⟩
  obtain ⟨locs, hlocs⟩ : ∃ q : List Loc, q = [] := ⟨_, rfl⟩
  have hP : va_P D vwCl (mw ad tt R w c k d wp wr) H := by rw [hH]; exact hP
  have hS : va_S A s.heap H locs := by rw [hH, hlocs]; exact hS
  suffices hgo : W p l e (headSpec wsX1_choose ({ frames := 2, cells := 0, slots := 0, locals := 47 } : Room)).room s m (([.ref (ad 0), .int (nI r), .int ov, .int (nI t)] : List Value).toArray) below meth cd H locs 0 0 (MQ below (va_Qv (fun u => ch_ok R w c k ov t r u.1 u.2) (xB D (tyM tt) A (fun u : Int32 × Int32 => mw ad tt R w c k d u.1 u.2)) A) ([.ref (ad 0), .int (nI r), .int ov, .int (nI t)] : List Value).toArray s 0 0 A) (F0 m 0 ls []) by rw [hH, hlocs] at hgo; exact hgo
  clear hH hlocs
  have f_distance := hts (.fieldLink RX1 20 "WireWaysModel" "distance" "[I") (by decide +kernel)
  have f_routers := hts (.fieldLink RX1 23 "WireWaysModel" "routers" "I") (by decide +kernel)
  have f_wayPort := hts (.fieldLink RX1 51 "WireWaysModel" "wayPort" "I") (by decide +kernel)
  have f_wayRouter := hts (.fieldLink RX1 54 "WireWaysModel" "wayRouter" "I") (by decide +kernel)
  have hR : R ≤ 10 := hok.2.1
  have hR1 : 1 ≤ R := hok.1
  have hdd : ∀ a, a < R → d a = nI (ww_M R w c k ov t a) ∧ ww_M R w c k ov t a ≤ 100000 := fun a h => ⟨hd a h, (ww_M_ok hok k ov t).1 a h⟩
  have hMr := (hdd r hrR).2
  refine lv_aload_n hx hb dX1_choose_0 rfl (lv_at hl 0 rfl) ?_
  refine lv_iconst (v := (-1)) hx hb dX1_choose_1 (by decide) ?_
  refine x1_put (v := .int (-1)) S0 hin hK hP hD hS 5 (by decide) f_wayPort rfl rfl rfl rfl rfl (Nat.le_of_ble_eq_true rfl) dX1_choose_2 (fun H locs hP hD hS => ?_)
  have hP : va_P D vwCl (mw ad tt R w c k d (-1) wr) H := hP
  have hD : va_D A (mw ad tt R w c k d (-1) wr) := hD
  refine lv_aload_n hx hb dX1_choose_5 rfl (lv_at hl 0 rfl) ?_
  refine lv_iconst (v := (-1)) hx hb dX1_choose_6 (by decide) ?_
  refine x1_put (v := .int (-1)) S0 hin hK hP hD hS 6 (by decide) f_wayRouter rfl rfl rfl rfl rfl (Nat.le_of_ble_eq_true rfl) dX1_choose_7 (fun H locs hP hD hS => ?_)
  have hP : va_P D vwCl (mw ad tt R w c k d (-1) (-1)) H := hP
  have hD : va_D A (mw ad tt R w c k d (-1) (-1)) := hD
  refine lv_aload_n hx hb dX1_choose_10 rfl (lv_at hl 0 rfl) ?_
  refine x1_get (v := .ref (ad 4)) S0 hin hK hP 4 (by decide) f_distance rfl rfl dX1_choose_11 ?_
  refine lv_iload_n hx hb dX1_choose_14 rfl (lv_at hl 1 rfl) ?_
  refine va_iald hx hb hK hP 4 3 rfl rfl (vp_in_nI (by omega) (by omega)) dX1_choose_15 ?_
  refine xt_eq (z := d r) (congrArg d (nI_clamp (by omega))) ?_
  refine xt_eq (z := nI (ww_M R w c k ov t r)) (hd r hrR) ?_
  refine lv_ldc (v := 100000) hx hb hown (hts (.constant RX1 42 100000) (by decide +kernel)) dX1_choose_16 ?_
  refine lv_icmp_lt (tgt := 22) hx hb dX1_choose_18 (by decide) (fun c_1 => ?_) (fun c_1 => ?_)
  · have hlt : ww_M R w c k ov t r < 100000 := (nI_ltI (b := 100000) (by omega) (by omega)).mp c_1
    have hTK := (ww_M_iff hok hrR).mp hlt
    refine lv_aload_n hx hb dX1_choose_22 rfl (lv_at hl 0 rfl) ?_
    refine lv_iload_n hx hb dX1_choose_23 rfl (lv_at hl 1 rfl) ?_
    refine lv_iload_n hx hb dX1_choose_24 rfl (lv_at hl 2 rfl) ?_
    refine lv_iload_n hx hb dX1_choose_25 rfl (lv_at hl 3 rfl) ?_
    refine xs_Vi (wr := []) (q0 := 0) (ci := 1) (nA := 3) (As := [.int (nI r), .int ov, .int (nI t)]) (rest := []) S0 (k_X1_isAt l D ad tt R w c k d (-1) (-1) r ov t (by omega) (fun _ => by omega) (by omega)) gX1_choose_X1_isAt rfl ⟨rfl, rfl⟩ (by decide +kernel) rfl ⟨Nat.le_of_ble_eq_true rfl, Nat.le_of_ble_eq_true rfl⟩ ⟨Nat.le_of_ble_eq_true rfl, Nat.le_of_ble_eq_true rfl⟩ hK hP hD hS hA [0, 1, 2, 3, 4] [] rfl rfl (by decide) (by decide) (by decide) rfl rfl rfl hl.1 rfl (Nat.le_of_ble_eq_true rfl) dX1_choose_26 (fun r_2 u H locs hw hP hD hS => ?_)
    have hP : va_P D vwCl (mw ad tt R w c k d (-1) (-1)) H := hP
    have hD : va_D A (mw ad tt R w c k d (-1) (-1)) := hD
    rcases hw with ⟨rfl, h_tg⟩ | ⟨rfl, h_tg⟩
    · refine lv_if_eq (tgt := 51) hx hb dX1_choose_29 (by decide) (fun c_3 => absurd c_3 (by decide)) (fun c_3 => ?_)
      refine lv_aload_n hx hb dX1_choose_32 rfl (lv_at hl 0 rfl) ?_
      refine lv_iload_n hx hb dX1_choose_33 rfl (lv_at hl 2 rfl) ?_
      refine lv_if_eq (tgt := 46) hx hb dX1_choose_34 (by decide) (fun c_4 => ?_) (fun c_4 => ?_)
      · have hov := c_4
        refine lv_iconst (v := (-1)) hx hb dX1_choose_46 (by decide) ?_
        refine x1_put (v := .int (-1)) S0 hin hK hP hD hS 5 (by decide) f_wayPort rfl rfl rfl rfl rfl (Nat.le_of_ble_eq_true rfl) dX1_choose_47 (fun H locs hP hD hS => ?_)
        have hP : va_P D vwCl (mw ad tt R w c k d (-1) (-1)) H := hP
        have hD : va_D A (mw ad tt R w c k d (-1) (-1)) := hD
        exact xr_v hx hb hr hlocks ((-1), (-1)) (by first | exact ⟨fun h => absurd h hge, fun _ => ⟨rfl, rfl⟩⟩ | exact ⟨fun _ => ⟨fun _ => ⟨rfl, fun _ => rfl, fun h => absurd hov h⟩, fun h => absurd h_tg h⟩, fun h => absurd hTK h⟩) hP hK hD hS dX1_choose_50
      · have hov := c_4
        refine lv_aload_n hx hb dX1_choose_37 rfl (lv_at hl 0 rfl) ?_
        refine lv_iload_n hx hb dX1_choose_38 rfl (lv_at hl 1 rfl) ?_
        refine lv_iload_n hx hb dX1_choose_39 rfl (lv_at hl 3 rfl) ?_
        refine xs_Vi (wr := []) (q0 := 0) (ci := 1) (nA := 2) (As := [.int (nI r), .int (nI t)]) (rest := [.ref (ad 0)]) S0 (k_X1_portOn l D ad tt R w c k d (-1) (-1) r (nI t) (by omega)) gX1_choose_X1_portOn rfl ⟨rfl, rfl⟩ (by decide +kernel) rfl ⟨Nat.le_of_ble_eq_true rfl, Nat.le_of_ble_eq_true rfl⟩ ⟨Nat.le_of_ble_eq_true rfl, Nat.le_of_ble_eq_true rfl⟩ hK hP hD hS hA [0, 1, 2, 3, 4] [] rfl rfl (by decide) (by decide) (by decide) rfl rfl rfl hl.1 rfl (Nat.le_of_ble_eq_true rfl) dX1_choose_40 (fun r_5 u H locs hw hP hD hS => ?_)
        have hP : va_P D vwCl (mw ad tt R w c k d (-1) (-1)) H := hP
        have hD : va_D A (mw ad tt R w c k d (-1) (-1)) := hD
        have h_po := hw
        refine lv_goto (tgt := 47) hx hb dX1_choose_43 (by decide) ?_
        refine x1_put (v := .int r_5) S0 hin hK hP hD hS 5 (by decide) f_wayPort rfl rfl rfl rfl rfl (Nat.le_of_ble_eq_true rfl) dX1_choose_47 (fun H locs hP hD hS => ?_)
        have hP : va_P D vwCl (mw ad tt R w c k d r_5 (-1)) H := hP
        have hD : va_D A (mw ad tt R w c k d r_5 (-1)) := hD
        exact xr_v hx hb hr hlocks (r_5, (-1)) ⟨fun _ => ⟨fun _ => ⟨rfl, fun h => absurd h hov, fun _ => h_po⟩, fun h => absurd h_tg h⟩, fun h => absurd hTK h⟩ hP hK hD hS dX1_choose_50
    · refine lv_if_eq (tgt := 51) hx hb dX1_choose_29 (by decide) (fun c_6 => ?_) (fun c_6 => absurd c_6 (by decide))
      refine lv_ldc (v := 100000) hx hb hown (hts (.constant RX1 42 100000) (by decide +kernel)) dX1_choose_51 ?_
      refine lv_istore (lv' := [(4, .int 100000), (0, .ref (ad 0)), (1, .int (nI r)), (2, .int ov), (3, .int (nI t))]) hx hb dX1_choose_53 hl (by decide) rfl (fun ls hl => ?_)
      refine lv_iconst (v := 0) hx hb dX1_choose_55 (by decide) ?_
      refine lv_istore (lv' := [(5, .int 0), (4, .int 100000), (0, .ref (ad 0)), (1, .int (nI r)), (2, .int ov), (3, .int (nI t))]) hx hb dX1_choose_56 hl (by decide) rfl (fun ls hl => ?_)
      have lp58 : ∀ (fuel : Nat) (κ : Nat) (lt : Nat) (p1 : Int32) (q1 : Int32), (κ ≤ 4 * R) → (lt ≤ 100000) → (cw_in R (ww_E R w k) (ww_c c) 100000 (ww_M R w c k ov t) r κ lt p1 q1) → 4 * R - κ < fuel → ∀ (H : Heap) (locs : List Loc) (ls : Array Slot), va_P D vwCl (mw ad tt R w c k d p1 q1) H → va_D A (mw ad tt R w c k d p1 q1) → va_S A s.heap H locs → lv_has ls 7 [(5, .int (nI κ)), (4, .int (nI lt)), (0, .ref (ad 0)), (1, .int (nI r)), (2, .int ov), (3, .int (nI t))] → W p l e (headSpec wsX1_choose ({ frames := 2, cells := 0, slots := 0, locals := 47 } : Room)).room s m ([.ref (ad 0), .int (nI r), .int ov, .int (nI t)] : List Value).toArray below meth cd H locs 0 0 (MQ below (va_Qv (fun u => ch_ok R w c k ov t r u.1 u.2) (xB D (tyM tt) A (fun u : Int32 × Int32 => mw ad tt R w c k d u.1 u.2)) A) ([.ref (ad 0), .int (nI r), .int ov, .int (nI t)] : List Value).toArray s 0 0 A) (F0 m 58 ls []) := by
        intro fuel
        induction fuel with
        | zero => intro κ lt p1 q1 hκ0 hlK hcw hm; exact absurd hm (Nat.not_lt_zero _)
        | succ fuel ih58 =>
          intro κ lt p1 q1 hκ0 hlK hcw hm H locs ls hP hD hS hl
          refine lv_iload hx hb dX1_choose_58 (lv_at hl 0 rfl) ?_
          refine lv_iconst (v := 4) hx hb dX1_choose_60 (by decide) ?_
          refine lv_aload_n hx hb dX1_choose_61 rfl (lv_at hl 2 rfl) ?_
          refine x1_get (v := .int (nI R)) S0 hin hK hP 0 (by decide) f_routers rfl rfl dX1_choose_62 ?_
          refine lv_imul hx hb dX1_choose_65 ?_
          refine xt_eq (z := nI (4 * R)) (pk_mul 4 R) ?_
          refine lv_icmp_ge (tgt := 132) hx hb dX1_choose_66 (by decide) (fun c_7 => ?_) (fun c_7 => ?_)
          · have hκ : 4 * R ≤ κ := (nI_leI (by omega) (by omega)).mp c_7
            exact xr_v hx hb hr hlocks (p1, q1) ⟨fun _ => ⟨fun h => absurd h h_tg, fun _ => by obtain ⟨p9, b9, e1, e2, e3⟩ := cw_way hcw hκ (by obtain ⟨p8, b8, hE8, hq8⟩ := (ww_M_ok hok k ov t).2.2.2 r hrR h_tg hlt; exact ⟨p8, b8, hE8, by omega⟩); exact ⟨p9, b9, e1, e2, ww_M_way hok e3⟩⟩, fun h => absurd hTK h⟩ hP hK hD hS dX1_choose_132
          · have hκ : κ < 4 * R := Nat.lt_of_not_le (fun h => c_7 (nI_le h (by omega)))
            refine lv_aload_n hx hb dX1_choose_69 rfl (lv_at hl 2 rfl) ?_
            refine lv_iload_n hx hb dX1_choose_70 rfl (lv_at hl 3 rfl) ?_
            refine lv_iload hx hb dX1_choose_71 (lv_at hl 0 rfl) ?_
            refine lv_aload_n hx hb dX1_choose_73 rfl (lv_at hl 2 rfl) ?_
            refine x1_get (v := .int (nI R)) S0 hin hK hP 0 (by decide) f_routers rfl rfl dX1_choose_74 ?_
            refine lv_idiv hx hb dX1_choose_77 (nI_ne0 (by omega) (by omega)) ?_
            refine xt_eq (z := nI (κ / R)) (pk_div (by omega) (by omega) (by omega)) ?_
            refine lv_iload hx hb dX1_choose_78 (lv_at hl 0 rfl) ?_
            refine lv_aload_n hx hb dX1_choose_80 rfl (lv_at hl 2 rfl) ?_
            refine x1_get (v := .int (nI R)) S0 hin hK hP 0 (by decide) f_routers rfl rfl dX1_choose_81 ?_
            refine lv_irem hx hb dX1_choose_84 (nI_ne0 (by omega) (by omega)) ?_
            refine xt_eq (z := nI (κ % R)) (pk_rem (by omega) (by omega) (by omega)) ?_
            refine xs_Vi (wr := []) (q0 := 0) (ci := 1) (nA := 3) (As := [.int (nI r), .int (nI (κ / R)), .int (nI (κ % R))]) (rest := []) S0 (k_X1_by l D ad tt R w c k d p1 q1 hok (ww_M R w c k ov t) hdd r (κ / R) (κ % R) hrR (pr_4 hκ) (Nat.mod_lt _ (by omega))) gX1_choose_X1_by rfl ⟨rfl, rfl⟩ (by decide +kernel) rfl ⟨Nat.le_of_ble_eq_true rfl, Nat.le_of_ble_eq_true rfl⟩ ⟨Nat.le_of_ble_eq_true rfl, Nat.le_of_ble_eq_true rfl⟩ hK hP hD hS hA [0, 1, 2, 3, 4] [] rfl rfl (by decide) (by decide) (by decide) rfl rfl rfl hl.1 rfl (Nat.le_of_ble_eq_true rfl) dX1_choose_85 (fun r_8 u H locs hw hP hD hS => ?_)
            have hP : va_P D vwCl (mw ad tt R w c k d p1 q1) H := hP
            have hD : va_D A (mw ad tt R w c k d p1 q1) := hD
            obtain ⟨dv, rfl, hdv⟩ := hw
            have hdvb := by_le hok hdv
            refine lv_istore (lv' := [(6, .int (nI dv)), (5, .int (nI κ)), (4, .int (nI lt)), (0, .ref (ad 0)), (1, .int (nI r)), (2, .int ov), (3, .int (nI t))]) hx hb dX1_choose_88 hl (by decide) rfl (fun ls hl => ?_)
            refine lv_iload hx hb dX1_choose_90 (lv_at hl 0 rfl) ?_
            refine lv_iload hx hb dX1_choose_92 (lv_at hl 2 rfl) ?_
            refine lv_icmp_lt (tgt := 100) hx hb dX1_choose_94 (by decide) (fun c_9 => ?_) (fun c_9 => ?_)
            · have hcmp : dv < lt := (nI_ltI (by omega) (by omega)).mp c_9
              refine lv_iload hx hb dX1_choose_100 (lv_at hl 0 rfl) ?_
              refine lv_istore (lv' := [(4, .int (nI dv)), (6, .int (nI dv)), (5, .int (nI κ)), (0, .ref (ad 0)), (1, .int (nI r)), (2, .int ov), (3, .int (nI t))]) hx hb dX1_choose_102 hl (by decide) rfl (fun ls hl => ?_)
              refine lv_aload_n hx hb dX1_choose_104 rfl (lv_at hl 3 rfl) ?_
              refine lv_iload hx hb dX1_choose_105 (lv_at hl 2 rfl) ?_
              refine lv_aload_n hx hb dX1_choose_107 rfl (lv_at hl 3 rfl) ?_
              refine x1_get (v := .int (nI R)) S0 hin hK hP 0 (by decide) f_routers rfl rfl dX1_choose_108 ?_
              refine lv_idiv hx hb dX1_choose_111 (nI_ne0 (by omega) (by omega)) ?_
              refine xt_eq (z := nI (κ / R)) (pk_div (by omega) (by omega) (by omega)) ?_
              refine x1_put (v := .int (nI (κ / R))) S0 hin hK hP hD hS 5 (by decide) f_wayPort rfl rfl rfl rfl rfl (Nat.le_of_ble_eq_true rfl) dX1_choose_112 (fun H locs hP hD hS => ?_)
              have hP : va_P D vwCl (mw ad tt R w c k d (nI (κ / R)) q1) H := hP
              have hD : va_D A (mw ad tt R w c k d (nI (κ / R)) q1) := hD
              refine lv_aload_n hx hb dX1_choose_115 rfl (lv_at hl 3 rfl) ?_
              refine lv_iload hx hb dX1_choose_116 (lv_at hl 2 rfl) ?_
              refine lv_aload_n hx hb dX1_choose_118 rfl (lv_at hl 3 rfl) ?_
              refine x1_get (v := .int (nI R)) S0 hin hK hP 0 (by decide) f_routers rfl rfl dX1_choose_119 ?_
              refine lv_irem hx hb dX1_choose_122 (nI_ne0 (by omega) (by omega)) ?_
              refine xt_eq (z := nI (κ % R)) (pk_rem (by omega) (by omega) (by omega)) ?_
              refine x1_put (v := .int (nI (κ % R))) S0 hin hK hP hD hS 6 (by decide) f_wayRouter rfl rfl rfl rfl rfl (Nat.le_of_ble_eq_true rfl) dX1_choose_123 (fun H locs hP hD hS => ?_)
              have hP : va_P D vwCl (mw ad tt R w c k d (nI (κ / R)) (nI (κ % R))) H := hP
              have hD : va_D A (mw ad tt R w c k d (nI (κ / R)) (nI (κ % R))) := hD
              refine lv_iinc (v := nI (κ + 1)) (lv' := [(5, .int (nI (κ + 1))), (4, .int (nI dv)), (6, .int (nI dv)), (0, .ref (ad 0)), (1, .int (nI r)), (2, .int ov), (3, .int (nI t))]) hx hb dX1_choose_126 hl (k := 2) rfl (nI_1 κ) (by decide) rfl (fun ls hl => ?_)
              refine lv_goto (tgt := 58) hx hb dX1_choose_129 (by decide) ?_
              exact ih58 (κ + 1) dv (nI (κ / R)) (nI (κ % R)) (by omega) (by omega) (cw_put hcw hdv (by omega) hlK hcmp) (by omega) H locs ls hP hD hS (lv_sub hl [0, 1, 3, 4, 5, 6] rfl)
            · have hcmp : lt ≤ dv := Nat.le_of_not_lt (fun h => c_9 (nI_lt h (by omega)))
              refine lv_goto (tgt := 126) hx hb dX1_choose_97 (by decide) ?_
              refine lv_iinc (v := nI (κ + 1)) (lv' := [(5, .int (nI (κ + 1))), (6, .int (nI dv)), (4, .int (nI lt)), (0, .ref (ad 0)), (1, .int (nI r)), (2, .int ov), (3, .int (nI t))]) hx hb dX1_choose_126 hl (k := 1) rfl (nI_1 κ) (by decide) rfl (fun ls hl => ?_)
              refine lv_goto (tgt := 58) hx hb dX1_choose_129 (by decide) ?_
              exact ih58 (κ + 1) lt p1 q1 (by omega) hlK (cw_skip hcw hdv (fun b hbR h => by have h8 := (ww_M_iff hok hbR).mp h; rw [ww_M_1 h8]; exact ww_M_lt hok hbR h8) hok hcmp) (by omega) H locs ls hP hD hS (lv_sub hl [0, 2, 3, 4, 5, 6] rfl)
      exact lp58 _ 0 100000 (-1) (-1) (by omega) (by omega) cw_0 (Nat.lt_succ_self _) H locs ls hP hD hS (lv_sub hl [0, 1, 2, 3, 4, 5] rfl)
  · have hge : ¬ ww_T R w c k ov t r < 1000000 := fun h => c_1 (nI_lt (b := 100000) ((ww_M_iff hok hrR).mpr h) (by omega))
    exact xr_v hx hb hr hlocks ((-1), (-1)) (by first | exact ⟨fun h => absurd h hge, fun _ => ⟨rfl, rfl⟩⟩ | exact ⟨fun _ => ⟨fun _ => ⟨rfl, fun _ => rfl, fun h => absurd hov h⟩, fun h => absurd h_tg h⟩, fun h => absurd hTK h⟩) hP hK hD hS dX1_choose_21
set_option maxHeartbeats 4000000 in
set_option maxRecDepth 100000 in
theorem k_X1_isAsked (l : Launch) (D : va_G) (ad : Nat → Nat) (tt : Nat → ClassId) (R : Nat) (w c k d : Nat → Int32) (wp wr : Int32) (hok : ww_ok R w c) (x ov z : Int32) : xMi l yX1_isAsked wsX1_isAsked { frames := 3, cells := 0, slots := 0, locals := 73 } D (tyM tt) [.ref (ad 0), .int x, .int ov, .int z] (mw ad tt R w c k d wp wr) (fun u : (Nat → Int32) × (Int32 × Int32) => mw ad tt R w c k u.1 u.2.1 u.2.2) (fun v u => (v = 1 ∧ ∃ r t, asks R x ov z r t ∧ (∀ a, a < R → u.1 a = nI (ww_M R w c k ov t a)) ∧ ch_ok R w c k ov t r u.2.1 u.2.2) ∨ (v = 0 ∧ ¬ ∃ r t, asks R x ov z r t)) := by
  refine xe_i (cc := cX1_isAsked) (maxL := 4) (ret := (some .boolean)) (lvl := [(0, .ref (ad 0)), (1, .int x), (2, .int ov), (3, .int z)]) (by decide) rfl (Nat.le_of_ble_eq_true rfl) rfl ?_
  intro p e s m below meth cd A ls hx hb hr hlocks hml hown hts hA hP hK hD hS hl
  have hin : ∀ w ∈ wsX10, w ∈ wsX1_isAsked := fun _ h => List.mem_cons_of_mem _ (List.mem_append_right _ h)
  have S0 : CallFix p m cd cX1_isAsked 4 s (([.ref (ad 0), .int x, .int ov, .int z] : List Value).toArray) wsX1_isAsked RX1 := ⟨hx, hb, hml, hown, hts⟩
  obtain ⟨H, hH⟩ : ∃ H, H = s.heap := ⟨_, rfl⟩
  obtain ⟨locs, hlocs⟩ : ∃ q : List Loc, q = [] := ⟨_, rfl⟩
  have hP : va_P D vwCl (mw ad tt R w c k d wp wr) H := by rw [hH]; exact hP
  have hS : va_S A s.heap H locs := by rw [hH, hlocs]; exact hS
  suffices hgo : W p l e (headSpec wsX1_isAsked ({ frames := 3, cells := 0, slots := 0, locals := 73 } : Room)).room s m (([.ref (ad 0), .int x, .int ov, .int z] : List Value).toArray) below meth cd H locs 0 0 (MQ below (va_Qi (fun v u => (v = 1 ∧ ∃ r t, asks R x ov z r t ∧ (∀ a, a < R → u.1 a = nI (ww_M R w c k ov t a)) ∧ ch_ok R w c k ov t r u.2.1 u.2.2) ∨ (v = 0 ∧ ¬ ∃ r t, asks R x ov z r t)) (xB D (tyM tt) A (fun u : (Nat → Int32) × (Int32 × Int32) => mw ad tt R w c k u.1 u.2.1 u.2.2)) A) ([.ref (ad 0), .int x, .int ov, .int z] : List Value).toArray s 0 0 A) (F0 m 0 ls []) by rw [hH, hlocs] at hgo; exact hgo
  clear hH hlocs
  have hR : R ≤ 10 := hok.2.1
  refine lv_aload_n hx hb dX1_isAsked_0 rfl (lv_at hl 0 rfl) ?_
  refine lv_iload_n hx hb dX1_isAsked_1 rfl (lv_at hl 1 rfl) ?_
  refine xs_Vi (wr := []) (q0 := 0) (ci := 1) (nA := 1) (As := [.int x]) (rest := []) S0 (k_X1_isRouter l D ad tt R w c k d wp wr x hR) gX1_isAsked_X1_isRouter rfl ⟨rfl, rfl⟩ (by decide +kernel) rfl ⟨Nat.le_of_ble_eq_true rfl, Nat.le_of_ble_eq_true rfl⟩ ⟨Nat.le_of_ble_eq_true rfl, Nat.le_of_ble_eq_true rfl⟩ hK hP hD hS hA [0, 1, 2, 3, 4] [] rfl rfl (by decide) (by decide) (by decide) rfl rfl rfl hl.1 rfl (Nat.le_of_ble_eq_true rfl) dX1_isAsked_2 (fun r_1 u H locs hw hP hD hS => ?_)
  have hP : va_P D vwCl (mw ad tt R w c k d wp wr) H := hP
  have hD : va_D A (mw ad tt R w c k d wp wr) := hD
  rcases hw with ⟨rfl, h_r⟩ | ⟨rfl, h_r⟩
  · refine lv_if_eq (tgt := 30) hx hb dX1_isAsked_5 (by decide) (fun c_2 => absurd c_2 (by decide)) (fun c_2 => ?_)
    refine lv_iload_n hx hb dX1_isAsked_8 rfl (lv_at hl 2 rfl) ?_
    refine lv_if_eq (tgt := 22) hx hb dX1_isAsked_9 (by decide) (fun c_3 => ?_) (fun c_3 => ?_)
    · have hov := c_3
      refine lv_aload_n hx hb dX1_isAsked_22 rfl (lv_at hl 0 rfl) ?_
      refine lv_iload_n hx hb dX1_isAsked_23 rfl (lv_at hl 3 rfl) ?_
      refine xs_Vi (wr := []) (q0 := 0) (ci := 1) (nA := 1) (As := [.int z]) (rest := []) S0 (k_X1_isRouter l D ad tt R w c k d wp wr z hR) gX1_isAsked_X1_isRouter rfl ⟨rfl, rfl⟩ (by decide +kernel) rfl ⟨Nat.le_of_ble_eq_true rfl, Nat.le_of_ble_eq_true rfl⟩ ⟨Nat.le_of_ble_eq_true rfl, Nat.le_of_ble_eq_true rfl⟩ hK hP hD hS hA [0, 1, 2, 3, 4] [] rfl rfl (by decide) (by decide) (by decide) rfl rfl rfl hl.1 rfl (Nat.le_of_ble_eq_true rfl) dX1_isAsked_24 (fun r_4 u H locs hw hP hD hS => ?_)
      have hP : va_P D vwCl (mw ad tt R w c k d wp wr) H := hP
      have hD : va_D A (mw ad tt R w c k d wp wr) := hD
      rcases hw with ⟨rfl, h_z⟩ | ⟨rfl, h_z⟩
      · refine lv_if_ne (tgt := 32) hx hb dX1_isAsked_27 (by decide) (fun c_5 => ?_) (fun c_5 => absurd c_5 (by decide))
        obtain ⟨r, hrR, rfl⟩ := h_r
        obtain ⟨t, rfl, ht0⟩ : ∃ t, z = nI t ∧ ((ov ≠ 0 → t < 16) ∧ (ov = 0 → t < R)) := by first | (obtain ⟨t, h1, h2⟩ := h_w; exact ⟨t, h2, fun _ => h1, fun h => absurd h hov⟩) | (obtain ⟨t, h1, h2⟩ := h_z; exact ⟨t, h2, fun h => absurd hov h, fun _ => h1⟩)
        have hask : asks R (nI r) ov (nI t) r t := ⟨hrR, rfl, rfl, ht0⟩
        have ht16 := asks_t hR hask
        refine lv_aload_n hx hb dX1_isAsked_32 rfl (lv_at hl 0 rfl) ?_
        refine lv_iload_n hx hb dX1_isAsked_33 rfl (lv_at hl 2 rfl) ?_
        refine lv_iload_n hx hb dX1_isAsked_34 rfl (lv_at hl 3 rfl) ?_
        refine xs_Vv (wr := []) (q0 := 0) (ci := 1) (nA := 2) (As := [.int ov, .int (nI t)]) (rest := []) S0 (k_X1_reckon l D ad tt R w c k d wp wr hok ov t ht16 (ww_M R w c k ov t) (ww_M_ok hok k ov t)) gX1_isAsked_X1_reckon rfl ⟨rfl, rfl⟩ (by decide +kernel) rfl ⟨Nat.le_of_ble_eq_true rfl, Nat.le_of_ble_eq_true rfl⟩ ⟨Nat.le_of_ble_eq_true rfl, Nat.le_of_ble_eq_true rfl⟩ hK hP hD hS hA [0, 1, 2, 3, 4] [] rfl rfl (by decide) (by decide) (by decide) rfl rfl rfl hl.1 rfl (Nat.le_of_ble_eq_true rfl) dX1_isAsked_35 (fun u1 H locs hw hP hD hS => ?_)
        have hP : va_P D vwCl (mw ad tt R w c k u1 wp wr) H := hP
        have hD : va_D A (mw ad tt R w c k u1 wp wr) := hD
        have hrow := hw
        refine lv_aload_n hx hb dX1_isAsked_38 rfl (lv_at hl 0 rfl) ?_
        refine lv_iload_n hx hb dX1_isAsked_39 rfl (lv_at hl 1 rfl) ?_
        refine lv_iload_n hx hb dX1_isAsked_40 rfl (lv_at hl 2 rfl) ?_
        refine lv_iload_n hx hb dX1_isAsked_41 rfl (lv_at hl 3 rfl) ?_
        refine xs_Vv (wr := []) (q0 := 0) (ci := 1) (nA := 3) (As := [.int (nI r), .int ov, .int (nI t)]) (rest := []) S0 (k_X1_choose l D ad tt R w c k u1 wp wr hok ov t ht16 hrow r hrR) gX1_isAsked_X1_choose rfl ⟨rfl, rfl⟩ (by decide +kernel) rfl ⟨Nat.le_of_ble_eq_true rfl, Nat.le_of_ble_eq_true rfl⟩ ⟨Nat.le_of_ble_eq_true rfl, Nat.le_of_ble_eq_true rfl⟩ hK hP hD hS hA [0, 1, 2, 3, 4] [] rfl rfl (by decide) (by decide) (by decide) rfl rfl rfl hl.1 rfl (Nat.le_of_ble_eq_true rfl) dX1_isAsked_42 (fun u2 H locs hw hP hD hS => ?_)
        have hP : va_P D vwCl (mw ad tt R w c k u1 u2.1 u2.2) H := hP
        have hD : va_D A (mw ad tt R w c k u1 u2.1 u2.2) := hD
        have hch := hw
        refine lv_iconst (v := 1) hx hb dX1_isAsked_45 (by decide) ?_
        exact xr_z hx hb hr hlocks rfl (u1, (u2.1, u2.2)) (Or.inl ⟨rfl, r, t, hask, hrow, hch⟩) hP hK hD hS dX1_isAsked_46
      · refine lv_if_ne (tgt := 32) hx hb dX1_isAsked_27 (by decide) (fun c_8 => absurd c_8 (by decide)) (fun c_8 => ?_)
        refine lv_iconst (v := 0) hx hb dX1_isAsked_30 (by decide) ?_
        exact xr_z hx hb hr hlocks rfl (d, (wp, wr)) (Or.inr ⟨rfl, fun h => by first | exact h_r (as_r h) | exact h_w ((as_z h).1 hov) | exact h_z ((as_z h).2 hov)⟩) hP hK hD hS dX1_isAsked_31
    · have hov := c_3
      refine lv_iload_n hx hb dX1_isAsked_12 rfl (lv_at hl 3 rfl) ?_
      refine xs_Si (nA := 1) (As := [.int z]) (rest := []) S0 (k_X1_isWire l D z) gX1_isAsked_X1_isWire rfl ⟨rfl, rfl⟩ (by decide +kernel) rfl ⟨Nat.le_of_ble_eq_true rfl, Nat.le_of_ble_eq_true rfl⟩ ⟨Nat.le_of_ble_eq_true rfl, Nat.le_of_ble_eq_true rfl⟩ hK hP hD hS hA hl.1 rfl (Nat.le_of_ble_eq_true rfl) dX1_isAsked_13 (fun r_9 H locs hw hP hD hS => ?_)
      rcases hw with ⟨rfl, h_w⟩ | ⟨rfl, h_w⟩
      · refine lv_if_ne (tgt := 32) hx hb dX1_isAsked_16 (by decide) (fun c_10 => ?_) (fun c_10 => absurd c_10 (by decide))
        obtain ⟨r, hrR, rfl⟩ := h_r
        obtain ⟨t, rfl, ht0⟩ : ∃ t, z = nI t ∧ ((ov ≠ 0 → t < 16) ∧ (ov = 0 → t < R)) := by first | (obtain ⟨t, h1, h2⟩ := h_w; exact ⟨t, h2, fun _ => h1, fun h => absurd h hov⟩) | (obtain ⟨t, h1, h2⟩ := h_z; exact ⟨t, h2, fun h => absurd hov h, fun _ => h1⟩)
        have hask : asks R (nI r) ov (nI t) r t := ⟨hrR, rfl, rfl, ht0⟩
        have ht16 := asks_t hR hask
        refine lv_aload_n hx hb dX1_isAsked_32 rfl (lv_at hl 0 rfl) ?_
        refine lv_iload_n hx hb dX1_isAsked_33 rfl (lv_at hl 2 rfl) ?_
        refine lv_iload_n hx hb dX1_isAsked_34 rfl (lv_at hl 3 rfl) ?_
        refine xs_Vv (wr := []) (q0 := 0) (ci := 1) (nA := 2) (As := [.int ov, .int (nI t)]) (rest := []) S0 (k_X1_reckon l D ad tt R w c k d wp wr hok ov t ht16 (ww_M R w c k ov t) (ww_M_ok hok k ov t)) gX1_isAsked_X1_reckon rfl ⟨rfl, rfl⟩ (by decide +kernel) rfl ⟨Nat.le_of_ble_eq_true rfl, Nat.le_of_ble_eq_true rfl⟩ ⟨Nat.le_of_ble_eq_true rfl, Nat.le_of_ble_eq_true rfl⟩ hK hP hD hS hA [0, 1, 2, 3, 4] [] rfl rfl (by decide) (by decide) (by decide) rfl rfl rfl hl.1 rfl (Nat.le_of_ble_eq_true rfl) dX1_isAsked_35 (fun u1 H locs hw hP hD hS => ?_)
        have hP : va_P D vwCl (mw ad tt R w c k u1 wp wr) H := hP
        have hD : va_D A (mw ad tt R w c k u1 wp wr) := hD
        have hrow := hw
        refine lv_aload_n hx hb dX1_isAsked_38 rfl (lv_at hl 0 rfl) ?_
        refine lv_iload_n hx hb dX1_isAsked_39 rfl (lv_at hl 1 rfl) ?_
        refine lv_iload_n hx hb dX1_isAsked_40 rfl (lv_at hl 2 rfl) ?_
        refine lv_iload_n hx hb dX1_isAsked_41 rfl (lv_at hl 3 rfl) ?_
        refine xs_Vv (wr := []) (q0 := 0) (ci := 1) (nA := 3) (As := [.int (nI r), .int ov, .int (nI t)]) (rest := []) S0 (k_X1_choose l D ad tt R w c k u1 wp wr hok ov t ht16 hrow r hrR) gX1_isAsked_X1_choose rfl ⟨rfl, rfl⟩ (by decide +kernel) rfl ⟨Nat.le_of_ble_eq_true rfl, Nat.le_of_ble_eq_true rfl⟩ ⟨Nat.le_of_ble_eq_true rfl, Nat.le_of_ble_eq_true rfl⟩ hK hP hD hS hA [0, 1, 2, 3, 4] [] rfl rfl (by decide) (by decide) (by decide) rfl rfl rfl hl.1 rfl (Nat.le_of_ble_eq_true rfl) dX1_isAsked_42 (fun u2 H locs hw hP hD hS => ?_)
        have hP : va_P D vwCl (mw ad tt R w c k u1 u2.1 u2.2) H := hP
        have hD : va_D A (mw ad tt R w c k u1 u2.1 u2.2) := hD
        have hch := hw
        refine lv_iconst (v := 1) hx hb dX1_isAsked_45 (by decide) ?_
        exact xr_z hx hb hr hlocks rfl (u1, (u2.1, u2.2)) (Or.inl ⟨rfl, r, t, hask, hrow, hch⟩) hP hK hD hS dX1_isAsked_46
      · refine lv_if_ne (tgt := 32) hx hb dX1_isAsked_16 (by decide) (fun c_13 => absurd c_13 (by decide)) (fun c_13 => ?_)
        refine lv_goto (tgt := 30) hx hb dX1_isAsked_19 (by decide) ?_
        refine lv_iconst (v := 0) hx hb dX1_isAsked_30 (by decide) ?_
        exact xr_z hx hb hr hlocks rfl (d, (wp, wr)) (Or.inr ⟨rfl, fun h => by first | exact h_r (as_r h) | exact h_w ((as_z h).1 hov) | exact h_z ((as_z h).2 hov)⟩) hP hK hD hS dX1_isAsked_31
  · refine lv_if_eq (tgt := 30) hx hb dX1_isAsked_5 (by decide) (fun c_14 => ?_) (fun c_14 => absurd c_14 (by decide))
    refine lv_iconst (v := 0) hx hb dX1_isAsked_30 (by decide) ?_
    exact xr_z hx hb hr hlocks rfl (d, (wp, wr)) (Or.inr ⟨rfl, fun h => by first | exact h_r (as_r h) | exact h_w ((as_z h).1 hov) | exact h_z ((as_z h).2 hov)⟩) hP hK hD hS dX1_isAsked_31
set_option maxHeartbeats 4000000 in
set_option maxRecDepth 100000 in
theorem k_X1_far (l : Launch) (D : va_G) (ad : Nat → Nat) (tt : Nat → ClassId) (R : Nat) (w c k d : Nat → Int32) (wp wr : Int32) (hok : ww_ok R w c) (x ov z : Int32) : xMi l yX1_far wsX1_far { frames := 4, cells := 0, slots := 0, locals := 96 } D (tyM tt) [.ref (ad 0), .int x, .int ov, .int z] (mw ad tt R w c k d wp wr) (fun u : (Nat → Int32) × (Int32 × Int32) => mw ad tt R w c k u.1 u.2.1 u.2.2) (fun v u => fa_ok R w c k x ov z v ∧ ∀ r t, asks R x ov z r t → ∀ a, a < R → u.1 a = nI (ww_M R w c k ov t a)) := by
  refine xe_i (cc := cX1_far) (maxL := 4) (ret := (some .int)) (lvl := [(0, .ref (ad 0)), (1, .int x), (2, .int ov), (3, .int z)]) (by decide) rfl (Nat.le_of_ble_eq_true rfl) rfl ?_
  intro p e s m below meth cd A ls hx hb hr hlocks hml hown hts hA hP hK hD hS hl
  have hin : ∀ w ∈ wsX10, w ∈ wsX1_far := fun _ h => List.mem_cons_of_mem _ (List.mem_append_right _ h)
  have S0 : CallFix p m cd cX1_far 4 s (([.ref (ad 0), .int x, .int ov, .int z] : List Value).toArray) wsX1_far RX1 := ⟨hx, hb, hml, hown, hts⟩
  obtain ⟨H, hH⟩ : ∃ H, H = s.heap := ⟨_, rfl⟩
  obtain ⟨locs, hlocs⟩ : ∃ q : List Loc, q = [] := ⟨_, rfl⟩
  have hP : va_P D vwCl (mw ad tt R w c k d wp wr) H := by rw [hH]; exact hP
  have hS : va_S A s.heap H locs := by rw [hH, hlocs]; exact hS
  suffices hgo : W p l e (headSpec wsX1_far ({ frames := 4, cells := 0, slots := 0, locals := 96 } : Room)).room s m (([.ref (ad 0), .int x, .int ov, .int z] : List Value).toArray) below meth cd H locs 0 0 (MQ below (va_Qi (fun v u => fa_ok R w c k x ov z v ∧ ∀ r t, asks R x ov z r t → ∀ a, a < R → u.1 a = nI (ww_M R w c k ov t a)) (xB D (tyM tt) A (fun u : (Nat → Int32) × (Int32 × Int32) => mw ad tt R w c k u.1 u.2.1 u.2.2)) A) ([.ref (ad 0), .int x, .int ov, .int z] : List Value).toArray s 0 0 A) (F0 m 0 ls []) by rw [hH, hlocs] at hgo; exact hgo
  clear hH hlocs
  have f_distance := hts (.fieldLink RX1 20 "WireWaysModel" "distance" "[I") (by decide +kernel)
  have hR : R ≤ 10 := hok.2.1
  refine lv_aload_n hx hb dX1_far_0 rfl (lv_at hl 0 rfl) ?_
  refine lv_iload_n hx hb dX1_far_1 rfl (lv_at hl 1 rfl) ?_
  refine lv_iload_n hx hb dX1_far_2 rfl (lv_at hl 2 rfl) ?_
  refine lv_iload_n hx hb dX1_far_3 rfl (lv_at hl 3 rfl) ?_
  refine xs_Vi (wr := []) (q0 := 0) (ci := 1) (nA := 3) (As := [.int x, .int ov, .int z]) (rest := []) S0 (k_X1_isAsked l D ad tt R w c k d wp wr hok x ov z) gX1_far_X1_isAsked rfl ⟨rfl, rfl⟩ (by decide +kernel) rfl ⟨Nat.le_of_ble_eq_true rfl, Nat.le_of_ble_eq_true rfl⟩ ⟨Nat.le_of_ble_eq_true rfl, Nat.le_of_ble_eq_true rfl⟩ hK hP hD hS hA [0, 1, 2, 3, 4] [] rfl rfl (by decide) (by decide) (by decide) rfl rfl rfl hl.1 rfl (Nat.le_of_ble_eq_true rfl) dX1_far_4 (fun r_1 u1 H locs hw hP hD hS => ?_)
  have hP : va_P D vwCl (mw ad tt R w c k u1.1 u1.2.1 u1.2.2) H := hP
  have hD : va_D A (mw ad tt R w c k u1.1 u1.2.1 u1.2.2) := hD
  rcases hw with ⟨rfl, r, t, hask, hrow, hch⟩ | ⟨rfl, hno⟩
  · obtain ⟨hrR, rfl, rfl, ht16, htR⟩ := id hask
    have hMr := (ww_M_ok hok k ov t).1 r hrR
    refine lv_if_eq (tgt := 30) hx hb dX1_far_7 (by decide) (fun c_2 => absurd c_2 (by decide)) (fun c_2 => ?_)
    refine lv_aload_n hx hb dX1_far_10 rfl (lv_at hl 0 rfl) ?_
    refine x1_get (v := .ref (ad 4)) S0 hin hK hP 4 (by decide) f_distance rfl rfl dX1_far_11 ?_
    refine lv_iload_n hx hb dX1_far_14 rfl (lv_at hl 1 rfl) ?_
    refine va_iald hx hb hK hP 4 3 rfl rfl (vp_in_nI (by omega) (by omega)) dX1_far_15 ?_
    refine xt_eq (z := u1.1 r) (congrArg u1.1 (nI_clamp (by omega))) ?_
    refine xt_eq (z := nI (ww_M R w c k ov t r)) (hrow r hrR) ?_
    refine lv_ldc (v := 100000) hx hb hown (hts (.constant RX1 42 100000) (by decide +kernel)) dX1_far_16 ?_
    refine lv_icmp_ge (tgt := 30) hx hb dX1_far_18 (by decide) (fun c_3 => ?_) (fun c_3 => ?_)
    · have hge : 100000 ≤ ww_M R w c k ov t r := (nI_leI (a := 100000) (by omega) (by omega)).mp c_3
      have hge2 : ¬ ww_T R w c k ov t r < 1000000 := fun h => absurd ((ww_M_iff hok hrR).mpr h) (by omega)
      refine lv_iconst (v := (-1)) hx hb dX1_far_30 (by decide) ?_
      exact xr_i hx hb hr hlocks (u1.1, (u1.2.1, u1.2.2)) (by first | exact ⟨Or.inr ⟨rfl, as_no2 hR hask hge2⟩, fun r' t' h => by obtain ⟨rfl, rfl⟩ := asks_one hR hask h; exact hrow⟩ | exact ⟨Or.inr ⟨rfl, as_no hno⟩, fun r' t' h => absurd ⟨r', t', h⟩ hno⟩) hP hK hD hS dX1_far_31
    · have hge : ww_M R w c k ov t r < 100000 := Nat.lt_of_not_le (fun h => c_3 (nI_le (a := 100000) h (by omega)))
      have hTK := (ww_M_iff hok hrR).mp hge
      refine lv_aload_n hx hb dX1_far_21 rfl (lv_at hl 0 rfl) ?_
      refine x1_get (v := .ref (ad 4)) S0 hin hK hP 4 (by decide) f_distance rfl rfl dX1_far_22 ?_
      refine lv_iload_n hx hb dX1_far_25 rfl (lv_at hl 1 rfl) ?_
      refine va_iald hx hb hK hP 4 3 rfl rfl (vp_in_nI (by omega) (by omega)) dX1_far_26 ?_
      refine xt_eq (z := u1.1 r) (congrArg u1.1 (nI_clamp (by omega))) ?_
      refine xt_eq (z := nI (ww_M R w c k ov t r)) (hrow r hrR) ?_
      refine lv_goto (tgt := 31) hx hb dX1_far_27 (by decide) ?_
      exact xr_i hx hb hr hlocks (u1.1, (u1.2.1, u1.2.2)) ⟨Or.inl ⟨r, t, ⟨hask, hTK⟩, by rw [ww_M_1 hTK]⟩, fun r' t' h => by obtain ⟨rfl, rfl⟩ := asks_one hR hask h; exact hrow⟩ hP hK hD hS dX1_far_31
  · refine lv_if_eq (tgt := 30) hx hb dX1_far_7 (by decide) (fun c_4 => ?_) (fun c_4 => absurd c_4 (by decide))
    refine lv_iconst (v := (-1)) hx hb dX1_far_30 (by decide) ?_
    exact xr_i hx hb hr hlocks (u1.1, (u1.2.1, u1.2.2)) (by first | exact ⟨Or.inr ⟨rfl, as_no2 hR hask hge2⟩, fun r' t' h => by obtain ⟨rfl, rfl⟩ := asks_one hR hask h; exact hrow⟩ | exact ⟨Or.inr ⟨rfl, as_no hno⟩, fun r' t' h => absurd ⟨r', t', h⟩ hno⟩) hP hK hD hS dX1_far_31
set_option maxHeartbeats 4000000 in
set_option maxRecDepth 100000 in
theorem k_X1_port (l : Launch) (D : va_G) (ad : Nat → Nat) (tt : Nat → ClassId) (R : Nat) (w c k d : Nat → Int32) (wp wr : Int32) (hok : ww_ok R w c) (x ov z : Int32) : xMi l yX1_port wsX1_port { frames := 4, cells := 0, slots := 0, locals := 96 } D (tyM tt) [.ref (ad 0), .int x, .int ov, .int z] (mw ad tt R w c k d wp wr) (fun u : (Nat → Int32) × (Int32 × Int32) => mw ad tt R w c k u.1 u.2.1 u.2.2) (fun v _ => po_ok R w c k x ov z v) := by
  refine xe_i (cc := cX1_port) (maxL := 4) (ret := (some .int)) (lvl := [(0, .ref (ad 0)), (1, .int x), (2, .int ov), (3, .int z)]) (by decide) rfl (Nat.le_of_ble_eq_true rfl) rfl ?_
  intro p e s m below meth cd A ls hx hb hr hlocks hml hown hts hA hP hK hD hS hl
  have hin : ∀ w ∈ wsX10, w ∈ wsX1_port := fun _ h => List.mem_cons_of_mem _ (List.mem_append_right _ h)
  have S0 : CallFix p m cd cX1_port 4 s (([.ref (ad 0), .int x, .int ov, .int z] : List Value).toArray) wsX1_port RX1 := ⟨hx, hb, hml, hown, hts⟩
  obtain ⟨H, hH⟩ : ∃ H, H = s.heap := ⟨_, rfl⟩
  obtain ⟨locs, hlocs⟩ : ∃ q : List Loc, q = [] := ⟨_, rfl⟩
  have hP : va_P D vwCl (mw ad tt R w c k d wp wr) H := by rw [hH]; exact hP
  have hS : va_S A s.heap H locs := by rw [hH, hlocs]; exact hS
  suffices hgo : W p l e (headSpec wsX1_port ({ frames := 4, cells := 0, slots := 0, locals := 96 } : Room)).room s m (([.ref (ad 0), .int x, .int ov, .int z] : List Value).toArray) below meth cd H locs 0 0 (MQ below (va_Qi (fun v _ => po_ok R w c k x ov z v) (xB D (tyM tt) A (fun u : (Nat → Int32) × (Int32 × Int32) => mw ad tt R w c k u.1 u.2.1 u.2.2)) A) ([.ref (ad 0), .int x, .int ov, .int z] : List Value).toArray s 0 0 A) (F0 m 0 ls []) by rw [hH, hlocs] at hgo; exact hgo
  clear hH hlocs
  have f_wayPort := hts (.fieldLink RX1 51 "WireWaysModel" "wayPort" "I") (by decide +kernel)
  have hR : R ≤ 10 := hok.2.1
  refine lv_aload_n hx hb dX1_port_0 rfl (lv_at hl 0 rfl) ?_
  refine lv_iload_n hx hb dX1_port_1 rfl (lv_at hl 1 rfl) ?_
  refine lv_iload_n hx hb dX1_port_2 rfl (lv_at hl 2 rfl) ?_
  refine lv_iload_n hx hb dX1_port_3 rfl (lv_at hl 3 rfl) ?_
  refine xs_Vi (wr := []) (q0 := 0) (ci := 1) (nA := 3) (As := [.int x, .int ov, .int z]) (rest := []) S0 (k_X1_isAsked l D ad tt R w c k d wp wr hok x ov z) gX1_port_X1_isAsked rfl ⟨rfl, rfl⟩ (by decide +kernel) rfl ⟨Nat.le_of_ble_eq_true rfl, Nat.le_of_ble_eq_true rfl⟩ ⟨Nat.le_of_ble_eq_true rfl, Nat.le_of_ble_eq_true rfl⟩ hK hP hD hS hA [0, 1, 2, 3, 4] [] rfl rfl (by decide) (by decide) (by decide) rfl rfl rfl hl.1 rfl (Nat.le_of_ble_eq_true rfl) dX1_port_4 (fun r_1 u1 H locs hw hP hD hS => ?_)
  have hP : va_P D vwCl (mw ad tt R w c k u1.1 u1.2.1 u1.2.2) H := hP
  have hD : va_D A (mw ad tt R w c k u1.1 u1.2.1 u1.2.2) := hD
  rcases hw with ⟨rfl, r, t, hask, hrow, hch⟩ | ⟨rfl, hno⟩
  · obtain ⟨hrR, rfl, rfl, ht16, htR⟩ := id hask
    have hMr := (ww_M_ok hok k ov t).1 r hrR
    refine lv_if_eq (tgt := 17) hx hb dX1_port_7 (by decide) (fun c_2 => absurd c_2 (by decide)) (fun c_2 => ?_)
    refine lv_aload_n hx hb dX1_port_10 rfl (lv_at hl 0 rfl) ?_
    refine x1_get (v := .int u1.2.1) S0 hin hK hP 5 (by decide) f_wayPort rfl rfl dX1_port_11 ?_
    refine lv_goto (tgt := 18) hx hb dX1_port_14 (by decide) ?_
    exact xr_i hx hb hr hlocks (u1.1, (u1.2.1, u1.2.2)) (ch_po hR hask hch) hP hK hD hS dX1_port_18
  · refine lv_if_eq (tgt := 17) hx hb dX1_port_7 (by decide) (fun c_3 => ?_) (fun c_3 => absurd c_3 (by decide))
    refine lv_iconst (v := (-1)) hx hb dX1_port_17 (by decide) ?_
    exact xr_i hx hb hr hlocks (u1.1, (u1.2.1, u1.2.2)) (Or.inr ⟨rfl, as_no hno⟩) hP hK hD hS dX1_port_18
set_option maxHeartbeats 4000000 in
set_option maxRecDepth 100000 in
theorem k_X1_next (l : Launch) (D : va_G) (ad : Nat → Nat) (tt : Nat → ClassId) (R : Nat) (w c k d : Nat → Int32) (wp wr : Int32) (hok : ww_ok R w c) (x ov z : Int32) : xMi l yX1_next wsX1_next { frames := 4, cells := 0, slots := 0, locals := 96 } D (tyM tt) [.ref (ad 0), .int x, .int ov, .int z] (mw ad tt R w c k d wp wr) (fun u : (Nat → Int32) × (Int32 × Int32) => mw ad tt R w c k u.1 u.2.1 u.2.2) (fun v _ => nx_ok R w c k x ov z v) := by
  refine xe_i (cc := cX1_next) (maxL := 4) (ret := (some .int)) (lvl := [(0, .ref (ad 0)), (1, .int x), (2, .int ov), (3, .int z)]) (by decide) rfl (Nat.le_of_ble_eq_true rfl) rfl ?_
  intro p e s m below meth cd A ls hx hb hr hlocks hml hown hts hA hP hK hD hS hl
  have hin : ∀ w ∈ wsX10, w ∈ wsX1_next := fun _ h => List.mem_cons_of_mem _ (List.mem_append_right _ h)
  have S0 : CallFix p m cd cX1_next 4 s (([.ref (ad 0), .int x, .int ov, .int z] : List Value).toArray) wsX1_next RX1 := ⟨hx, hb, hml, hown, hts⟩
  obtain ⟨H, hH⟩ : ∃ H, H = s.heap := ⟨_, rfl⟩
  obtain ⟨locs, hlocs⟩ : ∃ q : List Loc, q = [] := ⟨_, rfl⟩
  have hP : va_P D vwCl (mw ad tt R w c k d wp wr) H := by rw [hH]; exact hP
  have hS : va_S A s.heap H locs := by rw [hH, hlocs]; exact hS
  suffices hgo : W p l e (headSpec wsX1_next ({ frames := 4, cells := 0, slots := 0, locals := 96 } : Room)).room s m (([.ref (ad 0), .int x, .int ov, .int z] : List Value).toArray) below meth cd H locs 0 0 (MQ below (va_Qi (fun v _ => nx_ok R w c k x ov z v) (xB D (tyM tt) A (fun u : (Nat → Int32) × (Int32 × Int32) => mw ad tt R w c k u.1 u.2.1 u.2.2)) A) ([.ref (ad 0), .int x, .int ov, .int z] : List Value).toArray s 0 0 A) (F0 m 0 ls []) by rw [hH, hlocs] at hgo; exact hgo
  clear hH hlocs
  have f_wayRouter := hts (.fieldLink RX1 54 "WireWaysModel" "wayRouter" "I") (by decide +kernel)
  have hR : R ≤ 10 := hok.2.1
  refine lv_aload_n hx hb dX1_next_0 rfl (lv_at hl 0 rfl) ?_
  refine lv_iload_n hx hb dX1_next_1 rfl (lv_at hl 1 rfl) ?_
  refine lv_iload_n hx hb dX1_next_2 rfl (lv_at hl 2 rfl) ?_
  refine lv_iload_n hx hb dX1_next_3 rfl (lv_at hl 3 rfl) ?_
  refine xs_Vi (wr := []) (q0 := 0) (ci := 1) (nA := 3) (As := [.int x, .int ov, .int z]) (rest := []) S0 (k_X1_isAsked l D ad tt R w c k d wp wr hok x ov z) gX1_next_X1_isAsked rfl ⟨rfl, rfl⟩ (by decide +kernel) rfl ⟨Nat.le_of_ble_eq_true rfl, Nat.le_of_ble_eq_true rfl⟩ ⟨Nat.le_of_ble_eq_true rfl, Nat.le_of_ble_eq_true rfl⟩ hK hP hD hS hA [0, 1, 2, 3, 4] [] rfl rfl (by decide) (by decide) (by decide) rfl rfl rfl hl.1 rfl (Nat.le_of_ble_eq_true rfl) dX1_next_4 (fun r_1 u1 H locs hw hP hD hS => ?_)
  have hP : va_P D vwCl (mw ad tt R w c k u1.1 u1.2.1 u1.2.2) H := hP
  have hD : va_D A (mw ad tt R w c k u1.1 u1.2.1 u1.2.2) := hD
  rcases hw with ⟨rfl, r, t, hask, hrow, hch⟩ | ⟨rfl, hno⟩
  · obtain ⟨hrR, rfl, rfl, ht16, htR⟩ := id hask
    have hMr := (ww_M_ok hok k ov t).1 r hrR
    refine lv_if_eq (tgt := 17) hx hb dX1_next_7 (by decide) (fun c_2 => absurd c_2 (by decide)) (fun c_2 => ?_)
    refine lv_aload_n hx hb dX1_next_10 rfl (lv_at hl 0 rfl) ?_
    refine x1_get (v := .int u1.2.2) S0 hin hK hP 6 (by decide) f_wayRouter rfl rfl dX1_next_11 ?_
    refine lv_goto (tgt := 18) hx hb dX1_next_14 (by decide) ?_
    exact xr_i hx hb hr hlocks (u1.1, (u1.2.1, u1.2.2)) (ch_nx hR hask hch) hP hK hD hS dX1_next_18
  · refine lv_if_eq (tgt := 17) hx hb dX1_next_7 (by decide) (fun c_3 => ?_) (fun c_3 => absurd c_3 (by decide))
    refine lv_iconst (v := (-1)) hx hb dX1_next_17 (by decide) ?_
    exact xr_i hx hb hr hlocks (u1.1, (u1.2.1, u1.2.2)) (Or.inr ⟨rfl, as_no hno⟩) hP hK hD hS dX1_next_18
set_option maxHeartbeats 4000000 in
set_option maxRecDepth 100000 in
theorem k_X1_walk (l : Launch) (D : va_G) (ad : Nat → Nat) (tt : Nat → ClassId) (R : Nat) (w c k d : Nat → Int32) (wp wr : Int32) (hok : ww_ok R w c) (x ov z kk : Int32) : xMi l yX1_walk wsX1_walk { frames := 5, cells := 0, slots := 0, locals := 119 } D (tyM tt) [.ref (ad 0), .int x, .int ov, .int z, .int kk] (mw ad tt R w c k d wp wr) (fun u : (Nat → Int32) × (Int32 × Int32) => mw ad tt R w c k u.1 u.2.1 u.2.2) (fun v _ => wk_ok R w c k x ov z kk v) := by
  refine xe_i (cc := cX1_walk) (maxL := 7) (ret := (some .int)) (lvl := [(0, .ref (ad 0)), (1, .int x), (2, .int ov), (3, .int z), (4, .int kk)]) (by decide) rfl (Nat.le_of_ble_eq_true rfl) rfl ?_
  intro p e s m below meth cd A ls hx hb hr hlocks hml hown hts hA hP hK hD hS hl
  have hin : ∀ w ∈ wsX10, w ∈ wsX1_walk := fun _ h => List.mem_cons_of_mem _ (List.mem_append_right _ h)
  have S0 : CallFix p m cd cX1_walk 7 s (([.ref (ad 0), .int x, .int ov, .int z, .int kk] : List Value).toArray) wsX1_walk RX1 := ⟨hx, hb, hml, hown, hts⟩
  obtain ⟨H, hH⟩ : ∃ H, H = s.heap := ⟨_, rfl⟩
  obtain ⟨locs, hlocs⟩ : ∃ q : List Loc, q = [] := ⟨_, rfl⟩
  have hP : va_P D vwCl (mw ad tt R w c k d wp wr) H := by rw [hH]; exact hP
  have hS : va_S A s.heap H locs := by rw [hH, hlocs]; exact hS
  suffices hgo : W p l e (headSpec wsX1_walk ({ frames := 5, cells := 0, slots := 0, locals := 119 } : Room)).room s m (([.ref (ad 0), .int x, .int ov, .int z, .int kk] : List Value).toArray) below meth cd H locs 0 0 (MQ below (va_Qi (fun v _ => wk_ok R w c k x ov z kk v) (xB D (tyM tt) A (fun u : (Nat → Int32) × (Int32 × Int32) => mw ad tt R w c k u.1 u.2.1 u.2.2)) A) ([.ref (ad 0), .int x, .int ov, .int z, .int kk] : List Value).toArray s 0 0 A) (F0 m 0 ls []) by rw [hH, hlocs] at hgo; exact hgo
  clear hH hlocs
  have f_wayRouter := hts (.fieldLink RX1 54 "WireWaysModel" "wayRouter" "I") (by decide +kernel)
  have hR : R ≤ 10 := hok.2.1
  refine lv_iload hx hb dX1_walk_0 (lv_at hl 4 rfl) ?_
  refine lv_if_lt (tgt := 16) hx hb dX1_walk_2 (by decide) (fun c_1 => ?_) (fun c_1 => ?_)
  · have hk0 := c_1
    refine lv_iconst (v := (-1)) hx hb dX1_walk_16 (by decide) ?_
    exact xr_i hx hb hr hlocks (d, (wp, wr)) (by first | exact Or.inr ⟨rfl, Or.inl hk0⟩ | exact Or.inr ⟨rfl, Or.inr hno⟩) hP hK hD hS dX1_walk_17
  · have hk1 := c_1
    refine lv_aload_n hx hb dX1_walk_5 rfl (lv_at hl 0 rfl) ?_
    refine lv_iload_n hx hb dX1_walk_6 rfl (lv_at hl 1 rfl) ?_
    refine lv_iload_n hx hb dX1_walk_7 rfl (lv_at hl 2 rfl) ?_
    refine lv_iload_n hx hb dX1_walk_8 rfl (lv_at hl 3 rfl) ?_
    refine xs_Vi (wr := []) (q0 := 0) (ci := 1) (nA := 3) (As := [.int x, .int ov, .int z]) (rest := []) S0 (k_X1_far l D ad tt R w c k d wp wr hok x ov z) gX1_walk_X1_far rfl ⟨rfl, rfl⟩ (by decide +kernel) rfl ⟨Nat.le_of_ble_eq_true rfl, Nat.le_of_ble_eq_true rfl⟩ ⟨Nat.le_of_ble_eq_true rfl, Nat.le_of_ble_eq_true rfl⟩ hK hP hD hS hA [0, 1, 2, 3, 4] [] rfl rfl (by decide) (by decide) (by decide) rfl rfl rfl hl.1 rfl (Nat.le_of_ble_eq_true rfl) dX1_walk_9 (fun r_2 u1 H locs hw hP hD hS => ?_)
    have hP : va_P D vwCl (mw ad tt R w c k u1.1 u1.2.1 u1.2.2) H := hP
    have hD : va_D A (mw ad tt R w c k u1.1 u1.2.1 u1.2.2) := hD
    have hfa := hw
    refine lv_iconst (v := (-1)) hx hb dX1_walk_12 (by decide) ?_
    refine lv_icmp_ne (tgt := 18) hx hb dX1_walk_13 (by decide) (fun c_3 => ?_) (fun c_3 => ?_)
    · have hcm9 : ∃ r t, come R w c k x ov z r t := Classical.byContradiction (fun h => c_3 ((fa_m1 hok hfa.1).mpr h))
      obtain ⟨r, t, hcm⟩ := hcm9
      have hrow := hfa.2 r t hcm.1
      obtain ⟨⟨hrR, rfl, rfl, ht0⟩, hTK⟩ := id hcm
      have ht16 := asks_t hR hcm.1
      obtain ⟨kn, hkn, rfl⟩ := nI_of hk1
      refine lv_iload_n hx hb dX1_walk_18 rfl (lv_at hl 1 rfl) ?_
      refine lv_istore (lv' := [(5, .int (nI r)), (0, .ref (ad 0)), (1, .int (nI r)), (2, .int ov), (3, .int (nI t)), (4, .int (nI kn))]) hx hb dX1_walk_19 hl (by decide) rfl (fun ls hl => ?_)
      refine lv_iconst (v := 0) hx hb dX1_walk_21 (by decide) ?_
      refine lv_istore (lv' := [(6, .int 0), (5, .int (nI r)), (0, .ref (ad 0)), (1, .int (nI r)), (2, .int ov), (3, .int (nI t)), (4, .int (nI kn))]) hx hb dX1_walk_22 hl (by decide) rfl (fun ls hl => ?_)
      have lp24 : ∀ (fuel : Nat) (m9 : Nat) (at9 : Int32) (p1 : Int32) (q1 : Int32), (m9 ≤ kn) → ((∃ a, at9 = nI a ∧ a < R ∧ ww_T R w c k ov t a < 1000000 ∧ wks (ww_tg w k ov t) (ww_E R w k) (ww_c c) 1000000 (ww_T R w c k ov t) m9 r a) ∨ (at9 = -1 ∧ ¬ ∃ a, wks (ww_tg w k ov t) (ww_E R w k) (ww_c c) 1000000 (ww_T R w c k ov t) m9 r a)) → kn - m9 < fuel → ∀ (H : Heap) (locs : List Loc) (ls : Array Slot), va_P D vwCl (mw ad tt R w c k u1.1 p1 q1) H → va_D A (mw ad tt R w c k u1.1 p1 q1) → va_S A s.heap H locs → lv_has ls 7 [(6, .int (nI m9)), (5, .int at9), (0, .ref (ad 0)), (1, .int (nI r)), (2, .int ov), (3, .int (nI t)), (4, .int (nI kn))] → W p l e (headSpec wsX1_walk ({ frames := 5, cells := 0, slots := 0, locals := 119 } : Room)).room s m ([.ref (ad 0), .int (nI r), .int ov, .int (nI t), .int (nI kn)] : List Value).toArray below meth cd H locs 0 0 (MQ below (va_Qi (fun v _ => wk_ok R w c k (nI r) ov (nI t) (nI kn) v) (xB D (tyM tt) A (fun u : (Nat → Int32) × (Int32 × Int32) => mw ad tt R w c k u.1 u.2.1 u.2.2)) A) ([.ref (ad 0), .int (nI r), .int ov, .int (nI t), .int (nI kn)] : List Value).toArray s 0 0 A) (F0 m 24 ls []) := by
        intro fuel
        induction fuel with
        | zero => intro m9 at9 p1 q1 hm0 hat hm; exact absurd hm (Nat.not_lt_zero _)
        | succ fuel ih24 =>
          intro m9 at9 p1 q1 hm0 hat hm H locs ls hP hD hS hl
          refine lv_iload hx hb dX1_walk_24 (lv_at hl 0 rfl) ?_
          refine lv_iload hx hb dX1_walk_26 (lv_at hl 6 rfl) ?_
          refine lv_icmp_ge (tgt := 57) hx hb dX1_walk_28 (by decide) (fun c_4 => ?_) (fun c_4 => ?_)
          · have hmk : kn ≤ m9 := (nI_leI (by omega) (by omega)).mp c_4
            refine lv_iload hx hb dX1_walk_57 (lv_at hl 1 rfl) ?_
            exact xr_i hx hb hr hlocks (u1.1, (p1, q1)) (by first | exact Or.inl ⟨r, t, kn, hcm, hkn, rfl, Or.inr ⟨c_4, by have h9 := wks_stop hst (kn - m9); rw [show m9 + (kn - m9) = kn by omega] at h9; exact h9⟩⟩ | exact Or.inl ⟨r, t, kn, hcm, hkn, rfl, by rw [show kn = m9 by omega]; exact hat.imp (fun ⟨a, h1, _, _, h2⟩ => ⟨a, h1, h2⟩) id⟩) hP hK hD hS dX1_walk_59
          · have hmk : m9 < kn := Nat.lt_of_not_le (fun h => c_4 (nI_le h (by omega)))
            refine lv_iload hx hb dX1_walk_31 (lv_at hl 1 rfl) ?_
            refine lv_iconst (v := (-1)) hx hb dX1_walk_33 (by decide) ?_
            refine lv_icmp_eq (tgt := 57) hx hb dX1_walk_34 (by decide) (fun c_5 => ?_) (fun c_5 => ?_)
            · have hst : ¬ ∃ a, wks (ww_tg w k ov t) (ww_E R w k) (ww_c c) 1000000 (ww_T R w c k ov t) m9 r a := by
                rcases hat with ⟨a, e, h1, h2, -⟩ | ⟨-, h⟩
                · exact absurd (e.symm.trans c_5) (nI_m1 (by omega))
                · exact h
              refine lv_iload hx hb dX1_walk_57 (lv_at hl 1 rfl) ?_
              exact xr_i hx hb hr hlocks (u1.1, (p1, q1)) (by first | exact Or.inl ⟨r, t, kn, hcm, hkn, rfl, Or.inr ⟨c_5, by have h9 := wks_stop hst (kn - m9); rw [show m9 + (kn - m9) = kn by omega] at h9; exact h9⟩⟩ | exact Or.inl ⟨r, t, kn, hcm, hkn, rfl, by rw [show kn = m9 by omega]; exact hat.imp (fun ⟨a, h1, _, _, h2⟩ => ⟨a, h1, h2⟩) id⟩) hP hK hD hS dX1_walk_59
            · obtain ⟨a, ea, haR, haK, hws⟩ := hat.resolve_right (fun h => c_5 h.1)
              subst ea
              refine lv_aload_n hx hb dX1_walk_37 rfl (lv_at hl 2 rfl) ?_
              refine lv_iload hx hb dX1_walk_38 (lv_at hl 1 rfl) ?_
              refine lv_iload_n hx hb dX1_walk_40 rfl (lv_at hl 4 rfl) ?_
              refine lv_iload_n hx hb dX1_walk_41 rfl (lv_at hl 5 rfl) ?_
              refine xs_Vv (wr := []) (q0 := 0) (ci := 1) (nA := 3) (As := [.int (nI a), .int ov, .int (nI t)]) (rest := []) S0 (k_X1_choose l D ad tt R w c k u1.1 p1 q1 hok ov t ht16 hrow a haR) gX1_walk_X1_choose rfl ⟨rfl, rfl⟩ (by decide +kernel) rfl ⟨Nat.le_of_ble_eq_true rfl, Nat.le_of_ble_eq_true rfl⟩ ⟨Nat.le_of_ble_eq_true rfl, Nat.le_of_ble_eq_true rfl⟩ hK hP hD hS hA [0, 1, 2, 3, 4] [] rfl rfl (by decide) (by decide) (by decide) rfl rfl rfl hl.1 rfl (Nat.le_of_ble_eq_true rfl) dX1_walk_42 (fun u2 H locs hw hP hD hS => ?_)
              have hP : va_P D vwCl (mw ad tt R w c k u1.1 u2.1 u2.2) H := hP
              have hD : va_D A (mw ad tt R w c k u1.1 u2.1 u2.2) := hD
              have hch := hw
              refine lv_aload_n hx hb dX1_walk_45 rfl (lv_at hl 2 rfl) ?_
              refine x1_get (v := .int u2.2) S0 hin hK hP 6 (by decide) f_wayRouter rfl rfl dX1_walk_46 ?_
              refine lv_istore (lv' := [(5, .int u2.2), (6, .int (nI m9)), (0, .ref (ad 0)), (1, .int (nI r)), (2, .int ov), (3, .int (nI t)), (4, .int (nI kn))]) hx hb dX1_walk_49 hl (by decide) rfl (fun ls hl => ?_)
              refine lv_iinc (v := nI (m9 + 1)) (lv' := [(6, .int (nI (m9 + 1))), (5, .int u2.2), (0, .ref (ad 0)), (1, .int (nI r)), (2, .int ov), (3, .int (nI t)), (4, .int (nI kn))]) hx hb dX1_walk_51 hl (k := 1) rfl (nI_1 m9) (by decide) rfl (fun ls hl => ?_)
              refine lv_goto (tgt := 24) hx hb dX1_walk_54 (by decide) ?_
              exact ih24 (m9 + 1) u2.2 u2.1 u2.2 (by omega) (wk_step hok haR haK hws hch) (by omega) H locs ls hP hD hS (lv_sub hl [0, 1, 2, 3, 4, 5, 6] rfl)
      exact lp24 _ 0 (nI r) u1.2.1 u1.2.2 (by omega) (Or.inl ⟨r, rfl, hrR, hTK, rfl⟩) (Nat.lt_succ_self _) H locs ls hP hD hS (lv_sub hl [0, 1, 2, 3, 4, 5, 6] rfl)
    · have hno := (fa_m1 hok hfa.1).mp c_3
      refine lv_iconst (v := (-1)) hx hb dX1_walk_16 (by decide) ?_
      exact xr_i hx hb hr hlocks (u1.1, (u1.2.1, u1.2.2)) (by first | exact Or.inr ⟨rfl, Or.inl hk0⟩ | exact Or.inr ⟨rfl, Or.inr hno⟩) hP hK hD hS dX1_walk_17
set_option maxHeartbeats 4000000 in
set_option maxRecDepth 100000 in
theorem k_X1_reach (l : Launch) (D : va_G) (ad : Nat → Nat) (tt : Nat → ClassId) (R : Nat) (w c k d : Nat → Int32) (wp wr : Int32) (hok : ww_ok R w c) (x : Int32) : xMi l yX1_reach wsX1_reach { frames := 5, cells := 0, slots := 0, locals := 119 } D (tyM tt) [.ref (ad 0), .int x] (mw ad tt R w c k d wp wr) (fun u : (Nat → Int32) × (Int32 × Int32) => mw ad tt R w c k u.1 u.2.1 u.2.2) (fun v _ => rc_ok R w c k x v) := by
  refine xe_i (cc := cX1_reach) (maxL := 4) (ret := (some .int)) (lvl := [(0, .ref (ad 0)), (1, .int x)]) (by decide) rfl (Nat.le_of_ble_eq_true rfl) rfl ?_
  intro p e s m below meth cd A ls hx hb hr hlocks hml hown hts hA hP hK hD hS hl
  have hin : ∀ w ∈ wsX10, w ∈ wsX1_reach := fun _ h => List.mem_cons_of_mem _ (List.mem_append_right _ h)
  have S0 : CallFix p m cd cX1_reach 4 s (([.ref (ad 0), .int x] : List Value).toArray) wsX1_reach RX1 := ⟨hx, hb, hml, hown, hts⟩
  obtain ⟨H, hH⟩ : ∃ H, H = s.heap := ⟨_, rfl⟩
  obtain ⟨locs, hlocs⟩ : ∃ q : List Loc, q = [] := ⟨_, rfl⟩
  have hP : va_P D vwCl (mw ad tt R w c k d wp wr) H := by rw [hH]; exact hP
  have hS : va_S A s.heap H locs := by rw [hH, hlocs]; exact hS
  suffices hgo : W p l e (headSpec wsX1_reach ({ frames := 5, cells := 0, slots := 0, locals := 119 } : Room)).room s m (([.ref (ad 0), .int x] : List Value).toArray) below meth cd H locs 0 0 (MQ below (va_Qi (fun v _ => rc_ok R w c k x v) (xB D (tyM tt) A (fun u : (Nat → Int32) × (Int32 × Int32) => mw ad tt R w c k u.1 u.2.1 u.2.2)) A) ([.ref (ad 0), .int x] : List Value).toArray s 0 0 A) (F0 m 0 ls []) by rw [hH, hlocs] at hgo; exact hgo
  clear hH hlocs
  have f_routers := hts (.fieldLink RX1 23 "WireWaysModel" "routers" "I") (by decide +kernel)
  have hR : R ≤ 10 := hok.2.1
  refine lv_aload_n hx hb dX1_reach_0 rfl (lv_at hl 0 rfl) ?_
  refine lv_iload_n hx hb dX1_reach_1 rfl (lv_at hl 1 rfl) ?_
  refine xs_Vi (wr := []) (q0 := 0) (ci := 1) (nA := 1) (As := [.int x]) (rest := []) S0 (k_X1_isRouter l D ad tt R w c k d wp wr x hR) gX1_reach_X1_isRouter rfl ⟨rfl, rfl⟩ (by decide +kernel) rfl ⟨Nat.le_of_ble_eq_true rfl, Nat.le_of_ble_eq_true rfl⟩ ⟨Nat.le_of_ble_eq_true rfl, Nat.le_of_ble_eq_true rfl⟩ hK hP hD hS hA [0, 1, 2, 3, 4] [] rfl rfl (by decide) (by decide) (by decide) rfl rfl rfl hl.1 rfl (Nat.le_of_ble_eq_true rfl) dX1_reach_2 (fun r_1 u H locs hw hP hD hS => ?_)
  have hP : va_P D vwCl (mw ad tt R w c k d wp wr) H := hP
  have hD : va_D A (mw ad tt R w c k d wp wr) := hD
  rcases hw with ⟨rfl, h_r⟩ | ⟨rfl, h_r⟩
  · refine lv_if_ne (tgt := 10) hx hb dX1_reach_5 (by decide) (fun c_2 => ?_) (fun c_2 => absurd c_2 (by decide))
    obtain ⟨r, hrR, rfl⟩ := h_r
    refine lv_iconst (v := 0) hx hb dX1_reach_10 (by decide) ?_
    refine lv_istore_n (lv' := [(2, .int 0), (0, .ref (ad 0)), (1, .int (nI r))]) hx hb dX1_reach_11 rfl hl (by decide) rfl (fun ls hl => ?_)
    refine lv_iconst (v := 0) hx hb dX1_reach_12 (by decide) ?_
    refine lv_istore_n (lv' := [(3, .int 0), (2, .int 0), (0, .ref (ad 0)), (1, .int (nI r))]) hx hb dX1_reach_13 rfl hl (by decide) rfl (fun ls hl => ?_)
    have lp14 : ∀ (fuel : Nat) (a : Nat) (cn : Nat) (d1 : Nat → Int32) (p1 : Int32) (q1 : Int32), (a ≤ R) → (cn = dm_cnt (fun a => decide (ww_T R w c k 0 a r < 1000000)) a) → R - a < fuel → ∀ (H : Heap) (locs : List Loc) (ls : Array Slot), va_P D vwCl (mw ad tt R w c k d1 p1 q1) H → va_D A (mw ad tt R w c k d1 p1 q1) → va_S A s.heap H locs → lv_has ls 4 [(3, .int (nI a)), (2, .int (nI cn)), (0, .ref (ad 0)), (1, .int (nI r))] → W p l e (headSpec wsX1_reach ({ frames := 5, cells := 0, slots := 0, locals := 119 } : Room)).room s m ([.ref (ad 0), .int (nI r)] : List Value).toArray below meth cd H locs 0 0 (MQ below (va_Qi (fun v _ => rc_ok R w c k (nI r) v) (xB D (tyM tt) A (fun u : (Nat → Int32) × (Int32 × Int32) => mw ad tt R w c k u.1 u.2.1 u.2.2)) A) ([.ref (ad 0), .int (nI r)] : List Value).toArray s 0 0 A) (F0 m 14 ls []) := by
      intro fuel
      induction fuel with
      | zero => intro a cn d1 p1 q1 ha0 hcn hm; exact absurd hm (Nat.not_lt_zero _)
      | succ fuel ih14 =>
        intro a cn d1 p1 q1 ha0 hcn hm H locs ls hP hD hS hl
        refine lv_iload_n hx hb dX1_reach_14 rfl (lv_at hl 0 rfl) ?_
        refine lv_aload_n hx hb dX1_reach_15 rfl (lv_at hl 2 rfl) ?_
        refine x1_get (v := .int (nI R)) S0 hin hK hP 0 (by decide) f_routers rfl rfl dX1_reach_16 ?_
        refine lv_icmp_ge (tgt := 47) hx hb dX1_reach_19 (by decide) (fun c_3 => ?_) (fun c_3 => ?_)
        · have haR : R ≤ a := (nI_leI (by omega) (by omega)).mp c_3
          refine lv_iload_n hx hb dX1_reach_47 rfl (lv_at hl 1 rfl) ?_
          exact xr_i hx hb hr hlocks (d1, (p1, q1)) (Or.inl ⟨r, hrR, rfl, congrArg nI (rc_cnt hok hrR (by rw [hcn, show a = R by omega]))⟩) hP hK hD hS dX1_reach_48
        · have haR : a < R := Nat.lt_of_not_le (fun h => c_3 (nI_le h (by omega)))
          refine lv_iload_n hx hb dX1_reach_22 rfl (lv_at hl 1 rfl) ?_
          refine lv_aload_n hx hb dX1_reach_23 rfl (lv_at hl 2 rfl) ?_
          refine lv_iload_n hx hb dX1_reach_24 rfl (lv_at hl 3 rfl) ?_
          refine lv_iconst (v := 0) hx hb dX1_reach_25 (by decide) ?_
          refine lv_iload_n hx hb dX1_reach_26 rfl (lv_at hl 0 rfl) ?_
          refine xs_Vi (wr := []) (q0 := 0) (ci := 1) (nA := 3) (As := [.int (nI r), .int 0, .int (nI a)]) (rest := [.int (nI cn)]) S0 (k_X1_far l D ad tt R w c k d1 p1 q1 hok (nI r) 0 (nI a)) gX1_reach_X1_far rfl ⟨rfl, rfl⟩ (by decide +kernel) rfl ⟨Nat.le_of_ble_eq_true rfl, Nat.le_of_ble_eq_true rfl⟩ ⟨Nat.le_of_ble_eq_true rfl, Nat.le_of_ble_eq_true rfl⟩ hK hP hD hS hA [0, 1, 2, 3, 4] [] rfl rfl (by decide) (by decide) (by decide) rfl rfl rfl hl.1 rfl (Nat.le_of_ble_eq_true rfl) dX1_reach_27 (fun r_4 u1 H locs hw hP hD hS => ?_)
          have hP : va_P D vwCl (mw ad tt R w c k u1.1 u1.2.1 u1.2.2) H := hP
          have hD : va_D A (mw ad tt R w c k u1.1 u1.2.1 u1.2.2) := hD
          have hfa := fa_0 hrR haR hok hw.1
          refine lv_iconst (v := (-1)) hx hb dX1_reach_30 (by decide) ?_
          refine lv_icmp_ne (tgt := 38) hx hb dX1_reach_31 (by decide) (fun c_5 => ?_) (fun c_5 => ?_)
          · have hp : ww_T R w c k 0 a r < 1000000 := Classical.byContradiction (fun h => c_5 (hfa.mpr h))
            refine lv_iconst (v := 1) hx hb dX1_reach_38 (by decide) ?_
            refine lv_iadd hx hb dX1_reach_39 ?_
            refine xt_eq (z := nI (cn + 1)) (nI_1 cn) ?_
            refine lv_istore_n (lv' := [(2, .int (nI (cn + 1))), (3, .int (nI a)), (0, .ref (ad 0)), (1, .int (nI r))]) hx hb dX1_reach_40 rfl hl (by decide) rfl (fun ls hl => ?_)
            refine lv_iinc (v := nI (a + 1)) (lv' := [(3, .int (nI (a + 1))), (2, .int (nI (cn + 1))), (0, .ref (ad 0)), (1, .int (nI r))]) hx hb dX1_reach_41 hl (k := 1) rfl (nI_1 a) (by decide) rfl (fun ls hl => ?_)
            refine lv_goto (tgt := 14) hx hb dX1_reach_44 (by decide) ?_
            exact ih14 (a + 1) (cn + 1) u1.1 u1.2.1 u1.2.2 (by omega) (cnt_t hcn (decide_eq_true hp)) (by omega) H locs ls hP hD hS (lv_sub hl [0, 1, 2, 3] rfl)
          · have hp := hfa.mp c_5
            refine lv_iconst (v := 0) hx hb dX1_reach_34 (by decide) ?_
            refine lv_goto (tgt := 39) hx hb dX1_reach_35 (by decide) ?_
            refine lv_iadd hx hb dX1_reach_39 ?_
            refine xt_eq (z := nI cn) (nI_add cn 0) ?_
            refine lv_istore_n (lv' := [(2, .int (nI cn)), (3, .int (nI a)), (0, .ref (ad 0)), (1, .int (nI r))]) hx hb dX1_reach_40 rfl hl (by decide) rfl (fun ls hl => ?_)
            refine lv_iinc (v := nI (a + 1)) (lv' := [(3, .int (nI (a + 1))), (2, .int (nI cn)), (0, .ref (ad 0)), (1, .int (nI r))]) hx hb dX1_reach_41 hl (k := 1) rfl (nI_1 a) (by decide) rfl (fun ls hl => ?_)
            refine lv_goto (tgt := 14) hx hb dX1_reach_44 (by decide) ?_
            exact ih14 (a + 1) cn u1.1 u1.2.1 u1.2.2 (by omega) (cnt_f hcn (fun h => hp (of_decide_eq_true h))) (by omega) H locs ls hP hD hS (lv_sub hl [0, 1, 2, 3] rfl)
    exact lp14 _ 0 0 d wp wr (by omega) rfl (Nat.lt_succ_self _) H locs ls hP hD hS (lv_sub hl [0, 1, 2, 3] rfl)
  · refine lv_if_ne (tgt := 10) hx hb dX1_reach_5 (by decide) (fun c_6 => absurd c_6 (by decide)) (fun c_6 => ?_)
    refine lv_iconst (v := (-1)) hx hb dX1_reach_8 (by decide) ?_
    exact xr_i hx hb hr hlocks (d, (wp, wr)) (Or.inr ⟨rfl, h_r⟩) hP hK hD hS dX1_reach_9
end
section
set_option maxHeartbeats 4000000 in
set_option maxRecDepth 100000 in
theorem k_X1_greatest (l : Launch) (D : va_G) (ad : Nat → Nat) (tt : Nat → ClassId) (R : Nat) (w c k d : Nat → Int32) (wp wr : Int32) (hok : ww_ok R w c) : xMi l yX1_greatest wsX1_greatest { frames := 3, cells := 0, slots := 0, locals := 73 } D (tyM tt) [.ref (ad 0)] (mw ad tt R w c k d wp wr) (fun u : Nat → Int32 => mw ad tt R w c k u wp wr) (fun v _ => v = nI (ww_mx R w c k)) := by
  refine xe_i (cc := cX1_greatest) (maxL := 4) (ret := (some .int)) (lvl := [(0, .ref (ad 0))]) (by decide) rfl (Nat.le_of_ble_eq_true rfl) rfl ?_
  intro p e s m below meth cd A ls hx hb hr hlocks hml hown hts hA hP hK hD hS hl
  have hin : ∀ w ∈ wsX10, w ∈ wsX1_greatest := fun _ h => List.mem_cons_of_mem _ (List.mem_append_right _ h)
  have S0 : CallFix p m cd cX1_greatest 4 s (([.ref (ad 0)] : List Value).toArray) wsX1_greatest RX1 := ⟨hx, hb, hml, hown, hts⟩
  obtain ⟨H, hH⟩ : ∃ H, H = s.heap := ⟨_, rfl⟩
  obtain ⟨locs, hlocs⟩ : ∃ q : List Loc, q = [] := ⟨_, rfl⟩
  have hP : va_P D vwCl (mw ad tt R w c k d wp wr) H := by rw [hH]; exact hP
  have hS : va_S A s.heap H locs := by rw [hH, hlocs]; exact hS
  suffices hgo : W p l e (headSpec wsX1_greatest ({ frames := 3, cells := 0, slots := 0, locals := 73 } : Room)).room s m (([.ref (ad 0)] : List Value).toArray) below meth cd H locs 0 0 (MQ below (va_Qi (fun v _ => v = nI (ww_mx R w c k)) (xB D (tyM tt) A (fun u : Nat → Int32 => mw ad tt R w c k u wp wr)) A) ([.ref (ad 0)] : List Value).toArray s 0 0 A) (F0 m 0 ls []) by rw [hH, hlocs] at hgo; exact hgo
  clear hH hlocs
  have f_distance := hts (.fieldLink RX1 20 "WireWaysModel" "distance" "[I") (by decide +kernel)
  have f_routers := hts (.fieldLink RX1 23 "WireWaysModel" "routers" "I") (by decide +kernel)
  have hR : R ≤ 10 := hok.2.1
  refine lv_iconst (v := 0) hx hb dX1_greatest_0 (by decide) ?_
  refine lv_istore_n (lv' := [(1, .int 0), (0, .ref (ad 0))]) hx hb dX1_greatest_1 rfl hl (by decide) rfl (fun ls hl => ?_)
  refine lv_iconst (v := 0) hx hb dX1_greatest_2 (by decide) ?_
  refine lv_istore_n (lv' := [(2, .int 0), (1, .int 0), (0, .ref (ad 0))]) hx hb dX1_greatest_3 rfl hl (by decide) rfl (fun ls hl => ?_)
  have lp4 : ∀ (fuel : Nat) (t : Nat) (g : Nat) (d1 : Nat → Int32), (t ≤ R) → (g = mx2 (fun t => ww_T R w c k 0 t) 1000000 R t) → R - t < fuel → ∀ (H : Heap) (locs : List Loc) (ls : Array Slot), va_P D vwCl (mw ad tt R w c k d1 wp wr) H → va_D A (mw ad tt R w c k d1 wp wr) → va_S A s.heap H locs → lv_has ls 4 [(2, .int (nI t)), (1, .int (nI g)), (0, .ref (ad 0))] → W p l e (headSpec wsX1_greatest ({ frames := 3, cells := 0, slots := 0, locals := 73 } : Room)).room s m ([.ref (ad 0)] : List Value).toArray below meth cd H locs 0 0 (MQ below (va_Qi (fun v _ => v = nI (ww_mx R w c k)) (xB D (tyM tt) A (fun u : Nat → Int32 => mw ad tt R w c k u wp wr)) A) ([.ref (ad 0)] : List Value).toArray s 0 0 A) (F0 m 4 ls []) := by
    intro fuel
    induction fuel with
    | zero => intro t g d1 ht0 hg hm; exact absurd hm (Nat.not_lt_zero _)
    | succ fuel ih4 =>
      intro t g d1 ht0 hg hm H locs ls hP hD hS hl
      refine lv_iload_n hx hb dX1_greatest_4 rfl (lv_at hl 0 rfl) ?_
      refine lv_aload_n hx hb dX1_greatest_5 rfl (lv_at hl 2 rfl) ?_
      refine x1_get (v := .int (nI R)) S0 hin hK hP 0 (by decide) f_routers rfl rfl dX1_greatest_6 ?_
      refine lv_icmp_ge (tgt := 72) hx hb dX1_greatest_9 (by decide) (fun c_1 => ?_) (fun c_1 => ?_)
      · have htR : R ≤ t := (nI_leI (by omega) (by omega)).mp c_1
        refine lv_iload_n hx hb dX1_greatest_72 rfl (lv_at hl 1 rfl) ?_
        exact xr_i hx hb hr hlocks d1 (by rw [hg, show t = R by omega]; rfl) hP hK hD hS dX1_greatest_73
      · have htR : t < R := Nat.lt_of_not_le (fun h => c_1 (nI_le h (by omega)))
        refine lv_aload_n hx hb dX1_greatest_12 rfl (lv_at hl 2 rfl) ?_
        refine lv_iconst (v := 0) hx hb dX1_greatest_13 (by decide) ?_
        refine lv_iload_n hx hb dX1_greatest_14 rfl (lv_at hl 0 rfl) ?_
        refine xs_Vv (wr := []) (q0 := 0) (ci := 1) (nA := 2) (As := [.int 0, .int (nI t)]) (rest := []) S0 (k_X1_reckon l D ad tt R w c k d1 wp wr hok 0 t (by omega) (ww_M R w c k 0 t) (ww_M_ok hok k 0 t)) gX1_greatest_X1_reckon rfl ⟨rfl, rfl⟩ (by decide +kernel) rfl ⟨Nat.le_of_ble_eq_true rfl, Nat.le_of_ble_eq_true rfl⟩ ⟨Nat.le_of_ble_eq_true rfl, Nat.le_of_ble_eq_true rfl⟩ hK hP hD hS hA [0, 1, 2, 3, 4] [] rfl rfl (by decide) (by decide) (by decide) rfl rfl rfl hl.1 rfl (Nat.le_of_ble_eq_true rfl) dX1_greatest_15 (fun u1 H locs hw hP hD hS => ?_)
        have hP : va_P D vwCl (mw ad tt R w c k u1 wp wr) H := hP
        have hD : va_D A (mw ad tt R w c k u1 wp wr) := hD
        have hrow := hw
        refine lv_iconst (v := 0) hx hb dX1_greatest_18 (by decide) ?_
        refine lv_istore_n (lv' := [(3, .int 0), (2, .int (nI t)), (1, .int (nI g)), (0, .ref (ad 0))]) hx hb dX1_greatest_19 rfl hl (by decide) rfl (fun ls hl => ?_)
        have lp20 : ∀ (fuel : Nat) (a : Nat) (g1 : Nat), (a ≤ R) → (g1 = mx1 (ww_T R w c k 0 t) 1000000 a (mx2 (fun t => ww_T R w c k 0 t) 1000000 R t)) → R - a < fuel → ∀ (H : Heap) (locs : List Loc) (ls : Array Slot), va_P D vwCl (mw ad tt R w c k u1 wp wr) H → va_D A (mw ad tt R w c k u1 wp wr) → va_S A s.heap H locs → lv_has ls 4 [(3, .int (nI a)), (2, .int (nI t)), (1, .int (nI g1)), (0, .ref (ad 0))] → W p l e (headSpec wsX1_greatest ({ frames := 3, cells := 0, slots := 0, locals := 73 } : Room)).room s m ([.ref (ad 0)] : List Value).toArray below meth cd H locs 0 0 (MQ below (va_Qi (fun v _ => v = nI (ww_mx R w c k)) (xB D (tyM tt) A (fun u : Nat → Int32 => mw ad tt R w c k u wp wr)) A) ([.ref (ad 0)] : List Value).toArray s 0 0 A) (F0 m 20 ls []) := by
          intro fuel
          induction fuel with
          | zero => intro a g1 ha0 hg1 hm; exact absurd hm (Nat.not_lt_zero _)
          | succ fuel ih20 =>
            intro a g1 ha0 hg1 hm H locs ls hP hD hS hl
            refine lv_iload_n hx hb dX1_greatest_20 rfl (lv_at hl 0 rfl) ?_
            refine lv_aload_n hx hb dX1_greatest_21 rfl (lv_at hl 3 rfl) ?_
            refine x1_get (v := .int (nI R)) S0 hin hK hP 0 (by decide) f_routers rfl rfl dX1_greatest_22 ?_
            refine lv_icmp_ge (tgt := 66) hx hb dX1_greatest_25 (by decide) (fun c_3 => ?_) (fun c_3 => ?_)
            · have haR : R ≤ a := (nI_leI (by omega) (by omega)).mp c_3
              refine lv_iinc (v := nI (t + 1)) (lv' := [(2, .int (nI (t + 1))), (3, .int (nI a)), (1, .int (nI g1)), (0, .ref (ad 0))]) hx hb dX1_greatest_66 hl (k := 1) rfl (nI_1 t) (by decide) rfl (fun ls hl => ?_)
              refine lv_goto (tgt := 4) hx hb dX1_greatest_69 (by decide) ?_
              exact ih4 (t + 1) g1 u1 (by omega) (by rw [hg1, show a = R by omega]; rfl) (by omega) H locs ls hP hD hS (lv_sub hl [0, 2, 3] rfl)
            · have haR : a < R := Nat.lt_of_not_le (fun h => c_3 (nI_le h (by omega)))
              have hMle := (ww_M_ok hok k 0 t).1 a haR
              have hg9 : g1 ≤ 1000000 := by rw [hg1]; exact mx1_le (mx2_le _ _ _ t) a
              refine lv_aload_n hx hb dX1_greatest_28 rfl (lv_at hl 3 rfl) ?_
              refine x1_get (v := .ref (ad 4)) S0 hin hK hP 4 (by decide) f_distance rfl rfl dX1_greatest_29 ?_
              refine lv_iload_n hx hb dX1_greatest_32 rfl (lv_at hl 0 rfl) ?_
              refine va_iald hx hb hK hP 4 3 rfl rfl (vp_in_nI (by omega) (by omega)) dX1_greatest_33 ?_
              refine xt_eq (z := u1 a) (congrArg u1 (nI_clamp (by omega))) ?_
              refine xt_eq (z := nI (ww_M R w c k 0 t a)) (hrow a haR) ?_
              refine lv_ldc (v := 100000) hx hb hown (hts (.constant RX1 42 100000) (by decide +kernel)) dX1_greatest_34 ?_
              refine lv_icmp_ge (tgt := 58) hx hb dX1_greatest_36 (by decide) (fun c_4 => ?_) (fun c_4 => ?_)
              · have hge : 100000 ≤ ww_M R w c k 0 t a := (nI_leI (a := 100000) (by omega) (by omega)).mp c_4
                have hsk : ¬ (ww_T R w c k 0 t a < 1000000 ∧ g1 < ww_T R w c k 0 t a) := fun h => absurd ((ww_M_iff hok haR).mpr h.1) (by omega)
                refine lv_iload_n hx hb dX1_greatest_58 rfl (lv_at hl 2 rfl) ?_
                refine lv_istore_n (lv' := [(1, .int (nI g1)), (3, .int (nI a)), (2, .int (nI t)), (0, .ref (ad 0))]) hx hb dX1_greatest_59 rfl hl (by decide) rfl (fun ls hl => ?_)
                refine lv_iinc (v := nI (a + 1)) (lv' := [(3, .int (nI (a + 1))), (1, .int (nI g1)), (2, .int (nI t)), (0, .ref (ad 0))]) hx hb dX1_greatest_60 hl (k := 1) rfl (nI_1 a) (by decide) rfl (fun ls hl => ?_)
                refine lv_goto (tgt := 20) hx hb dX1_greatest_63 (by decide) ?_
                exact ih20 (a + 1) g1 (by omega) (mx1_f hg1 hsk) (by omega) H locs ls hP hD hS (lv_sub hl [0, 2, 1, 3] rfl)
              · have hge : ww_M R w c k 0 t a < 100000 := Nat.lt_of_not_le (fun h => c_4 (nI_le (a := 100000) h (by omega)))
                have hTK := (ww_M_iff hok haR).mp hge
                have hMT := ww_M_1 hTK
                refine lv_aload_n hx hb dX1_greatest_39 rfl (lv_at hl 3 rfl) ?_
                refine x1_get (v := .ref (ad 4)) S0 hin hK hP 4 (by decide) f_distance rfl rfl dX1_greatest_40 ?_
                refine lv_iload_n hx hb dX1_greatest_43 rfl (lv_at hl 0 rfl) ?_
                refine va_iald hx hb hK hP 4 3 rfl rfl (vp_in_nI (by omega) (by omega)) dX1_greatest_44 ?_
                refine xt_eq (z := u1 a) (congrArg u1 (nI_clamp (by omega))) ?_
                refine xt_eq (z := nI (ww_M R w c k 0 t a)) (hrow a haR) ?_
                refine lv_iload_n hx hb dX1_greatest_45 rfl (lv_at hl 2 rfl) ?_
                refine lv_icmp_le (tgt := 58) hx hb dX1_greatest_46 (by decide) (fun c_5 => ?_) (fun c_5 => ?_)
                · have hle : ww_M R w c k 0 t a ≤ g1 := (nI_leI (by omega) (by omega)).mp c_5
                  have hsk : ¬ (ww_T R w c k 0 t a < 1000000 ∧ g1 < ww_T R w c k 0 t a) := by omega
                  refine lv_iload_n hx hb dX1_greatest_58 rfl (lv_at hl 2 rfl) ?_
                  refine lv_istore_n (lv' := [(1, .int (nI g1)), (3, .int (nI a)), (2, .int (nI t)), (0, .ref (ad 0))]) hx hb dX1_greatest_59 rfl hl (by decide) rfl (fun ls hl => ?_)
                  refine lv_iinc (v := nI (a + 1)) (lv' := [(3, .int (nI (a + 1))), (1, .int (nI g1)), (2, .int (nI t)), (0, .ref (ad 0))]) hx hb dX1_greatest_60 hl (k := 1) rfl (nI_1 a) (by decide) rfl (fun ls hl => ?_)
                  refine lv_goto (tgt := 20) hx hb dX1_greatest_63 (by decide) ?_
                  exact ih20 (a + 1) g1 (by omega) (mx1_f hg1 hsk) (by omega) H locs ls hP hD hS (lv_sub hl [0, 2, 1, 3] rfl)
                · have hle : g1 < ww_M R w c k 0 t a := Nat.lt_of_not_le (fun h => c_5 (nI_le h (by omega)))
                  refine lv_aload_n hx hb dX1_greatest_49 rfl (lv_at hl 3 rfl) ?_
                  refine x1_get (v := .ref (ad 4)) S0 hin hK hP 4 (by decide) f_distance rfl rfl dX1_greatest_50 ?_
                  refine lv_iload_n hx hb dX1_greatest_53 rfl (lv_at hl 0 rfl) ?_
                  refine va_iald hx hb hK hP 4 3 rfl rfl (vp_in_nI (by omega) (by omega)) dX1_greatest_54 ?_
                  refine xt_eq (z := u1 a) (congrArg u1 (nI_clamp (by omega))) ?_
                  refine xt_eq (z := nI (ww_T R w c k 0 t a)) ((hrow a haR).trans (by rw [hMT])) ?_
                  refine lv_goto (tgt := 59) hx hb dX1_greatest_55 (by decide) ?_
                  refine lv_istore_n (lv' := [(1, .int (nI (ww_T R w c k 0 t a))), (3, .int (nI a)), (2, .int (nI t)), (0, .ref (ad 0))]) hx hb dX1_greatest_59 rfl hl (by decide) rfl (fun ls hl => ?_)
                  refine lv_iinc (v := nI (a + 1)) (lv' := [(3, .int (nI (a + 1))), (1, .int (nI (ww_T R w c k 0 t a))), (2, .int (nI t)), (0, .ref (ad 0))]) hx hb dX1_greatest_60 hl (k := 1) rfl (nI_1 a) (by decide) rfl (fun ls hl => ?_)
                  refine lv_goto (tgt := 20) hx hb dX1_greatest_63 (by decide) ?_
                  exact ih20 (a + 1) (ww_T R w c k 0 t a) (by omega) (mx1_t hg1 hTK (by omega)) (by omega) H locs ls hP hD hS (lv_sub hl [0, 2, 1, 3] rfl)
        exact lp20 _ 0 g (by omega) hg (Nat.lt_succ_self _) H locs ls hP hD hS (lv_sub hl [0, 1, 2, 3] rfl)
  exact lp4 _ 0 0 d (by omega) rfl (Nat.lt_succ_self _) H locs ls hP hD hS (lv_sub hl [0, 1, 2] rfl)
set_option maxHeartbeats 4000000 in
set_option maxRecDepth 100000 in
theorem k_X1_count (l : Launch) (D : va_G) (ad : Nat → Nat) (tt : Nat → ClassId) (R : Nat) (w c k d : Nat → Int32) (wp wr : Int32) (hok : ww_ok R w c) (x : Int32) : xMi l yX1_count wsX1_count { frames := 4, cells := 0, slots := 0, locals := 96 } D (tyM tt) [.ref (ad 0), .int x] (mw ad tt R w c k d wp wr) (fun u : Nat → Int32 => mw ad tt R w c k u wp wr) (fun v _ => ct_ok R w c k x v) := by
  refine xe_i (cc := cX1_count) (maxL := 4) (ret := (some .int)) (lvl := [(0, .ref (ad 0)), (1, .int x)]) (by decide) rfl (Nat.le_of_ble_eq_true rfl) rfl ?_
  intro p e s m below meth cd A ls hx hb hr hlocks hml hown hts hA hP hK hD hS hl
  have hin : ∀ w ∈ wsX10, w ∈ wsX1_count := fun _ h => List.mem_cons_of_mem _ (List.mem_append_right _ h)
  have S0 : CallFix p m cd cX1_count 4 s (([.ref (ad 0), .int x] : List Value).toArray) wsX1_count RX1 := ⟨hx, hb, hml, hown, hts⟩
  obtain ⟨H, hH⟩ : ∃ H, H = s.heap := ⟨_, rfl⟩
  obtain ⟨locs, hlocs⟩ : ∃ q : List Loc, q = [] := ⟨_, rfl⟩
  have hP : va_P D vwCl (mw ad tt R w c k d wp wr) H := by rw [hH]; exact hP
  have hS : va_S A s.heap H locs := by rw [hH, hlocs]; exact hS
  suffices hgo : W p l e (headSpec wsX1_count ({ frames := 4, cells := 0, slots := 0, locals := 96 } : Room)).room s m (([.ref (ad 0), .int x] : List Value).toArray) below meth cd H locs 0 0 (MQ below (va_Qi (fun v _ => ct_ok R w c k x v) (xB D (tyM tt) A (fun u : Nat → Int32 => mw ad tt R w c k u wp wr)) A) ([.ref (ad 0), .int x] : List Value).toArray s 0 0 A) (F0 m 0 ls []) by rw [hH, hlocs] at hgo; exact hgo
  clear hH hlocs
  have f_wireOf := hts (.fieldLink RX1 7 "WireWaysModel" "wireOf" "[I") (by decide +kernel)
  have f_isCut := hts (.fieldLink RX1 16 "WireWaysModel" "isCut" "[Z") (by decide +kernel)
  have f_routers := hts (.fieldLink RX1 23 "WireWaysModel" "routers" "I") (by decide +kernel)
  have hR : R ≤ 10 := hok.2.1
  refine lv_iload_n hx hb dX1_count_0 rfl (lv_at hl 1 rfl) ?_
  refine lv_if_ne (tgt := 9) hx hb dX1_count_1 (by decide) (fun c_1 => ?_) (fun c_1 => ?_)
  · have h0 := c_1
    refine lv_iload_n hx hb dX1_count_9 rfl (lv_at hl 1 rfl) ?_
    refine lv_iconst (v := 3) hx hb dX1_count_10 (by decide) ?_
    refine lv_icmp_ne (tgt := 19) hx hb dX1_count_11 (by decide) (fun c_2 => ?_) (fun c_2 => ?_)
    · have h3 := c_2
      refine lv_iload_n hx hb dX1_count_19 rfl (lv_at hl 1 rfl) ?_
      refine lv_iconst (v := 1) hx hb dX1_count_20 (by decide) ?_
      refine lv_icmp_eq (tgt := 31) hx hb dX1_count_21 (by decide) (fun c_3 => ?_) (fun c_3 => ?_)
      · subst c_3
        refine lv_iconst (v := 0) hx hb dX1_count_31 (by decide) ?_
        refine lv_istore_n (lv' := [(2, .int 0), (0, .ref (ad 0)), (1, .int 1)]) hx hb dX1_count_32 rfl hl (by decide) rfl (fun ls hl => ?_)
        refine lv_iconst (v := 0) hx hb dX1_count_33 (by decide) ?_
        refine lv_istore_n (lv' := [(3, .int 0), (2, .int 0), (0, .ref (ad 0)), (1, .int 1)]) hx hb dX1_count_34 rfl hl (by decide) rfl (fun ls hl => ?_)
        have lp35 : ∀ (fuel : Nat) (a : Nat) (cn : Nat), (a ≤ 40) → (cn = dm_cnt (fun a => decide (w a ≠ -1)) a) → 40 - a < fuel → ∀ (H : Heap) (locs : List Loc) (ls : Array Slot), va_P D vwCl (mw ad tt R w c k d wp wr) H → va_D A (mw ad tt R w c k d wp wr) → va_S A s.heap H locs → lv_has ls 4 [(3, .int (nI a)), (2, .int (nI cn)), (0, .ref (ad 0)), (1, .int 1)] → W p l e (headSpec wsX1_count ({ frames := 4, cells := 0, slots := 0, locals := 96 } : Room)).room s m ([.ref (ad 0), .int (1)] : List Value).toArray below meth cd H locs 0 0 (MQ below (va_Qi (fun v _ => ct_ok R w c k (1) v) (xB D (tyM tt) A (fun u : Nat → Int32 => mw ad tt R w c k u wp wr)) A) ([.ref (ad 0), .int (1)] : List Value).toArray s 0 0 A) (F0 m 35 ls []) := by
          intro fuel
          induction fuel with
          | zero => intro a cn ha0 hcn hm; exact absurd hm (Nat.not_lt_zero _)
          | succ fuel ih35 =>
            intro a cn ha0 hcn hm H locs ls hP hD hS hl
            refine lv_iload_n hx hb dX1_count_35 rfl (lv_at hl 0 rfl) ?_
            refine lv_bipush (v := 40) hx hb dX1_count_36 (by decide) ?_
            refine lv_icmp_ge (tgt := 70) hx hb dX1_count_38 (by decide) (fun c_4 => ?_) (fun c_4 => ?_)
            · have ha4 : 40 ≤ a := (nI_leI (a := 40) (by omega) (by omega)).mp c_4
              refine lv_iconst (v := 0) hx hb dX1_count_70 (by decide) ?_
              refine lv_istore_n (lv' := [(3, .int 0), (2, .int (nI cn)), (0, .ref (ad 0)), (1, .int 1)]) hx hb dX1_count_71 rfl hl (by decide) rfl (fun ls hl => ?_)
              have lp72 : ∀ (fuel : Nat) (a : Nat) (cn : Nat), (a ≤ 16) → (cn = dm_cnt (fun a => decide (w a ≠ -1)) 40) → 16 - a < fuel → ∀ (H : Heap) (locs : List Loc) (ls : Array Slot), va_P D vwCl (mw ad tt R w c k d wp wr) H → va_D A (mw ad tt R w c k d wp wr) → va_S A s.heap H locs → lv_has ls 4 [(3, .int (nI a)), (2, .int (nI cn)), (0, .ref (ad 0)), (1, .int 1)] → W p l e (headSpec wsX1_count ({ frames := 4, cells := 0, slots := 0, locals := 96 } : Room)).room s m ([.ref (ad 0), .int (1)] : List Value).toArray below meth cd H locs 0 0 (MQ below (va_Qi (fun v _ => ct_ok R w c k (1) v) (xB D (tyM tt) A (fun u : Nat → Int32 => mw ad tt R w c k u wp wr)) A) ([.ref (ad 0), .int (1)] : List Value).toArray s 0 0 A) (F0 m 72 ls []) := by
                intro fuel
                induction fuel with
                | zero => intro a cn ha0 hcn hm; exact absurd hm (Nat.not_lt_zero _)
                | succ fuel ih72 =>
                  intro a cn ha0 hcn hm H locs ls hP hD hS hl
                  refine lv_iload_n hx hb dX1_count_72 rfl (lv_at hl 0 rfl) ?_
                  refine lv_bipush (v := 16) hx hb dX1_count_73 (by decide) ?_
                  refine lv_icmp_ge (tgt := 106) hx hb dX1_count_75 (by decide) (fun c_5 => ?_) (fun c_5 => ?_)
                  · have ha6 : 16 ≤ a := (nI_leI (a := 16) (by omega) (by omega)).mp c_5
                    refine lv_iload_n hx hb dX1_count_106 rfl (lv_at hl 1 rfl) ?_
                    exact xr_i hx hb hr hlocks d (Or.inr (Or.inl ⟨rfl, congrArg nI hcn⟩)) hP hK hD hS dX1_count_107
                  · have ha6 : a < 16 := Nat.lt_of_not_le (fun h => c_5 (nI_le (a := 16) h (by omega)))
                    refine lv_iload_n hx hb dX1_count_78 rfl (lv_at hl 1 rfl) ?_
                    refine lv_iload_n hx hb dX1_count_79 rfl (lv_at hl 3 rfl) ?_
                    refine lv_iconst (v := 2) hx hb dX1_count_80 (by decide) ?_
                    refine lv_icmp_ne (tgt := 97) hx hb dX1_count_81 (by decide) (fun c_6 => ?_) (fun c_6 => absurd c_6 (by decide))
                    refine lv_iconst (v := 0) hx hb dX1_count_97 (by decide) ?_
                    refine lv_iadd hx hb dX1_count_98 ?_
                    refine xt_eq (z := nI cn) (nI_add cn 0) ?_
                    refine lv_istore_n (lv' := [(2, .int (nI cn)), (3, .int (nI a)), (0, .ref (ad 0)), (1, .int 1)]) hx hb dX1_count_99 rfl hl (by decide) rfl (fun ls hl => ?_)
                    refine lv_iinc (v := nI (a + 1)) (lv' := [(3, .int (nI (a + 1))), (2, .int (nI cn)), (0, .ref (ad 0)), (1, .int 1)]) hx hb dX1_count_100 hl (k := 1) rfl (nI_1 a) (by decide) rfl (fun ls hl => ?_)
                    refine lv_goto (tgt := 72) hx hb dX1_count_103 (by decide) ?_
                    exact ih72 (a + 1) cn (by omega) hcn (by omega) H locs ls hP hD hS (lv_sub hl [0, 1, 2, 3] rfl)
              exact lp72 _ 0 cn (by omega) (by rw [hcn, show a = 40 by omega]) (Nat.lt_succ_self _) H locs ls hP hD hS (lv_sub hl [0, 1, 2, 3] rfl)
            · have ha4 : a < 40 := Nat.lt_of_not_le (fun h => c_4 (nI_le (a := 40) h (by omega)))
              refine lv_iload_n hx hb dX1_count_41 rfl (lv_at hl 1 rfl) ?_
              refine lv_iload_n hx hb dX1_count_42 rfl (lv_at hl 3 rfl) ?_
              refine lv_iconst (v := 1) hx hb dX1_count_43 (by decide) ?_
              refine lv_icmp_ne (tgt := 61) hx hb dX1_count_44 (by decide) (fun c_7 => absurd c_7 (by decide)) (fun c_7 => ?_)
              refine lv_aload_n hx hb dX1_count_47 rfl (lv_at hl 2 rfl) ?_
              refine x1_get (v := .ref (ad 1)) S0 hin hK hP 1 (by decide) f_wireOf rfl rfl dX1_count_48 ?_
              refine lv_iload_n hx hb dX1_count_51 rfl (lv_at hl 0 rfl) ?_
              refine va_iald hx hb hK hP 1 0 rfl rfl (vp_in_nI (by omega) (by omega)) dX1_count_52 ?_
              refine xt_eq (z := w a) (congrArg w (nI_clamp (by omega))) ?_
              refine lv_iconst (v := (-1)) hx hb dX1_count_53 (by decide) ?_
              refine lv_icmp_eq (tgt := 61) hx hb dX1_count_54 (by decide) (fun c_8 => ?_) (fun c_8 => ?_)
              · have he := c_8
                refine lv_iconst (v := 0) hx hb dX1_count_61 (by decide) ?_
                refine lv_iadd hx hb dX1_count_62 ?_
                refine xt_eq (z := nI cn) (nI_add cn 0) ?_
                refine lv_istore_n (lv' := [(2, .int (nI cn)), (3, .int (nI a)), (0, .ref (ad 0)), (1, .int 1)]) hx hb dX1_count_63 rfl hl (by decide) rfl (fun ls hl => ?_)
                refine lv_iinc (v := nI (a + 1)) (lv' := [(3, .int (nI (a + 1))), (2, .int (nI cn)), (0, .ref (ad 0)), (1, .int 1)]) hx hb dX1_count_64 hl (k := 1) rfl (nI_1 a) (by decide) rfl (fun ls hl => ?_)
                refine lv_goto (tgt := 35) hx hb dX1_count_67 (by decide) ?_
                exact ih35 (a + 1) cn (by omega) (cnt_f hcn (fun h => of_decide_eq_true h he)) (by omega) H locs ls hP hD hS (lv_sub hl [0, 1, 2, 3] rfl)
              · have he := c_8
                refine lv_iconst (v := 1) hx hb dX1_count_57 (by decide) ?_
                refine lv_goto (tgt := 62) hx hb dX1_count_58 (by decide) ?_
                refine lv_iadd hx hb dX1_count_62 ?_
                refine xt_eq (z := nI (cn + 1)) (nI_1 cn) ?_
                refine lv_istore_n (lv' := [(2, .int (nI (cn + 1))), (3, .int (nI a)), (0, .ref (ad 0)), (1, .int 1)]) hx hb dX1_count_63 rfl hl (by decide) rfl (fun ls hl => ?_)
                refine lv_iinc (v := nI (a + 1)) (lv' := [(3, .int (nI (a + 1))), (2, .int (nI (cn + 1))), (0, .ref (ad 0)), (1, .int 1)]) hx hb dX1_count_64 hl (k := 1) rfl (nI_1 a) (by decide) rfl (fun ls hl => ?_)
                refine lv_goto (tgt := 35) hx hb dX1_count_67 (by decide) ?_
                exact ih35 (a + 1) (cn + 1) (by omega) (cnt_t hcn (decide_eq_true he)) (by omega) H locs ls hP hD hS (lv_sub hl [0, 1, 2, 3] rfl)
        exact lp35 _ 0 0 (by omega) rfl (Nat.lt_succ_self _) H locs ls hP hD hS (lv_sub hl [0, 1, 2, 3] rfl)
      · have h1 := c_3
        refine lv_iload_n hx hb dX1_count_24 rfl (lv_at hl 1 rfl) ?_
        refine lv_iconst (v := 2) hx hb dX1_count_25 (by decide) ?_
        refine lv_icmp_eq (tgt := 31) hx hb dX1_count_26 (by decide) (fun c_9 => ?_) (fun c_9 => ?_)
        · subst c_9
          refine lv_iconst (v := 0) hx hb dX1_count_31 (by decide) ?_
          refine lv_istore_n (lv' := [(2, .int 0), (0, .ref (ad 0)), (1, .int 2)]) hx hb dX1_count_32 rfl hl (by decide) rfl (fun ls hl => ?_)
          refine lv_iconst (v := 0) hx hb dX1_count_33 (by decide) ?_
          refine lv_istore_n (lv' := [(3, .int 0), (2, .int 0), (0, .ref (ad 0)), (1, .int 2)]) hx hb dX1_count_34 rfl hl (by decide) rfl (fun ls hl => ?_)
          have lp35 : ∀ (fuel : Nat) (a : Nat) (cn : Nat), (a ≤ 40) → (cn = 0) → 40 - a < fuel → ∀ (H : Heap) (locs : List Loc) (ls : Array Slot), va_P D vwCl (mw ad tt R w c k d wp wr) H → va_D A (mw ad tt R w c k d wp wr) → va_S A s.heap H locs → lv_has ls 4 [(3, .int (nI a)), (2, .int (nI cn)), (0, .ref (ad 0)), (1, .int 2)] → W p l e (headSpec wsX1_count ({ frames := 4, cells := 0, slots := 0, locals := 96 } : Room)).room s m ([.ref (ad 0), .int (2)] : List Value).toArray below meth cd H locs 0 0 (MQ below (va_Qi (fun v _ => ct_ok R w c k (2) v) (xB D (tyM tt) A (fun u : Nat → Int32 => mw ad tt R w c k u wp wr)) A) ([.ref (ad 0), .int (2)] : List Value).toArray s 0 0 A) (F0 m 35 ls []) := by
            intro fuel
            induction fuel with
            | zero => intro a cn ha0 hcn hm; exact absurd hm (Nat.not_lt_zero _)
            | succ fuel ih35 =>
              intro a cn ha0 hcn hm H locs ls hP hD hS hl
              refine lv_iload_n hx hb dX1_count_35 rfl (lv_at hl 0 rfl) ?_
              refine lv_bipush (v := 40) hx hb dX1_count_36 (by decide) ?_
              refine lv_icmp_ge (tgt := 70) hx hb dX1_count_38 (by decide) (fun c_10 => ?_) (fun c_10 => ?_)
              · have ha4 : 40 ≤ a := (nI_leI (a := 40) (by omega) (by omega)).mp c_10
                refine lv_iconst (v := 0) hx hb dX1_count_70 (by decide) ?_
                refine lv_istore_n (lv' := [(3, .int 0), (2, .int (nI cn)), (0, .ref (ad 0)), (1, .int 2)]) hx hb dX1_count_71 rfl hl (by decide) rfl (fun ls hl => ?_)
                have lp72 : ∀ (fuel : Nat) (a : Nat) (cn : Nat), (a ≤ 16) → (cn = dm_cnt (fun a => decide (k a ≠ 0)) a) → 16 - a < fuel → ∀ (H : Heap) (locs : List Loc) (ls : Array Slot), va_P D vwCl (mw ad tt R w c k d wp wr) H → va_D A (mw ad tt R w c k d wp wr) → va_S A s.heap H locs → lv_has ls 4 [(3, .int (nI a)), (2, .int (nI cn)), (0, .ref (ad 0)), (1, .int 2)] → W p l e (headSpec wsX1_count ({ frames := 4, cells := 0, slots := 0, locals := 96 } : Room)).room s m ([.ref (ad 0), .int (2)] : List Value).toArray below meth cd H locs 0 0 (MQ below (va_Qi (fun v _ => ct_ok R w c k (2) v) (xB D (tyM tt) A (fun u : Nat → Int32 => mw ad tt R w c k u wp wr)) A) ([.ref (ad 0), .int (2)] : List Value).toArray s 0 0 A) (F0 m 72 ls []) := by
                  intro fuel
                  induction fuel with
                  | zero => intro a cn ha0 hcn hm; exact absurd hm (Nat.not_lt_zero _)
                  | succ fuel ih72 =>
                    intro a cn ha0 hcn hm H locs ls hP hD hS hl
                    refine lv_iload_n hx hb dX1_count_72 rfl (lv_at hl 0 rfl) ?_
                    refine lv_bipush (v := 16) hx hb dX1_count_73 (by decide) ?_
                    refine lv_icmp_ge (tgt := 106) hx hb dX1_count_75 (by decide) (fun c_11 => ?_) (fun c_11 => ?_)
                    · have ha6 : 16 ≤ a := (nI_leI (a := 16) (by omega) (by omega)).mp c_11
                      refine lv_iload_n hx hb dX1_count_106 rfl (lv_at hl 1 rfl) ?_
                      exact xr_i hx hb hr hlocks d (Or.inr (Or.inr (Or.inl ⟨rfl, by rw [hcn, show a = 16 by omega]⟩))) hP hK hD hS dX1_count_107
                    · have ha6 : a < 16 := Nat.lt_of_not_le (fun h => c_11 (nI_le (a := 16) h (by omega)))
                      refine lv_iload_n hx hb dX1_count_78 rfl (lv_at hl 1 rfl) ?_
                      refine lv_iload_n hx hb dX1_count_79 rfl (lv_at hl 3 rfl) ?_
                      refine lv_iconst (v := 2) hx hb dX1_count_80 (by decide) ?_
                      refine lv_icmp_ne (tgt := 97) hx hb dX1_count_81 (by decide) (fun c_12 => absurd c_12 (by decide)) (fun c_12 => ?_)
                      refine lv_aload_n hx hb dX1_count_84 rfl (lv_at hl 2 rfl) ?_
                      refine x1_get (v := .ref (ad 3)) S0 hin hK hP 3 (by decide) f_isCut rfl rfl dX1_count_85 ?_
                      refine lv_iload_n hx hb dX1_count_88 rfl (lv_at hl 0 rfl) ?_
                      refine va_zald hx hb hK hP 3 2 rfl rfl (vp_in_nI (by omega) (by omega)) dX1_count_89 ?_
                      refine xt_eq (z := k a) (congrArg k (nI_clamp (by omega))) ?_
                      refine lv_if_eq (tgt := 97) hx hb dX1_count_90 (by decide) (fun c_13 => ?_) (fun c_13 => ?_)
                      · have he := c_13
                        refine lv_iconst (v := 0) hx hb dX1_count_97 (by decide) ?_
                        refine lv_iadd hx hb dX1_count_98 ?_
                        refine xt_eq (z := nI cn) (nI_add cn 0) ?_
                        refine lv_istore_n (lv' := [(2, .int (nI cn)), (3, .int (nI a)), (0, .ref (ad 0)), (1, .int 2)]) hx hb dX1_count_99 rfl hl (by decide) rfl (fun ls hl => ?_)
                        refine lv_iinc (v := nI (a + 1)) (lv' := [(3, .int (nI (a + 1))), (2, .int (nI cn)), (0, .ref (ad 0)), (1, .int 2)]) hx hb dX1_count_100 hl (k := 1) rfl (nI_1 a) (by decide) rfl (fun ls hl => ?_)
                        refine lv_goto (tgt := 72) hx hb dX1_count_103 (by decide) ?_
                        exact ih72 (a + 1) cn (by omega) (cnt_f hcn (fun h => of_decide_eq_true h he)) (by omega) H locs ls hP hD hS (lv_sub hl [0, 1, 2, 3] rfl)
                      · have he := c_13
                        refine lv_iconst (v := 1) hx hb dX1_count_93 (by decide) ?_
                        refine lv_goto (tgt := 98) hx hb dX1_count_94 (by decide) ?_
                        refine lv_iadd hx hb dX1_count_98 ?_
                        refine xt_eq (z := nI (cn + 1)) (nI_1 cn) ?_
                        refine lv_istore_n (lv' := [(2, .int (nI (cn + 1))), (3, .int (nI a)), (0, .ref (ad 0)), (1, .int 2)]) hx hb dX1_count_99 rfl hl (by decide) rfl (fun ls hl => ?_)
                        refine lv_iinc (v := nI (a + 1)) (lv' := [(3, .int (nI (a + 1))), (2, .int (nI (cn + 1))), (0, .ref (ad 0)), (1, .int 2)]) hx hb dX1_count_100 hl (k := 1) rfl (nI_1 a) (by decide) rfl (fun ls hl => ?_)
                        refine lv_goto (tgt := 72) hx hb dX1_count_103 (by decide) ?_
                        exact ih72 (a + 1) (cn + 1) (by omega) (cnt_t hcn (decide_eq_true he)) (by omega) H locs ls hP hD hS (lv_sub hl [0, 1, 2, 3] rfl)
                exact lp72 _ 0 cn (by omega) hcn (Nat.lt_succ_self _) H locs ls hP hD hS (lv_sub hl [0, 1, 2, 3] rfl)
              · have ha4 : a < 40 := Nat.lt_of_not_le (fun h => c_10 (nI_le (a := 40) h (by omega)))
                refine lv_iload_n hx hb dX1_count_41 rfl (lv_at hl 1 rfl) ?_
                refine lv_iload_n hx hb dX1_count_42 rfl (lv_at hl 3 rfl) ?_
                refine lv_iconst (v := 1) hx hb dX1_count_43 (by decide) ?_
                refine lv_icmp_ne (tgt := 61) hx hb dX1_count_44 (by decide) (fun c_14 => ?_) (fun c_14 => absurd c_14 (by decide))
                refine lv_iconst (v := 0) hx hb dX1_count_61 (by decide) ?_
                refine lv_iadd hx hb dX1_count_62 ?_
                refine xt_eq (z := nI cn) (nI_add cn 0) ?_
                refine lv_istore_n (lv' := [(2, .int (nI cn)), (3, .int (nI a)), (0, .ref (ad 0)), (1, .int 2)]) hx hb dX1_count_63 rfl hl (by decide) rfl (fun ls hl => ?_)
                refine lv_iinc (v := nI (a + 1)) (lv' := [(3, .int (nI (a + 1))), (2, .int (nI cn)), (0, .ref (ad 0)), (1, .int 2)]) hx hb dX1_count_64 hl (k := 1) rfl (nI_1 a) (by decide) rfl (fun ls hl => ?_)
                refine lv_goto (tgt := 35) hx hb dX1_count_67 (by decide) ?_
                exact ih35 (a + 1) cn (by omega) hcn (by omega) H locs ls hP hD hS (lv_sub hl [0, 1, 2, 3] rfl)
          exact lp35 _ 0 0 (by omega) rfl (Nat.lt_succ_self _) H locs ls hP hD hS (lv_sub hl [0, 1, 2, 3] rfl)
        · have h2 := c_9
          refine lv_iconst (v := (-1)) hx hb dX1_count_29 (by decide) ?_
          exact xr_i hx hb hr hlocks d (Or.inr (Or.inr (Or.inr (Or.inr ⟨h0, h1, h2, h3, rfl⟩)))) hP hK hD hS dX1_count_30
    · have h3 := c_2
      refine lv_aload_n hx hb dX1_count_14 rfl (lv_at hl 0 rfl) ?_
      refine xs_Vi (wr := []) (q0 := 0) (ci := 1) (nA := 0) (As := []) (rest := []) S0 (k_X1_greatest l D ad tt R w c k d wp wr hok) gX1_count_X1_greatest rfl ⟨rfl, rfl⟩ (by decide +kernel) rfl ⟨Nat.le_of_ble_eq_true rfl, Nat.le_of_ble_eq_true rfl⟩ ⟨Nat.le_of_ble_eq_true rfl, Nat.le_of_ble_eq_true rfl⟩ hK hP hD hS hA [0, 1, 2, 3, 4] [] rfl rfl (by decide) (by decide) (by decide) rfl rfl rfl hl.1 rfl (Nat.le_of_ble_eq_true rfl) dX1_count_15 (fun r_15 u1 H locs hw hP hD hS => ?_)
      have hP : va_P D vwCl (mw ad tt R w c k u1 wp wr) H := hP
      have hD : va_D A (mw ad tt R w c k u1 wp wr) := hD
      subst hw
      exact xr_i hx hb hr hlocks u1 (Or.inr (Or.inr (Or.inr (Or.inl ⟨h3, rfl⟩)))) hP hK hD hS dX1_count_18
  · have h0 := c_1
    refine lv_aload_n hx hb dX1_count_4 rfl (lv_at hl 0 rfl) ?_
    refine x1_get (v := .int (nI R)) S0 hin hK hP 0 (by decide) f_routers rfl rfl dX1_count_5 ?_
    exact xr_i hx hb hr hlocks d (Or.inl ⟨h0, rfl⟩) hP hK hD hS dX1_count_8
end
section
theorem cell_ext {cA : ClassId} {n : Nat} {f g : Nat → Int32} (h : ∀ j, j < n → f j = g j) : vp_cell cA (n, .inl f) = vp_cell cA (n, .inl g) := by
  show arrV cA n (fun j => .int (f j)) = arrV cA n (fun j => .int (g j))
  unfold arrV
  have e : (fun j : Fin n => Value.int (f j.val)) = (fun j : Fin n => Value.int (g j.val)) := funext fun j => by rw [h j.val j.isLt]
  rw [e]
theorem va_Dfst {A : Nat → Prop} {ws ws' : va_W} (h : ws.map Prod.fst = ws'.map Prod.fst) (hD : va_D A ws) : va_D A ws' := by
  have key : ∀ (i : Nat) (q : Nat × va_E), ws'[i]? = some q → ∃ q', ws[i]? = some q' ∧ q'.1 = q.1 := by
    intro i q hq
    have h1 : (ws'.map Prod.fst)[i]? = some q.1 := by rw [List.getElem?_map, hq]; rfl
    rw [← h, List.getElem?_map] at h1
    cases hw : ws[i]? with
    | none => rw [hw] at h1; cases h1
    | some q' =>
      rw [hw] at h1
      exact ⟨q', rfl, Option.some.inj h1⟩
  refine ⟨fun i j p q hp hq e => ?_, fun i q hq => ?_⟩
  · obtain ⟨p', hp', ep⟩ := key i p hp
    obtain ⟨q', hq', eq⟩ := key j q hq
    exact hD.1 i j p' q' hp' hq' (by rw [ep, eq]; exact e)
  · obtain ⟨q', hq', eq⟩ := key i q hq
    rw [← eq]
    exact hD.2 i q' hq'
section
variable {D : va_G} {A : Nat → Prop} {ad : Nat → Nat} {tt : Nat → ClassId} {R : Nat} {w w' c k d n : Nat → Int32} {wp wr : Int32} {H : Heap}
theorem xw_w (hP : va_P D vwCl (xw ad tt R w c k d n wp wr) H) (h : ∀ j, j < 40 → w j = w' j) : va_P D vwCl (xw ad tt R w' c k d n wp wr) H := by
  intro i q hq
  match i, hq with
  | 0, hq => exact hP 0 q hq
  | 1, hq =>
    cases hq
    show H[ad 1]? = some (vp_cell (tt 1) (40, .inl w'))
    rw [← cell_ext h]
    exact hP 1 _ rfl
  | i + 2, hq => exact hP (i + 2) q hq
theorem xw_Dw (hD : va_D A (xw ad tt R w c k d n wp wr)) : va_D A (xw ad tt R w' c k d n wp wr) := va_Dfst (ws := xw ad tt R w c k d n wp wr) rfl hD
theorem mw_w (hP : va_P D vwCl (mw ad tt R w c k d wp wr) H) (h : ∀ j, j < 40 → w j = w' j) : va_P D vwCl (mw ad tt R w' c k d wp wr) H := by
  intro i q hq
  match i, hq with
  | 0, hq => exact hP 0 q hq
  | 1, hq =>
    cases hq
    show H[ad 1]? = some (vp_cell (tt 1) (40, .inl w'))
    rw [← cell_ext h]
    exact hP 1 _ rfl
  | i + 2, hq => exact hP (i + 2) q hq
theorem mw_Dw (hD : va_D A (mw ad tt R w c k d wp wr)) : va_D A (mw ad tt R w' c k d wp wr) := va_Dfst (ws := mw ad tt R w c k d wp wr) rfl hD
end
/-- how many routers there are -/
def clampR (x : Int32) : Nat := if x < 1 then 1 else if 10 < x then 10 else x.toNatClampNeg
section
variable {x : Int32}
theorem cl_lt {a b : Int32} (h : ¬ a < b) : b ≤ a := by
  rw [Int32.lt_iff_toInt_lt] at h
  rw [Int32.le_iff_toInt_le]
  omega
theorem cl_le {a b : Int32} (h : ¬ a ≤ b) : b < a := by
  rw [Int32.le_iff_toInt_le] at h
  rw [Int32.lt_iff_toInt_lt]
  omega
theorem cl_no {a b : Int32} (h : a ≤ b) : ¬ b < a := by
  rw [Int32.le_iff_toInt_le] at h
  rw [Int32.lt_iff_toInt_lt]
  omega
theorem cl_x (h1 : 1 ≤ x) (h2 : x ≤ 10) : ∃ j, 1 ≤ j ∧ j ≤ 10 ∧ x = nI j := by
  have h0 : ¬ x < 0 := by
    rw [Int32.le_iff_toInt_le] at h1
    rw [Int32.lt_iff_toInt_lt]
    rw [show (1 : Int32).toInt = 1 from rfl] at h1
    rw [show (0 : Int32).toInt = 0 from rfl]
    omega
  obtain ⟨j, hj, rfl⟩ := nI_of h0
  exact ⟨j, (nI_leI (a := 1) (by omega) hj).mp h1, (nI_leI (b := 10) hj (by omega)).mp h2, rfl⟩
theorem cl_1 (h : ¬ 1 ≤ x) : (1 : Int32) = nI (clampR x) := by
  unfold clampR
  rw [if_pos (cl_le h)]
  rfl
theorem cl_2 (h1 : 1 ≤ x) (h2 : ¬ x ≤ 10) : (10 : Int32) = nI (clampR x) := by
  unfold clampR
  rw [if_neg (cl_no h1), if_pos (cl_le h2)]
  rfl
theorem cl_3 (h1 : 1 ≤ x) (h2 : x ≤ 10) : x = nI (clampR x) := by
  unfold clampR
  rw [if_neg (cl_no h1), if_neg (cl_no h2)]
  obtain ⟨j, j1, j2, rfl⟩ := cl_x h1 h2
  rw [nI_clamp (by omega)]
theorem cl_ok (x : Int32) : 1 ≤ clampR x ∧ clampR x ≤ 10 := by
  by_cases h1 : 1 ≤ x
  · by_cases h2 : x ≤ 10
    · obtain ⟨j, j1, j2, rfl⟩ := cl_x h1 h2
      have := (nI_eq (by omega) (by unfold clampR; rw [if_neg (cl_no h1), if_neg (cl_no h2), nI_clamp (by omega)]; omega)).mp (cl_3 h1 h2)
      omega
    · unfold clampR
      rw [if_neg (cl_no h1), if_pos (cl_le h2)]
      omega
  · unfold clampR
    rw [if_pos (cl_le h1)]
    omega
theorem cl_mm (x : Int32) : (if (1 : Int32) < (if x < 10 then x else 10) then (if x < 10 then x else 10) else 1) = nI (clampR x) := by
  by_cases h2 : x < 10
  · rw [if_pos h2]
    by_cases h1 : 1 < x
    · rw [if_pos h1]
      refine cl_3 ?_ ?_
      · rw [Int32.lt_iff_toInt_lt] at h1
        rw [Int32.le_iff_toInt_le]
        omega
      · rw [Int32.lt_iff_toInt_lt] at h2
        rw [Int32.le_iff_toInt_le]
        omega
    · rw [if_neg h1]
      by_cases h0 : 1 ≤ x
      · have : x = 1 := by
          apply Int32.toInt_inj.mp
          rw [Int32.lt_iff_toInt_lt] at h1
          rw [Int32.le_iff_toInt_le] at h0
          omega
        subst this
        decide
      · exact cl_1 h0
  · rw [if_neg h2, if_pos (by decide)]
    have h10 := cl_lt h2
    by_cases h3 : x ≤ 10
    · have : x = 10 := by
        apply Int32.toInt_inj.mp
        rw [Int32.le_iff_toInt_le] at h10 h3
        omega
      subst this
      decide
    · refine cl_2 ?_ h3
      rw [Int32.le_iff_toInt_le] at h10 ⊢
      rw [show (10 : Int32).toInt = 10 from rfl] at h10
      rw [show (1 : Int32).toInt = 1 from rfl]
      omega
end
/-- what stands behind the constructors -/
abbrev z0 : Nat → Int32 := fun _ => 0
abbrev w0 : Nat → Int32 := fun _ => -1
def xBI (D : va_G) (A : Nat → Prop) (R : Nat) (u : (Nat → Nat) × (Nat → ClassId)) (t : State) : Prop := va_P D vwCl (xw u.1 u.2 R w0 z0 z0 z0 z0 (-1) (-1)) t.heap ∧ va_K D vwCl (tyX u.2) t ∧ va_D A (xw u.1 u.2 R w0 z0 z0 z0 z0 (-1) (-1))
def mBI (D : va_G) (A : Nat → Prop) (R : Nat) (u : (Nat → Nat) × (Nat → ClassId)) (t : State) : Prop := va_P D vwCl (mw u.1 u.2 R w0 z0 z0 z0 0 0) t.heap ∧ va_K D vwCl (tyM u.2) t ∧ va_D A (mw u.1 u.2 R w0 z0 z0 z0 0 0)
section
variable {p : Program} {l : Launch} {e : Env} {R : Room} {s : State} {m : MethodId} {args : Array Value} {below : List Frame} {meth : Method} {c : Code} {H : Heap} {locs : List Loc} {cells slots : Nat} {Q : State → Prop}
variable {pc : Nat} {ls : Array Slot} {rest : List Value} {A : Nat → Prop} {H0 : Heap} {D : va_G} {tys : List (ClassId × FieldType)} {wt : va_W} {cc : ByteArray} {nL index : Nat} {Ts : List Cond} {h0 : Nat} {fs : List Value} {v : Value}
theorem x0_putF {ty : FieldType} (S0 : CallFix p m c cc nL s args Ts RX0) (hin : ∀ w ∈ wsX00, w ∈ Ts) (hK : va_K D vwCl tys s) (hP : va_P D vwCl ((h0, .inr (0, fs)) :: wt) H) (hD : va_D A ((h0, .inr (0, fs)) :: wt)) (hS : va_S A H0 H locs) (hi : meth.name = "<init>") (k : Nat) (hk : k < 8) (hlink : (Cond.fieldLink RX0 index RX0 (TX0 k).2.1 (TX0 k).2.2.1).before args s = true) (hT : (TX0 k).1 = RX0) (hfin : (TX0 k).2.2.2 = true) (hd : tyX0 k = ty) (hn : narrow ty v = v) (hfit : fits ty v = true) (hl : k < fs.length) (hdg : decode cc pc = .ok (.putfield index, 3))
    (kk : ∀ (H1 : Heap) (locs1 : List Loc), va_P D vwCl ((h0, .inr (0, fs.set k v)) :: wt) H1 → va_D A ((h0, .inr (0, fs.set k v)) :: wt) → va_S A H0 H1 locs1 → W p l e R s m args below meth c H1 locs1 cells slots Q (F0 m (pc + 3) ls rest)) : W p l e R s m args below meth c H locs cells slots Q (F0 m pc ls (v :: .ref h0 :: rest)) :=
  va_putF (C := RX0) (T := TX0) (N := 8) S0.1 S0.2.1 S0.2.2.2.2 hin tyX0 tyX0_ok nmX0 S0.2.2.2.1 hK hP hD hS 0 rfl rfl k hk hlink (by rw [hT]; exact fun _ h => h) hfin hi hT (by rw [tyX0_ok k hk, hd]) hn hfit hl hdg kk
theorem x1_putF {ty : FieldType} (S0 : CallFix p m c cc nL s args Ts RX1) (hin : ∀ w ∈ wsX10, w ∈ Ts) (hK : va_K D vwCl tys s) (hP : va_P D vwCl ((h0, .inr (1, fs)) :: wt) H) (hD : va_D A ((h0, .inr (1, fs)) :: wt)) (hS : va_S A H0 H locs) (hi : meth.name = "<init>") (k : Nat) (hk : k < 7) (hlink : (Cond.fieldLink RX1 index RX1 (TX1 k).2.1 (TX1 k).2.2.1).before args s = true) (hT : (TX1 k).1 = RX1) (hfin : (TX1 k).2.2.2 = true) (hd : tyX1 k = ty) (hn : narrow ty v = v) (hfit : fits ty v = true) (hl : k < fs.length) (hdg : decode cc pc = .ok (.putfield index, 3))
    (kk : ∀ (H1 : Heap) (locs1 : List Loc), va_P D vwCl ((h0, .inr (1, fs.set k v)) :: wt) H1 → va_D A ((h0, .inr (1, fs.set k v)) :: wt) → va_S A H0 H1 locs1 → W p l e R s m args below meth c H1 locs1 cells slots Q (F0 m (pc + 3) ls rest)) : W p l e R s m args below meth c H locs cells slots Q (F0 m pc ls (v :: .ref h0 :: rest)) :=
  va_putF (C := RX1) (T := TX1) (N := 7) S0.1 S0.2.1 S0.2.2.2.2 hin tyX1 tyX1_ok nmX1 S0.2.2.2.1 hK hP hD hS 0 rfl rfl k hk hlink (by rw [hT]; exact fun _ h => h) hfin hi hT (by rw [tyX1_ok k hk, hd]) hn hfit hl hdg kk
end
end
section
set_option maxHeartbeats 4000000 in
set_option maxRecDepth 100000 in
theorem k_X0_init (l : Launch) (D : va_G) (h0 : Nat) (x : Int32) (sz : Nat) : Met l yX0_init wsX0_init { frames := 1, cells := 5, slots := 122, locals := 20 } (va_Pc [.ref h0, .int x] (xPre D [] [(h0, .inr (0, [.int 0, .null, .null, .null, .null, .null, .int 0, .int 0]))] sz)) (va_Qv (fun u => u.1 0 = h0) (xBI D (va_A [(h0, .inr (0, [.int 0, .null, .null, .null, .null, .null, .int 0, .int 0]))] sz) (clampR x)) (va_A [(h0, .inr (0, [.int 0, .null, .null, .null, .null, .null, .int 0, .int 0]))] sz)) 5 122 (va_A [(h0, .inr (0, [.int 0, .null, .null, .null, .null, .null, .int 0, .int 0]))] sz) := by
  refine Met.ofW (cc := cX0_init) (maxL := 3) (ret := none) (by decide) rfl ?_
  intro p e s m args below meth cd s₁ B hml hv
  obtain ⟨rfl, hsz, hP, hK, hD0⟩ := hv
  have hx := B.exec
  have hb := B.bytes
  have hr := B.returns
  have hts := atoms_spec (ws := wsX0_init) B.pre
  have hown : s.vm.findClass RX0 = some m.cls := findClass_of_methodNamed B.named
  have hlocks := B.notSynchronized
  have hini : meth.name = "<init>" := (name_of_methodNamed B.named B.method).1
  subst hsz
  have hD := hD0.self (sz := s.heap.size)
  generalize hAe : va_A [(h0, .inr (0, [.int 0, .null, .null, .null, .null, .null, .int 0, .int 0]))] s.heap.size = A at hD ⊢
  have hA : ∀ q : Nat, s.heap.size ≤ q → A q := fun q h => by rw [← hAe]; exact Or.inr h
  have hS : va_S A s.heap s.heap [] := va_S.rf
  have hl := lv_entry ([.ref h0, .int x]) (n := 3) (Nat.le_of_ble_eq_true rfl)
  rw [lg_entry_eq]
  generalize (lg_sl ([.ref h0, .int x]) ++ List.replicate (3 - (lg_sl ([.ref h0, .int x])).length) Slot.unset).toArray = ls at hl ⊢
  have hl : lv_has ls 3 [(0, .ref h0), (1, .int x)] := hl
  have S0 : CallFix p m cd cX0_init 3 s _ wsX0_init RX0 := ⟨hx, hb, hml, hown, hts⟩
  have hin : ∀ w ∈ wsX00, w ∈ wsX0_init := fun _ h => List.mem_cons_of_mem _ (List.mem_append_right _ h)
  refine lv_aload_n hx hb dX0_init_0 rfl (lv_at hl 0 rfl) ?_
  refine W.objInit hx hb hown (hts (.methodLink RX0 1 objectInit) (by decide +kernel)) (hts (.instanceMethod objectInit) (by decide +kernel)) (hts _ (List.mem_cons_of_mem _ (List.mem_append_left _ (List.mem_of_getElem? (i := 2) rfl)))) rfl (by rw [hml]; exact hl.1) rfl dX0_init_1 (Nat.le_of_ble_eq_true rfl) (Nat.le_of_ble_eq_true rfl) ?_
  refine W.eq (g2 := F0 m 4 ls []) rfl ?_
  refine lv_aload_n hx hb dX0_init_4 rfl (lv_at hl 0 rfl) ?_
  refine lv_iconst (v := 1) hx hb dX0_init_5 (by decide) ?_
  refine lv_bipush (v := 10) hx hb dX0_init_6 (by decide) ?_
  refine lv_iload_n hx hb dX0_init_8 rfl (lv_at hl 1 rfl) ?_
  refine va_mmin hx hb (hml.trans hl.1.symm) hown (hts (.methodLink RX0 9 Lib.Math.min.name) (by decide +kernel)) (hts (.static Lib.Math.min.name) (by decide +kernel)) (hts (.initialized "java/lang/Math") (by decide +kernel)) (hts (.code Lib.Math.min.name Lib.Math.min.code 2 (some .int)) (List.mem_cons_of_mem _ (List.mem_append_left _ (List.mem_of_getElem? (i := 6) rfl)))) (Nat.le_of_ble_eq_true rfl) (Nat.le_of_ble_eq_true rfl) (Nat.zero_le _) (Nat.zero_le _) dX0_init_9 ?_
  refine va_mmax hx hb (hml.trans hl.1.symm) hown (hts (.methodLink RX0 15 Lib.Math.max.name) (by decide +kernel)) (hts (.static Lib.Math.max.name) (by decide +kernel)) (hts (.initialized "java/lang/Math") (by decide +kernel)) (hts (.code Lib.Math.max.name Lib.Math.max.code 2 (some .int)) (List.mem_cons_of_mem _ (List.mem_append_left _ (List.mem_of_getElem? (i := 9) rfl)))) (Nat.le_of_ble_eq_true rfl) (Nat.le_of_ble_eq_true rfl) (Nat.zero_le _) (Nat.zero_le _) dX0_init_12 ?_
  refine xt_eq (cl_mm x) ?_
  obtain ⟨H, hH⟩ : ∃ H, H = s.heap := ⟨_, rfl⟩
  rw [← hH] at hP ⊢
  have hS : va_S A s.heap H [] := by rw [hH]; exact hS
  refine x0_putF (v := .int (nI (clampR x))) S0 hin hK hP hD hS hini 0 (by decide) (hts (.fieldLink RX0 18 "WireWays" "routers" "I") (by decide +kernel)) rfl rfl rfl rfl rfl (Nat.le_of_ble_eq_true rfl) dX0_init_15 (fun H locs hP hD hS => ?_)
  have hP : va_P D vwCl ([(h0, .inr (0, [.int (nI (clampR x)), .null, .null, .null, .null, .null, .int 0, .int 0]))]) H := hP
  have hD : va_D A ([(h0, .inr (0, [.int (nI (clampR x)), .null, .null, .null, .null, .null, .int 0, .int 0]))]) := hD
  refine lv_aload_n hx hb dX0_init_18 rfl (lv_at hl 0 rfl) ?_
  refine lv_bipush (v := 40) hx hb dX0_init_19 (by decide) ?_
  refine va_newa (atype := .int) (N' := 40) (a0 := (40, .inl z0)) (ty := .int) (n := 40) hx hb (hts (.arrayClass .int) (by decide +kernel)) rfl hK hP hD hS hA (fun cA => rfl) (by decide) (by decide) (Nat.le_of_ble_eq_true rfl) (Nat.le_of_ble_eq_true rfl) (Nat.le_of_ble_eq_true rfl) dX0_init_21 (fun q1 t1 H hK hP hD hS => ?_)
  have hP : va_P D vwCl ([(h0, .inr (0, [.int (nI (clampR x)), .null, .null, .null, .null, .null, .int 0, .int 0])), (q1, .inl (t1, 40, .inl z0))]) H := hP
  have hD : va_D A ([(h0, .inr (0, [.int (nI (clampR x)), .null, .null, .null, .null, .null, .int 0, .int 0])), (q1, .inl (t1, 40, .inl z0))]) := hD
  have hK : va_K D vwCl [(t1, .int)] s := hK
  refine W.widen (k := 1) (n := 40) (by decide) (by decide) ?_
  refine x0_putF (v := .ref q1) S0 hin hK hP hD hS hini 1 (by decide) (hts (.fieldLink RX0 22 "WireWays" "wireAt" "[I") (by decide +kernel)) rfl rfl rfl rfl rfl (Nat.le_of_ble_eq_true rfl) dX0_init_23 (fun H locs hP hD hS => ?_)
  have hP : va_P D vwCl ([(h0, .inr (0, [.int (nI (clampR x)), .ref q1, .null, .null, .null, .null, .int 0, .int 0])), (q1, .inl (t1, 40, .inl z0))]) H := hP
  have hD : va_D A ([(h0, .inr (0, [.int (nI (clampR x)), .ref q1, .null, .null, .null, .null, .int 0, .int 0])), (q1, .inl (t1, 40, .inl z0))]) := hD
  refine lv_aload_n hx hb dX0_init_26 rfl (lv_at hl 0 rfl) ?_
  refine lv_bipush (v := 40) hx hb dX0_init_27 (by decide) ?_
  refine va_newa (atype := .int) (N' := 40) (a0 := (40, .inl z0)) (ty := .int) (n := 40) hx hb (hts (.arrayClass .int) (by decide +kernel)) rfl hK hP hD hS hA (fun cA => rfl) (by decide) (by decide) (Nat.le_of_ble_eq_true rfl) (Nat.le_of_ble_eq_true rfl) (Nat.le_of_ble_eq_true rfl) dX0_init_29 (fun q2 t2 H hK hP hD hS => ?_)
  have hP : va_P D vwCl ([(h0, .inr (0, [.int (nI (clampR x)), .ref q1, .null, .null, .null, .null, .int 0, .int 0])), (q1, .inl (t1, 40, .inl z0)), (q2, .inl (t2, 40, .inl z0))]) H := hP
  have hD : va_D A ([(h0, .inr (0, [.int (nI (clampR x)), .ref q1, .null, .null, .null, .null, .int 0, .int 0])), (q1, .inl (t1, 40, .inl z0)), (q2, .inl (t2, 40, .inl z0))]) := hD
  have hK : va_K D vwCl [(t1, .int), (t2, .int)] s := hK
  refine W.widen (k := 2) (n := 80) (by decide) (by decide) ?_
  refine x0_putF (v := .ref q2) S0 hin hK hP hD hS hini 2 (by decide) (hts (.fieldLink RX0 26 "WireWays" "costAt" "[I") (by decide +kernel)) rfl rfl rfl rfl rfl (Nat.le_of_ble_eq_true rfl) dX0_init_31 (fun H locs hP hD hS => ?_)
  have hP : va_P D vwCl ([(h0, .inr (0, [.int (nI (clampR x)), .ref q1, .ref q2, .null, .null, .null, .int 0, .int 0])), (q1, .inl (t1, 40, .inl z0)), (q2, .inl (t2, 40, .inl z0))]) H := hP
  have hD : va_D A ([(h0, .inr (0, [.int (nI (clampR x)), .ref q1, .ref q2, .null, .null, .null, .int 0, .int 0])), (q1, .inl (t1, 40, .inl z0)), (q2, .inl (t2, 40, .inl z0))]) := hD
  refine lv_aload_n hx hb dX0_init_34 rfl (lv_at hl 0 rfl) ?_
  refine lv_bipush (v := 16) hx hb dX0_init_35 (by decide) ?_
  refine va_newa (atype := .boolean) (N' := 16) (a0 := (16, .inl z0)) (ty := .boolean) (n := 16) hx hb (hts (.arrayClass .boolean) (by decide +kernel)) rfl hK hP hD hS hA (fun cA => rfl) (by decide) (by decide) (Nat.le_of_ble_eq_true rfl) (Nat.le_of_ble_eq_true rfl) (Nat.le_of_ble_eq_true rfl) dX0_init_37 (fun q3 t3 H hK hP hD hS => ?_)
  have hP : va_P D vwCl ([(h0, .inr (0, [.int (nI (clampR x)), .ref q1, .ref q2, .null, .null, .null, .int 0, .int 0])), (q1, .inl (t1, 40, .inl z0)), (q2, .inl (t2, 40, .inl z0)), (q3, .inl (t3, 16, .inl z0))]) H := hP
  have hD : va_D A ([(h0, .inr (0, [.int (nI (clampR x)), .ref q1, .ref q2, .null, .null, .null, .int 0, .int 0])), (q1, .inl (t1, 40, .inl z0)), (q2, .inl (t2, 40, .inl z0)), (q3, .inl (t3, 16, .inl z0))]) := hD
  have hK : va_K D vwCl [(t1, .int), (t2, .int), (t3, .boolean)] s := hK
  refine W.widen (k := 3) (n := 96) (by decide) (by decide) ?_
  refine x0_putF (v := .ref q3) S0 hin hK hP hD hS hini 3 (by decide) (hts (.fieldLink RX0 29 "WireWays" "isCut" "[Z") (by decide +kernel)) rfl rfl rfl rfl rfl (Nat.le_of_ble_eq_true rfl) dX0_init_39 (fun H locs hP hD hS => ?_)
  have hP : va_P D vwCl ([(h0, .inr (0, [.int (nI (clampR x)), .ref q1, .ref q2, .ref q3, .null, .null, .int 0, .int 0])), (q1, .inl (t1, 40, .inl z0)), (q2, .inl (t2, 40, .inl z0)), (q3, .inl (t3, 16, .inl z0))]) H := hP
  have hD : va_D A ([(h0, .inr (0, [.int (nI (clampR x)), .ref q1, .ref q2, .ref q3, .null, .null, .int 0, .int 0])), (q1, .inl (t1, 40, .inl z0)), (q2, .inl (t2, 40, .inl z0)), (q3, .inl (t3, 16, .inl z0))]) := hD
  refine lv_aload_n hx hb dX0_init_42 rfl (lv_at hl 0 rfl) ?_
  refine lv_bipush (v := 10) hx hb dX0_init_43 (by decide) ?_
  refine va_newa (atype := .int) (N' := 10) (a0 := (10, .inl z0)) (ty := .int) (n := 10) hx hb (hts (.arrayClass .int) (by decide +kernel)) rfl hK hP hD hS hA (fun cA => rfl) (by decide) (by decide) (Nat.le_of_ble_eq_true rfl) (Nat.le_of_ble_eq_true rfl) (Nat.le_of_ble_eq_true rfl) dX0_init_45 (fun q4 t4 H hK hP hD hS => ?_)
  have hP : va_P D vwCl ([(h0, .inr (0, [.int (nI (clampR x)), .ref q1, .ref q2, .ref q3, .null, .null, .int 0, .int 0])), (q1, .inl (t1, 40, .inl z0)), (q2, .inl (t2, 40, .inl z0)), (q3, .inl (t3, 16, .inl z0)), (q4, .inl (t4, 10, .inl z0))]) H := hP
  have hD : va_D A ([(h0, .inr (0, [.int (nI (clampR x)), .ref q1, .ref q2, .ref q3, .null, .null, .int 0, .int 0])), (q1, .inl (t1, 40, .inl z0)), (q2, .inl (t2, 40, .inl z0)), (q3, .inl (t3, 16, .inl z0)), (q4, .inl (t4, 10, .inl z0))]) := hD
  have hK : va_K D vwCl [(t1, .int), (t2, .int), (t3, .boolean), (t4, .int)] s := hK
  refine W.widen (k := 4) (n := 106) (by decide) (by decide) ?_
  refine x0_putF (v := .ref q4) S0 hin hK hP hD hS hini 4 (by decide) (hts (.fieldLink RX0 33 "WireWays" "distance" "[I") (by decide +kernel)) rfl rfl rfl rfl rfl (Nat.le_of_ble_eq_true rfl) dX0_init_47 (fun H locs hP hD hS => ?_)
  have hP : va_P D vwCl ([(h0, .inr (0, [.int (nI (clampR x)), .ref q1, .ref q2, .ref q3, .ref q4, .null, .int 0, .int 0])), (q1, .inl (t1, 40, .inl z0)), (q2, .inl (t2, 40, .inl z0)), (q3, .inl (t3, 16, .inl z0)), (q4, .inl (t4, 10, .inl z0))]) H := hP
  have hD : va_D A ([(h0, .inr (0, [.int (nI (clampR x)), .ref q1, .ref q2, .ref q3, .ref q4, .null, .int 0, .int 0])), (q1, .inl (t1, 40, .inl z0)), (q2, .inl (t2, 40, .inl z0)), (q3, .inl (t3, 16, .inl z0)), (q4, .inl (t4, 10, .inl z0))]) := hD
  refine lv_aload_n hx hb dX0_init_50 rfl (lv_at hl 0 rfl) ?_
  refine lv_bipush (v := 16) hx hb dX0_init_51 (by decide) ?_
  refine va_newa (atype := .int) (N' := 16) (a0 := (16, .inl z0)) (ty := .int) (n := 16) hx hb (hts (.arrayClass .int) (by decide +kernel)) rfl hK hP hD hS hA (fun cA => rfl) (by decide) (by decide) (Nat.le_of_ble_eq_true rfl) (Nat.le_of_ble_eq_true rfl) (Nat.le_of_ble_eq_true rfl) dX0_init_53 (fun q5 t5 H hK hP hD hS => ?_)
  have hP : va_P D vwCl ([(h0, .inr (0, [.int (nI (clampR x)), .ref q1, .ref q2, .ref q3, .ref q4, .null, .int 0, .int 0])), (q1, .inl (t1, 40, .inl z0)), (q2, .inl (t2, 40, .inl z0)), (q3, .inl (t3, 16, .inl z0)), (q4, .inl (t4, 10, .inl z0)), (q5, .inl (t5, 16, .inl z0))]) H := hP
  have hD : va_D A ([(h0, .inr (0, [.int (nI (clampR x)), .ref q1, .ref q2, .ref q3, .ref q4, .null, .int 0, .int 0])), (q1, .inl (t1, 40, .inl z0)), (q2, .inl (t2, 40, .inl z0)), (q3, .inl (t3, 16, .inl z0)), (q4, .inl (t4, 10, .inl z0)), (q5, .inl (t5, 16, .inl z0))]) := hD
  have hK : va_K D vwCl [(t1, .int), (t2, .int), (t3, .boolean), (t4, .int), (t5, .int)] s := hK
  refine W.widen (k := 5) (n := 122) (by decide) (by decide) ?_
  refine x0_putF (v := .ref q5) S0 hin hK hP hD hS hini 5 (by decide) (hts (.fieldLink RX0 36 "WireWays" "nearest" "[I") (by decide +kernel)) rfl rfl rfl rfl rfl (Nat.le_of_ble_eq_true rfl) dX0_init_55 (fun H locs hP hD hS => ?_)
  have hP : va_P D vwCl ([(h0, .inr (0, [.int (nI (clampR x)), .ref q1, .ref q2, .ref q3, .ref q4, .ref q5, .int 0, .int 0])), (q1, .inl (t1, 40, .inl z0)), (q2, .inl (t2, 40, .inl z0)), (q3, .inl (t3, 16, .inl z0)), (q4, .inl (t4, 10, .inl z0)), (q5, .inl (t5, 16, .inl z0))]) H := hP
  have hD : va_D A ([(h0, .inr (0, [.int (nI (clampR x)), .ref q1, .ref q2, .ref q3, .ref q4, .ref q5, .int 0, .int 0])), (q1, .inl (t1, 40, .inl z0)), (q2, .inl (t2, 40, .inl z0)), (q3, .inl (t3, 16, .inl z0)), (q4, .inl (t4, 10, .inl z0)), (q5, .inl (t5, 16, .inl z0))]) := hD
  refine lv_aload_n hx hb dX0_init_58 rfl (lv_at hl 0 rfl) ?_
  refine lv_iconst (v := -1) hx hb dX0_init_59 (by decide) ?_
  refine x0_put (v := .int (-1)) S0 hin hK hP hD hS 6 (by decide) (hts (.fieldLink RX0 39 "WireWays" "wayPort" "I") (by decide +kernel)) rfl rfl rfl rfl rfl (Nat.le_of_ble_eq_true rfl) dX0_init_60 (fun H locs hP hD hS => ?_)
  have hP : va_P D vwCl ([(h0, .inr (0, [.int (nI (clampR x)), .ref q1, .ref q2, .ref q3, .ref q4, .ref q5, .int (-1), .int 0])), (q1, .inl (t1, 40, .inl z0)), (q2, .inl (t2, 40, .inl z0)), (q3, .inl (t3, 16, .inl z0)), (q4, .inl (t4, 10, .inl z0)), (q5, .inl (t5, 16, .inl z0))]) H := hP
  have hD : va_D A ([(h0, .inr (0, [.int (nI (clampR x)), .ref q1, .ref q2, .ref q3, .ref q4, .ref q5, .int (-1), .int 0])), (q1, .inl (t1, 40, .inl z0)), (q2, .inl (t2, 40, .inl z0)), (q3, .inl (t3, 16, .inl z0)), (q4, .inl (t4, 10, .inl z0)), (q5, .inl (t5, 16, .inl z0))]) := hD
  refine lv_aload_n hx hb dX0_init_63 rfl (lv_at hl 0 rfl) ?_
  refine lv_iconst (v := -1) hx hb dX0_init_64 (by decide) ?_
  refine x0_put (v := .int (-1)) S0 hin hK hP hD hS 7 (by decide) (hts (.fieldLink RX0 42 "WireWays" "wayRouter" "I") (by decide +kernel)) rfl rfl rfl rfl rfl (Nat.le_of_ble_eq_true rfl) dX0_init_65 (fun H locs hP hD hS => ?_)
  have hP : va_P D vwCl ([(h0, .inr (0, [.int (nI (clampR x)), .ref q1, .ref q2, .ref q3, .ref q4, .ref q5, .int (-1), .int (-1)])), (q1, .inl (t1, 40, .inl z0)), (q2, .inl (t2, 40, .inl z0)), (q3, .inl (t3, 16, .inl z0)), (q4, .inl (t4, 10, .inl z0)), (q5, .inl (t5, 16, .inl z0))]) H := hP
  have hD : va_D A ([(h0, .inr (0, [.int (nI (clampR x)), .ref q1, .ref q2, .ref q3, .ref q4, .ref q5, .int (-1), .int (-1)])), (q1, .inl (t1, 40, .inl z0)), (q2, .inl (t2, 40, .inl z0)), (q3, .inl (t3, 16, .inl z0)), (q4, .inl (t4, 10, .inl z0)), (q5, .inl (t5, 16, .inl z0))]) := hD
  have f_wireAt := hts (.fieldLink RX0 22 "WireWays" "wireAt" "[I") (by decide +kernel)
  obtain ⟨R, hRe⟩ : ∃ R : Nat, R = clampR x := ⟨_, rfl⟩
  rw [← hRe] at hP hD ⊢
  obtain ⟨ad, rfl, rfl, rfl, rfl, rfl, rfl⟩ : ∃ ad : Nat → Nat, ad 0 = h0 ∧ ad 1 = q1 ∧ ad 2 = q2 ∧ ad 3 = q3 ∧ ad 4 = q4 ∧ ad 5 = q5 := ⟨fun k => match k with | 0 => h0 | 1 => q1 | 2 => q2 | 3 => q3 | 4 => q4 | _ => q5, rfl, rfl, rfl, rfl, rfl, rfl⟩
  obtain ⟨tt, rfl, rfl, rfl, rfl, rfl⟩ : ∃ tt : Nat → ClassId, tt 1 = t1 ∧ tt 2 = t2 ∧ tt 3 = t3 ∧ tt 4 = t4 ∧ tt 5 = t5 := ⟨fun k => match k with | 1 => t1 | 2 => t2 | 3 => t3 | 4 => t4 | _ => t5, rfl, rfl, rfl, rfl, rfl⟩
  have hP : va_P D vwCl (xw ad tt R z0 z0 z0 z0 z0 (-1) (-1)) H := hP
  have hD : va_D A (xw ad tt R z0 z0 z0 z0 z0 (-1) (-1)) := hD
  have hK : va_K D vwCl (tyX tt) s := hK
  refine lv_iconst (v := 0) hx hb dX0_init_68 (by decide) ?_
  refine lv_istore_n (lv' := [(2, .int 0), (0, .ref (ad 0)), (1, .int x)]) hx hb dX0_init_69 rfl hl (by decide) rfl (fun ls hl => ?_)
  have lp70 : ∀ (fuel : Nat) (a : Nat) (w1 : Nat → Int32), (a ≤ 40) → (∀ j, j < a → w1 j = -1) → 40 - a < fuel → ∀ (H : Heap) (locs : List Loc) (ls : Array Slot), va_P D vwCl (xw ad tt R w1 z0 z0 z0 z0 (-1) (-1)) H → va_D A (xw ad tt R w1 z0 z0 z0 z0 (-1) (-1)) → va_S A s.heap H locs → lv_has ls 3 [(2, .int (nI a)), (0, .ref (ad 0)), (1, .int x)] → W p l e (headSpec wsX0_init ({ frames := 1, cells := 5, slots := 122, locals := 20 } : Room)).room s m ([.ref (ad 0), .int x] : List Value).toArray below meth cd H locs 5 122 (MQ below (va_Qv (fun u => u.1 0 = ad 0) (xBI D A R) A) ([.ref (ad 0), .int x] : List Value).toArray s 5 122 A) (F0 m 70 ls []) := by
    intro fuel
    induction fuel with
    | zero => intro a w1 ha0 hw1 hm; exact absurd hm (Nat.not_lt_zero _)
    | succ fuel ih70 =>
      intro a w1 ha0 hw1 hm H locs ls hP hD hS hl
      refine lv_iload_n hx hb dX0_init_70 rfl (lv_at hl 0 rfl) ?_
      refine lv_aload_n hx hb dX0_init_71 rfl (lv_at hl 1 rfl) ?_
      refine x0_get (v := .ref (ad 1)) S0 hin hK hP 1 (by decide) f_wireAt rfl rfl dX0_init_72 ?_
      refine va_alen (v := 40) hx hb hK hP 1 0 rfl rfl rfl dX0_init_75 ?_
      refine lv_icmp_ge (tgt := 92) hx hb dX0_init_76 (by decide) (fun c_1 => ?_) (fun c_1 => ?_)
      · have ha4 : 40 ≤ a := (nI_leI (a := 40) (by omega) (by omega)).mp c_1
        have hP := xw_w (w' := w0) hP (fun j h => hw1 j (by omega))
        have hD := xw_Dw (w' := w0) hD
        exact W.vret hx hb hr (fun t ht hW => ⟨⟨(ad, tt), rfl, rfl, by rw [ht]; exact hP, va_K.moved hW.alike hK, hD⟩, hS.F ht⟩) hS.2.2 dX0_init_92 hlocks
      · have ha4 : a < 40 := Nat.lt_of_not_le (fun h => c_1 (nI_le (a := 40) h (by omega)))
        refine lv_aload_n hx hb dX0_init_79 rfl (lv_at hl 1 rfl) ?_
        refine x0_get (v := .ref (ad 1)) S0 hin hK hP 1 (by decide) f_wireAt rfl rfl dX0_init_80 ?_
        refine lv_iload_n hx hb dX0_init_83 rfl (lv_at hl 0 rfl) ?_
        refine lv_iconst (v := (-1)) hx hb dX0_init_84 (by decide) ?_
        refine va_iast hx hb hK hP hD hS 1 0 rfl rfl (vp_in_nI (by omega) (by omega)) dX0_init_85 (fun H locs hP hD hS => ?_)
        rw [(nI_clamp (by omega))] at hP hD
        have hP : va_P D vwCl (xw ad tt R (upd w1 a (-1)) z0 z0 z0 z0 (-1) (-1)) H := hP
        have hD : va_D A (xw ad tt R (upd w1 a (-1)) z0 z0 z0 z0 (-1) (-1)) := hD
        refine lv_iinc (v := nI (a + 1)) (lv' := [(2, .int (nI (a + 1))), (0, .ref (ad 0)), (1, .int x)]) hx hb dX0_init_86 hl (k := 0) rfl (nI_1 a) (by decide) rfl (fun ls hl => ?_)
        refine lv_goto (tgt := 70) hx hb dX0_init_89 (by decide) ?_
        exact ih70 (a + 1) (upd w1 a (-1)) (by omega) (up_all hw1) (by omega) H locs ls hP hD hS (lv_sub hl [0, 1, 2] rfl)
  exact lp70 _ 0 z0 (by omega) (fun j h => absurd h (Nat.not_lt_zero j)) (Nat.lt_succ_self _) H locs ls hP hD hS (lv_sub hl [0, 1, 2] rfl)
set_option maxHeartbeats 4000000 in
set_option maxRecDepth 100000 in
theorem k_X1_init (l : Launch) (D : va_G) (h0 : Nat) (x : Int32) (sz : Nat) : Met l yX1_init wsX1_init { frames := 1, cells := 4, slots := 106, locals := 20 } (va_Pc [.ref h0, .int x] (xPre D [] [(h0, .inr (1, [.int 0, .null, .null, .null, .null, .int 0, .int 0]))] sz)) (va_Qv (fun u => u.1 0 = h0) (mBI D (va_A [(h0, .inr (1, [.int 0, .null, .null, .null, .null, .int 0, .int 0]))] sz) (clampR x)) (va_A [(h0, .inr (1, [.int 0, .null, .null, .null, .null, .int 0, .int 0]))] sz)) 4 106 (va_A [(h0, .inr (1, [.int 0, .null, .null, .null, .null, .int 0, .int 0]))] sz) := by
  refine Met.ofW (cc := cX1_init) (maxL := 3) (ret := none) (by decide) rfl ?_
  intro p e s m args below meth cd s₁ B hml hv
  obtain ⟨rfl, hsz, hP, hK, hD0⟩ := hv
  have hx := B.exec
  have hb := B.bytes
  have hr := B.returns
  have hts := atoms_spec (ws := wsX1_init) B.pre
  have hown : s.vm.findClass RX1 = some m.cls := findClass_of_methodNamed B.named
  have hlocks := B.notSynchronized
  have hini : meth.name = "<init>" := (name_of_methodNamed B.named B.method).1
  subst hsz
  have hD := hD0.self (sz := s.heap.size)
  generalize hAe : va_A [(h0, .inr (1, [.int 0, .null, .null, .null, .null, .int 0, .int 0]))] s.heap.size = A at hD ⊢
  have hA : ∀ q : Nat, s.heap.size ≤ q → A q := fun q h => by rw [← hAe]; exact Or.inr h
  have hS : va_S A s.heap s.heap [] := va_S.rf
  have hl := lv_entry ([.ref h0, .int x]) (n := 3) (Nat.le_of_ble_eq_true rfl)
  rw [lg_entry_eq]
  generalize (lg_sl ([.ref h0, .int x]) ++ List.replicate (3 - (lg_sl ([.ref h0, .int x])).length) Slot.unset).toArray = ls at hl ⊢
  have hl : lv_has ls 3 [(0, .ref h0), (1, .int x)] := hl
  have S0 : CallFix p m cd cX1_init 3 s _ wsX1_init RX1 := ⟨hx, hb, hml, hown, hts⟩
  have hin : ∀ w ∈ wsX10, w ∈ wsX1_init := fun _ h => List.mem_cons_of_mem _ (List.mem_append_right _ h)
  refine lv_aload_n hx hb dX1_init_0 rfl (lv_at hl 0 rfl) ?_
  refine W.objInit hx hb hown (hts (.methodLink RX1 1 objectInit) (by decide +kernel)) (hts (.instanceMethod objectInit) (by decide +kernel)) (hts _ (List.mem_cons_of_mem _ (List.mem_append_left _ (List.mem_of_getElem? (i := 2) rfl)))) rfl (by rw [hml]; exact hl.1) rfl dX1_init_1 (Nat.le_of_ble_eq_true rfl) (Nat.le_of_ble_eq_true rfl) ?_
  refine W.eq (g2 := F0 m 4 ls []) rfl ?_
  obtain ⟨H, hH⟩ : ∃ H, H = s.heap := ⟨_, rfl⟩
  rw [← hH] at hP ⊢
  have hS : va_S A s.heap H [] := by rw [hH]; exact hS
  refine lv_aload_n hx hb dX1_init_4 rfl (lv_at hl 0 rfl) ?_
  refine lv_bipush (v := 40) hx hb dX1_init_5 (by decide) ?_
  refine va_newa (atype := .int) (N' := 40) (a0 := (40, .inl z0)) (ty := .int) (n := 40) hx hb (hts (.arrayClass .int) (by decide +kernel)) rfl hK hP hD hS hA (fun cA => rfl) (by decide) (by decide) (Nat.le_of_ble_eq_true rfl) (Nat.le_of_ble_eq_true rfl) (Nat.le_of_ble_eq_true rfl) dX1_init_7 (fun q1 t1 H hK hP hD hS => ?_)
  have hP : va_P D vwCl ([(h0, .inr (1, [.int 0, .null, .null, .null, .null, .int 0, .int 0])), (q1, .inl (t1, 40, .inl z0))]) H := hP
  have hD : va_D A ([(h0, .inr (1, [.int 0, .null, .null, .null, .null, .int 0, .int 0])), (q1, .inl (t1, 40, .inl z0))]) := hD
  have hK : va_K D vwCl [(t1, .int)] s := hK
  refine W.widen (k := 1) (n := 40) (by decide) (by decide) ?_
  refine x1_putF (v := .ref q1) S0 hin hK hP hD hS hini 1 (by decide) (hts (.fieldLink RX1 7 "WireWaysModel" "wireOf" "[I") (by decide +kernel)) rfl rfl rfl rfl rfl (Nat.le_of_ble_eq_true rfl) dX1_init_9 (fun H locs hP hD hS => ?_)
  have hP : va_P D vwCl ([(h0, .inr (1, [.int 0, .ref q1, .null, .null, .null, .int 0, .int 0])), (q1, .inl (t1, 40, .inl z0))]) H := hP
  have hD : va_D A ([(h0, .inr (1, [.int 0, .ref q1, .null, .null, .null, .int 0, .int 0])), (q1, .inl (t1, 40, .inl z0))]) := hD
  refine lv_aload_n hx hb dX1_init_12 rfl (lv_at hl 0 rfl) ?_
  refine lv_bipush (v := 40) hx hb dX1_init_13 (by decide) ?_
  refine va_newa (atype := .int) (N' := 40) (a0 := (40, .inl z0)) (ty := .int) (n := 40) hx hb (hts (.arrayClass .int) (by decide +kernel)) rfl hK hP hD hS hA (fun cA => rfl) (by decide) (by decide) (Nat.le_of_ble_eq_true rfl) (Nat.le_of_ble_eq_true rfl) (Nat.le_of_ble_eq_true rfl) dX1_init_15 (fun q2 t2 H hK hP hD hS => ?_)
  have hP : va_P D vwCl ([(h0, .inr (1, [.int 0, .ref q1, .null, .null, .null, .int 0, .int 0])), (q1, .inl (t1, 40, .inl z0)), (q2, .inl (t2, 40, .inl z0))]) H := hP
  have hD : va_D A ([(h0, .inr (1, [.int 0, .ref q1, .null, .null, .null, .int 0, .int 0])), (q1, .inl (t1, 40, .inl z0)), (q2, .inl (t2, 40, .inl z0))]) := hD
  have hK : va_K D vwCl [(t1, .int), (t2, .int)] s := hK
  refine W.widen (k := 2) (n := 80) (by decide) (by decide) ?_
  refine x1_putF (v := .ref q2) S0 hin hK hP hD hS hini 2 (by decide) (hts (.fieldLink RX1 13 "WireWaysModel" "costOf" "[I") (by decide +kernel)) rfl rfl rfl rfl rfl (Nat.le_of_ble_eq_true rfl) dX1_init_17 (fun H locs hP hD hS => ?_)
  have hP : va_P D vwCl ([(h0, .inr (1, [.int 0, .ref q1, .ref q2, .null, .null, .int 0, .int 0])), (q1, .inl (t1, 40, .inl z0)), (q2, .inl (t2, 40, .inl z0))]) H := hP
  have hD : va_D A ([(h0, .inr (1, [.int 0, .ref q1, .ref q2, .null, .null, .int 0, .int 0])), (q1, .inl (t1, 40, .inl z0)), (q2, .inl (t2, 40, .inl z0))]) := hD
  refine lv_aload_n hx hb dX1_init_20 rfl (lv_at hl 0 rfl) ?_
  refine lv_bipush (v := 16) hx hb dX1_init_21 (by decide) ?_
  refine va_newa (atype := .boolean) (N' := 16) (a0 := (16, .inl z0)) (ty := .boolean) (n := 16) hx hb (hts (.arrayClass .boolean) (by decide +kernel)) rfl hK hP hD hS hA (fun cA => rfl) (by decide) (by decide) (Nat.le_of_ble_eq_true rfl) (Nat.le_of_ble_eq_true rfl) (Nat.le_of_ble_eq_true rfl) dX1_init_23 (fun q3 t3 H hK hP hD hS => ?_)
  have hP : va_P D vwCl ([(h0, .inr (1, [.int 0, .ref q1, .ref q2, .null, .null, .int 0, .int 0])), (q1, .inl (t1, 40, .inl z0)), (q2, .inl (t2, 40, .inl z0)), (q3, .inl (t3, 16, .inl z0))]) H := hP
  have hD : va_D A ([(h0, .inr (1, [.int 0, .ref q1, .ref q2, .null, .null, .int 0, .int 0])), (q1, .inl (t1, 40, .inl z0)), (q2, .inl (t2, 40, .inl z0)), (q3, .inl (t3, 16, .inl z0))]) := hD
  have hK : va_K D vwCl [(t1, .int), (t2, .int), (t3, .boolean)] s := hK
  refine W.widen (k := 3) (n := 96) (by decide) (by decide) ?_
  refine x1_putF (v := .ref q3) S0 hin hK hP hD hS hini 3 (by decide) (hts (.fieldLink RX1 16 "WireWaysModel" "isCut" "[Z") (by decide +kernel)) rfl rfl rfl rfl rfl (Nat.le_of_ble_eq_true rfl) dX1_init_25 (fun H locs hP hD hS => ?_)
  have hP : va_P D vwCl ([(h0, .inr (1, [.int 0, .ref q1, .ref q2, .ref q3, .null, .int 0, .int 0])), (q1, .inl (t1, 40, .inl z0)), (q2, .inl (t2, 40, .inl z0)), (q3, .inl (t3, 16, .inl z0))]) H := hP
  have hD : va_D A ([(h0, .inr (1, [.int 0, .ref q1, .ref q2, .ref q3, .null, .int 0, .int 0])), (q1, .inl (t1, 40, .inl z0)), (q2, .inl (t2, 40, .inl z0)), (q3, .inl (t3, 16, .inl z0))]) := hD
  refine lv_aload_n hx hb dX1_init_28 rfl (lv_at hl 0 rfl) ?_
  refine lv_bipush (v := 10) hx hb dX1_init_29 (by decide) ?_
  refine va_newa (atype := .int) (N' := 10) (a0 := (10, .inl z0)) (ty := .int) (n := 10) hx hb (hts (.arrayClass .int) (by decide +kernel)) rfl hK hP hD hS hA (fun cA => rfl) (by decide) (by decide) (Nat.le_of_ble_eq_true rfl) (Nat.le_of_ble_eq_true rfl) (Nat.le_of_ble_eq_true rfl) dX1_init_31 (fun q4 t4 H hK hP hD hS => ?_)
  have hP : va_P D vwCl ([(h0, .inr (1, [.int 0, .ref q1, .ref q2, .ref q3, .null, .int 0, .int 0])), (q1, .inl (t1, 40, .inl z0)), (q2, .inl (t2, 40, .inl z0)), (q3, .inl (t3, 16, .inl z0)), (q4, .inl (t4, 10, .inl z0))]) H := hP
  have hD : va_D A ([(h0, .inr (1, [.int 0, .ref q1, .ref q2, .ref q3, .null, .int 0, .int 0])), (q1, .inl (t1, 40, .inl z0)), (q2, .inl (t2, 40, .inl z0)), (q3, .inl (t3, 16, .inl z0)), (q4, .inl (t4, 10, .inl z0))]) := hD
  have hK : va_K D vwCl [(t1, .int), (t2, .int), (t3, .boolean), (t4, .int)] s := hK
  refine W.widen (k := 4) (n := 106) (by decide) (by decide) ?_
  refine x1_putF (v := .ref q4) S0 hin hK hP hD hS hini 4 (by decide) (hts (.fieldLink RX1 20 "WireWaysModel" "distance" "[I") (by decide +kernel)) rfl rfl rfl rfl rfl (Nat.le_of_ble_eq_true rfl) dX1_init_33 (fun H locs hP hD hS => ?_)
  have hP : va_P D vwCl ([(h0, .inr (1, [.int 0, .ref q1, .ref q2, .ref q3, .ref q4, .int 0, .int 0])), (q1, .inl (t1, 40, .inl z0)), (q2, .inl (t2, 40, .inl z0)), (q3, .inl (t3, 16, .inl z0)), (q4, .inl (t4, 10, .inl z0))]) H := hP
  have hD : va_D A ([(h0, .inr (1, [.int 0, .ref q1, .ref q2, .ref q3, .ref q4, .int 0, .int 0])), (q1, .inl (t1, 40, .inl z0)), (q2, .inl (t2, 40, .inl z0)), (q3, .inl (t3, 16, .inl z0)), (q4, .inl (t4, 10, .inl z0))]) := hD
  refine lv_aload_n hx hb dX1_init_36 rfl (lv_at hl 0 rfl) ?_
  refine lv_iload_n hx hb dX1_init_37 rfl (lv_at hl 1 rfl) ?_
  refine lv_iconst (v := 1) hx hb dX1_init_38 (by decide) ?_
  have go : ∀ (v : Int32), v = nI (clampR x) → W p l e (headSpec wsX1_init ({ frames := 1, cells := 4, slots := 106, locals := 20 } : Room)).room s m ([.ref h0, .int x] : List Value).toArray below meth cd H locs 4 106 (MQ below (va_Qv (fun u => u.1 0 = h0) (mBI D A (clampR x)) A) ([.ref h0, .int x] : List Value).toArray s 4 106 A) (F0 m 58 ls [.int v, .ref h0]) := by
    intro v hv
    subst hv
    refine x1_putF (v := .int (nI (clampR x))) S0 hin hK hP hD hS hini 0 (by decide) (hts (.fieldLink RX1 23 "WireWaysModel" "routers" "I") (by decide +kernel)) rfl rfl rfl rfl rfl (Nat.le_of_ble_eq_true rfl) dX1_init_58 (fun H locs hP hD hS => ?_)
    have hP : va_P D vwCl ([(h0, .inr (1, [.int (nI (clampR x)), .ref q1, .ref q2, .ref q3, .ref q4, .int 0, .int 0])), (q1, .inl (t1, 40, .inl z0)), (q2, .inl (t2, 40, .inl z0)), (q3, .inl (t3, 16, .inl z0)), (q4, .inl (t4, 10, .inl z0))]) H := hP
    have hD : va_D A ([(h0, .inr (1, [.int (nI (clampR x)), .ref q1, .ref q2, .ref q3, .ref q4, .int 0, .int 0])), (q1, .inl (t1, 40, .inl z0)), (q2, .inl (t2, 40, .inl z0)), (q3, .inl (t3, 16, .inl z0)), (q4, .inl (t4, 10, .inl z0))]) := hD
    have f_wireOf := hts (.fieldLink RX1 7 "WireWaysModel" "wireOf" "[I") (by decide +kernel)
    obtain ⟨R, hRe⟩ : ∃ R : Nat, R = clampR x := ⟨_, rfl⟩
    rw [← hRe] at hP hD ⊢
    obtain ⟨ad, rfl, rfl, rfl, rfl, rfl⟩ : ∃ ad : Nat → Nat, ad 0 = h0 ∧ ad 1 = q1 ∧ ad 2 = q2 ∧ ad 3 = q3 ∧ ad 4 = q4 := ⟨fun k => match k with | 0 => h0 | 1 => q1 | 2 => q2 | 3 => q3 | _ => q4, rfl, rfl, rfl, rfl, rfl⟩
    obtain ⟨tt, rfl, rfl, rfl, rfl⟩ : ∃ tt : Nat → ClassId, tt 1 = t1 ∧ tt 2 = t2 ∧ tt 3 = t3 ∧ tt 4 = t4 := ⟨fun k => match k with | 1 => t1 | 2 => t2 | 3 => t3 | _ => t4, rfl, rfl, rfl, rfl⟩
    have hP : va_P D vwCl (mw ad tt R z0 z0 z0 z0 0 0) H := hP
    have hD : va_D A (mw ad tt R z0 z0 z0 z0 0 0) := hD
    have hK : va_K D vwCl (tyM tt) s := hK
    refine lv_iconst (v := 0) hx hb dX1_init_61 (by decide) ?_
    refine lv_istore_n (lv' := [(2, .int 0), (0, .ref (ad 0)), (1, .int x)]) hx hb dX1_init_62 rfl hl (by decide) rfl (fun ls hl => ?_)
    have lp63 : ∀ (fuel : Nat) (a : Nat) (w1 : Nat → Int32), (a ≤ 40) → (∀ j, j < a → w1 j = -1) → 40 - a < fuel → ∀ (H : Heap) (locs : List Loc) (ls : Array Slot), va_P D vwCl (mw ad tt R w1 z0 z0 z0 0 0) H → va_D A (mw ad tt R w1 z0 z0 z0 0 0) → va_S A s.heap H locs → lv_has ls 3 [(2, .int (nI a)), (0, .ref (ad 0)), (1, .int x)] → W p l e (headSpec wsX1_init ({ frames := 1, cells := 4, slots := 106, locals := 20 } : Room)).room s m ([.ref (ad 0), .int x] : List Value).toArray below meth cd H locs 4 106 (MQ below (va_Qv (fun u => u.1 0 = ad 0) (mBI D A R) A) ([.ref (ad 0), .int x] : List Value).toArray s 4 106 A) (F0 m 63 ls []) := by
      intro fuel
      induction fuel with
      | zero => intro a w1 ha0 hw1 hm; exact absurd hm (Nat.not_lt_zero _)
      | succ fuel ih63 =>
        intro a w1 ha0 hw1 hm H locs ls hP hD hS hl
        refine lv_iload_n hx hb dX1_init_63 rfl (lv_at hl 0 rfl) ?_
        refine lv_bipush (v := 40) hx hb dX1_init_64 (by decide) ?_
        refine lv_icmp_ge (tgt := 82) hx hb dX1_init_66 (by decide) (fun c_1 => ?_) (fun c_1 => ?_)
        · have ha4 : 40 ≤ a := (nI_leI (a := 40) (by omega) (by omega)).mp c_1
          have hP := mw_w (w' := w0) hP (fun j h => hw1 j (by omega))
          have hD := mw_Dw (w' := w0) hD
          exact W.vret hx hb hr (fun t ht hW => ⟨⟨(ad, tt), rfl, rfl, by rw [ht]; exact hP, va_K.moved hW.alike hK, hD⟩, hS.F ht⟩) hS.2.2 dX1_init_82 hlocks
        · have ha4 : a < 40 := Nat.lt_of_not_le (fun h => c_1 (nI_le (a := 40) h (by omega)))
          refine lv_aload_n hx hb dX1_init_69 rfl (lv_at hl 1 rfl) ?_
          refine x1_get (v := .ref (ad 1)) S0 hin hK hP 1 (by decide) f_wireOf rfl rfl dX1_init_70 ?_
          refine lv_iload_n hx hb dX1_init_73 rfl (lv_at hl 0 rfl) ?_
          refine lv_iconst (v := (-1)) hx hb dX1_init_74 (by decide) ?_
          refine va_iast hx hb hK hP hD hS 1 0 rfl rfl (vp_in_nI (by omega) (by omega)) dX1_init_75 (fun H locs hP hD hS => ?_)
          rw [(nI_clamp (by omega))] at hP hD
          have hP : va_P D vwCl (mw ad tt R (upd w1 a (-1)) z0 z0 z0 0 0) H := hP
          have hD : va_D A (mw ad tt R (upd w1 a (-1)) z0 z0 z0 0 0) := hD
          refine lv_iinc (v := nI (a + 1)) (lv' := [(2, .int (nI (a + 1))), (0, .ref (ad 0)), (1, .int x)]) hx hb dX1_init_76 hl (k := 0) rfl (nI_1 a) (by decide) rfl (fun ls hl => ?_)
          refine lv_goto (tgt := 63) hx hb dX1_init_79 (by decide) ?_
          exact ih63 (a + 1) (upd w1 a (-1)) (by omega) (up_all hw1) (by omega) H locs ls hP hD hS (lv_sub hl [0, 1, 2] rfl)
    exact lp63 _ 0 z0 (by omega) (fun j h => absurd h (Nat.not_lt_zero j)) (Nat.lt_succ_self _) H locs ls hP hD hS (lv_sub hl [0, 1, 2] rfl)
  refine lv_icmp_ge (tgt := 46) hx hb dX1_init_39 (by decide) (fun c1 => ?_) (fun c1 => ?_)
  · refine lv_iload_n hx hb dX1_init_46 rfl (lv_at hl 1 rfl) ?_
    refine lv_bipush (v := 10) hx hb dX1_init_47 (by decide) ?_
    refine lv_icmp_le (tgt := 57) hx hb dX1_init_49 (by decide) (fun c2 => ?_) (fun c2 => ?_)
    · refine lv_iload_n hx hb dX1_init_57 rfl (lv_at hl 1 rfl) ?_
      exact go _ (cl_3 c1 c2)
    · refine lv_bipush (v := 10) hx hb dX1_init_52 (by decide) ?_
      refine lv_goto (tgt := 58) hx hb dX1_init_54 (by decide) ?_
      exact go _ (cl_2 c1 c2)
  · refine lv_iconst (v := 1) hx hb dX1_init_42 (by decide) ?_
    refine lv_goto (tgt := 58) hx hb dX1_init_43 (by decide) ?_
    exact go _ (cl_1 c1)
end
section
section
variable {R : Nat} {w c : Nat → Int32} {x y z q v : Int32}
theorem ok_plug (hok : ww_ok R w c) {u : (Nat → Int32) × (Nat → Int32)} (h : r_plug R w c x y z q v u) : ww_ok R u.1 u.2 := by
  rcases h with ⟨-, i, j, h1, h2, h3⟩ | ⟨-, -, h2, h3⟩
  · rw [h2, h3]
    refine ⟨hok.1, hok.2.1, fun a ha => ?_, fun a ha hne => ?_⟩
    · by_cases e : a = 4 * i + j
      · rw [e, pk_us]
        exact Or.inr h1.2.2.2.2.1
      · rw [pk_un e]
        exact hok.2.2.1 a ha
    · by_cases e : a = 4 * i + j
      · rw [e, pk_us]
        exact h1.2.2.2.2.2.1
      · rw [pk_un e] at hne ⊢
        exact hok.2.2.2 a ha hne
  · rw [h2, h3]
    exact hok
theorem ok_draw (hok : ww_ok R w c) {u : Nat → Int32} (h : r_draw R w x y v u) : ww_ok R u c := by
  rcases h with ⟨-, i, j, h1, h2⟩ | ⟨-, -, h2⟩
  · rw [h2]
    refine ⟨hok.1, hok.2.1, fun a ha => ?_, fun a ha hne => ?_⟩
    · by_cases e : a = 4 * i + j
      · rw [e, pk_us]
        exact Or.inl rfl
      · rw [pk_un e]
        exact hok.2.2.1 a ha
    · by_cases e : a = 4 * i + j
      · rw [e, pk_us] at hne
        exact absurd rfl hne
      · rw [pk_un e] at hne
        exact hok.2.2.2 a ha hne
  · rw [h2]
    exact hok
theorem ok_cost (hok : ww_ok R w c) {u : Nat → Int32} (h : r_cost R w c x y q v u) : ww_ok R w u := by
  rcases h with ⟨i, j, h1, h2, -, h3⟩ | ⟨-, -, h3⟩
  · rw [h3]
    refine ⟨hok.1, hok.2.1, hok.2.2.1, fun a ha hne => ?_⟩
    by_cases e : a = 4 * i + j
    · rw [e, pk_us]
      exact h2
    · rw [pk_un e]
      exact hok.2.2.2 a ha hne
  · rw [h3]
    exact hok
theorem ok_0 (x : Int32) : ww_ok (clampR x) w0 z0 := ⟨(cl_ok x).1, (cl_ok x).2, fun _ _ => Or.inl rfl, fun _ _ h => absurd rfl h⟩
theorem law_i {L i : Nat} (hL : L ≤ 2561) (hi : i ≤ L + 1) (h : ¬ nI L - 5 < nI i) : i + 5 ≤ L := by
  have h1 := pk_sub_toInt (a := L) (b := 5) (by omega) (by omega)
  have h2 := nI_toInt (n := i) (by omega)
  rw [Int32.lt_iff_toInt_lt, show nI L - 5 = nI L - nI 5 from rfl, h1, h2] at h
  omega
end
set_option maxHeartbeats 4000000 in
set_option maxRecDepth 100000 in
/-- cell(script, 0) -/
theorem k_L_cell (l : Launch) (b L : Nat) (xs : Nat → Int32) (hL : L ≤ 2561) (sz : Nat) : Met l yL_cell wsL_cell { frames := 0, cells := 0, slots := 0, locals := 0 } (va_Pc [.ref b, .int 0] (fun U => U.heap.size = sz ∧ b < sz ∧ va_X b L xs U U.heap)) (va_Qi (fun v (_ : Unit) => v = if 0 < L then xs 0 else 0) (fun _ _ => True) (va_A [] sz)) 0 0 (va_A [] sz) := by
  refine Met.ofW (cc := cL_cell) (maxL := 2) (ret := (some .int)) (by decide) rfl ?_
  intro p e s m args below meth cd s₁ B hml hv
  obtain ⟨rfl, hsz, hbs, hX⟩ := hv
  have hx := B.exec
  have hb := B.bytes
  have hr := B.returns
  have hlocks := B.notSynchronized
  subst hsz
  have hbA : ¬ va_A [] s.heap.size b := fun h => by
    rcases h with ⟨k, e, h⟩ | h
    · simp at h
    · omega
  have hS : va_S (va_A [] s.heap.size) s.heap s.heap [] := va_S.rf
  have hl := lv_entry ([.ref b, .int 0]) (n := 2) (Nat.le_of_ble_eq_true rfl)
  rw [lg_entry_eq]
  generalize (lg_sl ([.ref b, .int 0]) ++ List.replicate (2 - (lg_sl ([.ref b, .int 0])).length) Slot.unset).toArray = ls at hl ⊢
  have hl : lv_has ls 2 [(0, .ref b), (1, .int 0)] := hl
  refine lv_iload_n hx hb dL_cell_0 rfl (lv_at hl 1 rfl) ?_
  refine lv_aload_n hx hb dL_cell_1 rfl (lv_at hl 0 rfl) ?_
  refine va_slen hx hb hX hbs hbA hS dL_cell_2 ?_
  refine lv_icmp_ge (tgt := 12) hx hb dL_cell_3 (by decide) (fun c1 => ?_) (fun c1 => ?_)
  · have h0 : ¬ 0 < L := fun h => absurd c1 (nI_ge h (by omega))
    refine lv_iconst (v := 0) hx hb dL_cell_12 (by decide) ?_
    exact W.iret hx hb hr (fun t ht hW => ⟨⟨0, (), rfl, by rw [if_neg h0], trivial⟩, hS.F ht⟩) hS.2.2 dL_cell_13 hlocks
  · have h0 : 0 < L := by
      rcases Nat.lt_or_ge 0 L with h | h
      · exact h
      · exact absurd (nI_le h (by omega)) c1
    refine lv_aload_n hx hb dL_cell_6 rfl (lv_at hl 0 rfl) ?_
    refine lv_iload_n hx hb dL_cell_7 rfl (lv_at hl 1 rfl) ?_
    refine va_sld hx hb hX hbs hbA hS (vp_in_nI (n := 0) h0 (by omega)) dL_cell_8 ?_
    refine lv_goto (tgt := 13) hx hb dL_cell_9 (by decide) ?_
    exact W.iret hx hb hr (fun t ht hW => ⟨⟨_, (), rfl, by rw [if_pos h0]; rfl, trivial⟩, hS.F ht⟩) hS.2.2 dL_cell_13 hlocks
end
section
/-! THE CLAIM OUT OF ONE WALK OF THE LAW'S BODY. Your part is whole_start (and what it stands on); all else here is the same for every law, but numbers. -/
def R_law : String := "WireWaysLaw"
def lw_P (b : Addr) (xs : List Int32) (args : Array Value) (s : State) : Prop := args = #[.ref b] ∧ s.IntsAt b xs ∧ xs.length ≤ 2561 ∧ (Jvm.Cond.and given_1 narrow_1).before args s = true
def lw_Q (_ : Array Value) (s : State) (o : Outcome) (t : State) : Prop := o = .returned (some (.int 1)) ∧ Framed s o t [] 11 243
def lw_Z (below : List Frame) (a : Array Value) (s : State) : State → Prop := fun t => ∃ o, t.status = .running ∧ Ended t below o ∧ lw_Q a s o t
/-- the law's own end, with 1 on the stack, nothing written that was there before, its room as the claim has it -/
theorem lw_ret {p : Program} {l : Launch} {e : Env} {s : State} {m : MethodId} {below : List Frame} {meth : Method} {c : Code} {b : Nat} (hx : p.tables.exec = Jvm.exec) (hb : c.code = code) (hr : meth.sig.returnType = ret) (hlocks : meth.locks = false) {pc : Nat} {H : Heap} {ls : Array Slot} (hdg : decode code pc = .ok (.ireturn, 1)) : W p l e room_1 s m #[Value.ref b] below meth c H [] 11 243 (lw_Z below #[Value.ref b] s) (F0 m pc ls [.int 1]) := by
  intro T hT X
  obtain ⟨fs, hret, hrun, hended, hW, hframe⟩ := X.leave (v := some (.int 1)) (hlocks := hlocks) (fun h => by rw [hr] at h; cases h)
  have hmeth' : T.vm.method? m = some meth := X.method'
  refine ⟨T.setFrames fs, ?_, .returned (some (.int 1)), hrun, hended, rfl, ⟨_, rfl⟩, hW, hframe⟩
  jvm_step X.here [X.here.top, hx, hb, hdg, hmeth', hr, ret, narrow_b1]
  (try refine ⟨rfl, ?_⟩); (try refine ⟨rfl, ?_⟩)
  first | (intro acts; rw [hret _ acts rfl rfl rfl]) | rw [hret _ _ rfl rfl rfl]
  exact Steps.refl _
/-- what holds at the law's entry: the machine, the code, the tables' words (any of lw_tbl by 'hts w (by decide +kernel)'), the script of L ints xs at the cell b, what the Statement gives of the start (any of its parts by flat_of_before) -/
def lw_At (p : Program) (s : State) (m : MethodId) (meth : Method) (c : Code) (b L : Nat) (xs : Nat → Int32) : Prop :=
  p.tables.exec = Jvm.exec ∧ c.code = code ∧ meth.sig.returnType = ret ∧ c.maxLocals = 4 ∧ s.vm.findClass R_law = some m.cls ∧ (∀ w ∈ lw_tbl, w.before #[Value.ref b] s = true) ∧ va_X b L xs s s.heap ∧ b < s.heap.size ∧ meth.locks = false ∧ (Jvm.Cond.and given_1 narrow_1).before #[Value.ref b] s = true
set_option maxHeartbeats 8000000 in
set_option maxRecDepth 100000 in
/-- the law's loop: at its head both sides stand for the same state -/
theorem law_loop {p : Program} {l : Launch} {e : Env} {s : State} {m : MethodId} {below : List Frame} {meth : Method} {cd : Code} {D : va_G} {ad ad2 : Nat → Nat} {tt tt2 : Nat → ClassId} {b L R : Nat} {xs : Nat → Int32} (hL : L ≤ 2561) (C0 : lw_At p s m meth cd b L xs) (hK1 : va_K D vwCl (tyX tt) s) (hK2 : va_K D vwCl (tyM tt2) s) :
    ∀ (fuel i : Nat) (w c k d n d2 : Nat → Int32) (wp wr wp2 wr2 : Int32), ww_ok R w c → i ≤ L + 1 → L + 1 - i < fuel → ∀ (H : Heap) (locs : List Loc) (ls : Array Slot), va_P D vwCl (xw ad tt R w c k d n wp wr ++ mw ad2 tt2 R w c k d2 wp2 wr2) H → va_D (fun q : Nat => s.heap.size ≤ q) (xw ad tt R w c k d n wp wr ++ mw ad2 tt2 R w c k d2 wp2 wr2) → va_S (fun q : Nat => s.heap.size ≤ q) s.heap H locs → lv_has ls 4 [(0, .ref b), (1, .ref (ad 0)), (2, .ref (ad2 0)), (3, .int (nI i))] → W p l e room_1 s m #[Value.ref b] below meth cd H locs 11 243 (lw_Z below #[Value.ref b] s) (F0 m 28 ls []) := by
  obtain ⟨hx, hb, hr, hml, hown, hts, hX, hbl, hlocks, hgv⟩ := C0
  have hts : ∀ w ∈ wsL_law, w.before #[Value.ref b] s = true := fun w h => hts w (wsL_law_in w h)
  have hA : ∀ q : Nat, s.heap.size ≤ q → (fun q : Nat => s.heap.size ≤ q) q := fun _ h => h
  have hbA : ¬ (fun q : Nat => s.heap.size ≤ q) b := Nat.not_le.mpr hbl
  have S0 : CallFix p m cd cL_law 4 s #[Value.ref b] wsL_law RL := ⟨hx, hb, hml, hown, hts⟩
  intro fuel
  induction fuel with
  | zero => intro i w c k d n d2 wp wr wp2 wr2 hok hi0 hm; exact absurd hm (Nat.not_lt_zero _)
  | succ fuel ih =>
    intro i w c k d n d2 wp wr wp2 wr2 hok hi0 hm H locs ls hP hD hS hl
    refine lv_iload_n hx hb dL_law_28 rfl (lv_at hl 3 rfl) ?_
    refine lv_aload_n hx hb dL_law_29 rfl (lv_at hl 0 rfl) ?_
    refine va_slen hx hb hX hbl hbA hS dL_law_30 ?_
    refine lv_iconst (v := 5) hx hb dL_law_31 (by decide) ?_
    refine lv_isub hx hb dL_law_32 ?_
    refine lv_icmp_gt (tgt := 573) hx hb dL_law_33 (by decide) (fun cg => ?_) (fun cg => ?_)
    · refine lv_iconst (v := 1) hx hb dL_law_573 (by decide) ?_
      refine va_forget (fun q hq => hS.2.2 q hq) ?_
      exact lw_ret hx hb hr hlocks dL_law_574
    · have hi5 := law_i hL hi0 cg
      refine lv_aload_n hx hb dL_law_36 rfl (lv_at hl 0 rfl) ?_
      refine lv_iload_n hx hb dL_law_37 rfl (lv_at hl 3 rfl) ?_
      refine va_sld hx hb hX hbl hbA hS (vp_in_nI (by omega) (by omega)) dL_law_38 ?_
      refine xt_eq (z := xs i) (congrArg xs (nI_clamp (by omega))) ?_
      refine lv_bipush (v := 15) hx hb dL_law_39 (by decide) ?_
      refine lv_iand hx hb dL_law_41 ?_
      obtain ⟨sw, hsw, esw⟩ := pk_andE (xs i) (m := 15) 4 rfl
      refine xt_eq esw ?_
      by_cases h0 : sw = 0
      · subst h0
        refine lv_tableIn (off := 58) (tgt := 100) hx hb dL_law_42 (by decide) (by decide) rfl (by decide) ?_
        refine lv_aload_n hx hb dL_law_100 rfl (lv_at hl 1 rfl) ?_
        refine lv_aload_n hx hb dL_law_101 rfl (lv_at hl 0 rfl) ?_
        refine lv_iload_n hx hb dL_law_102 rfl (lv_at hl 3 rfl) ?_
        refine lv_iconst (v := 1) hx hb dL_law_103 (by decide) ?_
        refine lv_iadd hx hb dL_law_104 ?_
        refine xt_eq (z := nI (i + 1)) (nI_add i 1) ?_
        refine va_sld hx hb hX hbl hbA hS (vp_in_nI (by omega) (by omega)) dL_law_105 ?_
        refine xt_eq (z := xs (i + 1)) (congrArg xs (nI_clamp (by omega))) ?_
        refine lv_aload_n hx hb dL_law_106 rfl (lv_at hl 0 rfl) ?_
        refine lv_iload_n hx hb dL_law_107 rfl (lv_at hl 3 rfl) ?_
        refine lv_iconst (v := 2) hx hb dL_law_108 (by decide) ?_
        refine lv_iadd hx hb dL_law_109 ?_
        refine xt_eq (z := nI (i + 2)) (nI_add i 2) ?_
        refine va_sld hx hb hX hbl hbA hS (vp_in_nI (by omega) (by omega)) dL_law_110 ?_
        refine xt_eq (z := xs (i + 2)) (congrArg xs (nI_clamp (by omega))) ?_
        refine lv_aload_n hx hb dL_law_111 rfl (lv_at hl 0 rfl) ?_
        refine lv_iload_n hx hb dL_law_112 rfl (lv_at hl 3 rfl) ?_
        refine lv_iconst (v := 3) hx hb dL_law_113 (by decide) ?_
        refine lv_iadd hx hb dL_law_114 ?_
        refine xt_eq (z := nI (i + 3)) (nI_add i 3) ?_
        refine va_sld hx hb hX hbl hbA hS (vp_in_nI (by omega) (by omega)) dL_law_115 ?_
        refine xt_eq (z := xs (i + 3)) (congrArg xs (nI_clamp (by omega))) ?_
        refine lv_aload_n hx hb dL_law_116 rfl (lv_at hl 0 rfl) ?_
        refine lv_iload_n hx hb dL_law_117 rfl (lv_at hl 3 rfl) ?_
        refine lv_iconst (v := 4) hx hb dL_law_118 (by decide) ?_
        refine lv_iadd hx hb dL_law_119 ?_
        refine xt_eq (z := nI (i + 4)) (nI_add i 4) ?_
        refine va_sld hx hb hX hbl hbA hS (vp_in_nI (by omega) (by omega)) dL_law_120 ?_
        refine xt_eq (z := xs (i + 4)) (congrArg xs (nI_clamp (by omega))) ?_
        refine xs_Vi (wr := mw ad2 tt2 R w c k d2 wp2 wr2) (q0 := 0) (ci := 0) (nA := 4) (As := [.int (xs (i + 1)), .int (xs (i + 2)), .int (xs (i + 3)), .int (xs (i + 4))]) (rest := []) S0 (k_X0_plug l D ad tt R w c k d n wp wr (xs (i + 1)) (xs (i + 2)) (xs (i + 3)) (xs (i + 4)) hok.2.1 hok.2.2.1) gL_law_X0_plug rfl ⟨rfl, rfl⟩ (by decide +kernel) rfl ⟨Nat.le_of_ble_eq_true rfl, Nat.le_of_ble_eq_true rfl⟩ ⟨Nat.le_of_ble_eq_true rfl, Nat.le_of_ble_eq_true rfl⟩ hK1 hP hD hS hA [0, 1, 2, 3, 4, 5] [6, 7, 8, 9, 10] rfl rfl (by decide) (by decide) (by decide) rfl rfl rfl hl.1 rfl (Nat.le_of_ble_eq_true rfl) dL_law_121 (fun r1 u1 H locs h1 hP hD hS => ?_)
        have hP : va_P D vwCl (mw ad2 tt2 R w c k d2 wp2 wr2 ++ xw ad tt R u1.1 u1.2 k d n wp wr) H := hP
        have hD : va_D (fun q : Nat => s.heap.size ≤ q) (mw ad2 tt2 R w c k d2 wp2 wr2 ++ xw ad tt R u1.1 u1.2 k d n wp wr) := hD
        refine lv_aload_n hx hb dL_law_124 rfl (lv_at hl 2 rfl) ?_
        refine lv_aload_n hx hb dL_law_125 rfl (lv_at hl 0 rfl) ?_
        refine lv_iload_n hx hb dL_law_126 rfl (lv_at hl 3 rfl) ?_
        refine lv_iconst (v := 1) hx hb dL_law_127 (by decide) ?_
        refine lv_iadd hx hb dL_law_128 ?_
        refine xt_eq (z := nI (i + 1)) (nI_add i 1) ?_
        refine va_sld hx hb hX hbl hbA hS (vp_in_nI (by omega) (by omega)) dL_law_129 ?_
        refine xt_eq (z := xs (i + 1)) (congrArg xs (nI_clamp (by omega))) ?_
        refine lv_aload_n hx hb dL_law_130 rfl (lv_at hl 0 rfl) ?_
        refine lv_iload_n hx hb dL_law_131 rfl (lv_at hl 3 rfl) ?_
        refine lv_iconst (v := 2) hx hb dL_law_132 (by decide) ?_
        refine lv_iadd hx hb dL_law_133 ?_
        refine xt_eq (z := nI (i + 2)) (nI_add i 2) ?_
        refine va_sld hx hb hX hbl hbA hS (vp_in_nI (by omega) (by omega)) dL_law_134 ?_
        refine xt_eq (z := xs (i + 2)) (congrArg xs (nI_clamp (by omega))) ?_
        refine lv_aload_n hx hb dL_law_135 rfl (lv_at hl 0 rfl) ?_
        refine lv_iload_n hx hb dL_law_136 rfl (lv_at hl 3 rfl) ?_
        refine lv_iconst (v := 3) hx hb dL_law_137 (by decide) ?_
        refine lv_iadd hx hb dL_law_138 ?_
        refine xt_eq (z := nI (i + 3)) (nI_add i 3) ?_
        refine va_sld hx hb hX hbl hbA hS (vp_in_nI (by omega) (by omega)) dL_law_139 ?_
        refine xt_eq (z := xs (i + 3)) (congrArg xs (nI_clamp (by omega))) ?_
        refine lv_aload_n hx hb dL_law_140 rfl (lv_at hl 0 rfl) ?_
        refine lv_iload_n hx hb dL_law_141 rfl (lv_at hl 3 rfl) ?_
        refine lv_iconst (v := 4) hx hb dL_law_142 (by decide) ?_
        refine lv_iadd hx hb dL_law_143 ?_
        refine xt_eq (z := nI (i + 4)) (nI_add i 4) ?_
        refine va_sld hx hb hX hbl hbA hS (vp_in_nI (by omega) (by omega)) dL_law_144 ?_
        refine xt_eq (z := xs (i + 4)) (congrArg xs (nI_clamp (by omega))) ?_
        refine xs_Vi (wr := xw ad tt R u1.1 u1.2 k d n wp wr) (q0 := 0) (ci := 1) (nA := 4) (As := [.int (xs (i + 1)), .int (xs (i + 2)), .int (xs (i + 3)), .int (xs (i + 4))]) (rest := [.int r1]) S0 (k_X1_plug l D ad2 tt2 R w c k d2 wp2 wr2 (xs (i + 1)) (xs (i + 2)) (xs (i + 3)) (xs (i + 4)) hok.2.1) gL_law_X1_plug rfl ⟨rfl, rfl⟩ (by decide +kernel) rfl ⟨Nat.le_of_ble_eq_true rfl, Nat.le_of_ble_eq_true rfl⟩ ⟨Nat.le_of_ble_eq_true rfl, Nat.le_of_ble_eq_true rfl⟩ hK2 hP hD hS hA [0, 1, 2, 3, 4] [5, 6, 7, 8, 9, 10] rfl rfl (by decide) (by decide) (by decide) rfl rfl rfl hl.1 rfl (Nat.le_of_ble_eq_true rfl) dL_law_145 (fun r2 u2 H locs h2 hP hD hS => ?_)
        have hP : va_P D vwCl (xw ad tt R u1.1 u1.2 k d n wp wr ++ mw ad2 tt2 R u2.1 u2.2 k d2 wp2 wr2) H := hP
        have hD : va_D (fun q : Nat => s.heap.size ≤ q) (xw ad tt R u1.1 u1.2 k d n wp wr ++ mw ad2 tt2 R u2.1 u2.2 k d2 wp2 wr2) := hD
        obtain ⟨e1, e2⟩ := r_plug_one hok.2.1 h1 h2
        rw [← e2] at hP hD
        have hP : va_P D vwCl (xw ad tt R u1.1 u1.2 k d n wp wr ++ mw ad2 tt2 R u1.1 u1.2 k d2 wp2 wr2) H := hP
        have hD : va_D (fun q : Nat => s.heap.size ≤ q) (xw ad tt R u1.1 u1.2 k d n wp wr ++ mw ad2 tt2 R u1.1 u1.2 k d2 wp2 wr2) := hD
        refine lv_icmp_eq (tgt := 567) hx hb dL_law_148 (by decide) (fun c9 => ?_) (fun c9 => absurd e1 c9)
        refine lv_iinc (v := nI (i + 5)) (lv' := [(3, .int (nI (i + 5))), (0, .ref b), (1, .ref (ad 0)), (2, .ref (ad2 0))]) hx hb dL_law_567 hl (k := 3) rfl (nI_add i 5) (by decide) rfl (fun ls hl => ?_)
        refine lv_goto (tgt := 28) hx hb dL_law_570 (by decide) ?_
        exact ih (i + 5) u1.1 u1.2 k d n d2 wp wr wp2 wr2 (ok_plug hok h1) (by omega) (by omega) H locs ls hP hD hS (lv_sub hl [1, 2, 3, 0] rfl)
      by_cases h1 : sw = 1
      · subst h1
        refine lv_tableIn (off := 111) (tgt := 153) hx hb dL_law_42 (by decide) (by decide) rfl (by decide) ?_
        refine lv_aload_n hx hb dL_law_153 rfl (lv_at hl 1 rfl) ?_
        refine lv_aload_n hx hb dL_law_154 rfl (lv_at hl 0 rfl) ?_
        refine lv_iload_n hx hb dL_law_155 rfl (lv_at hl 3 rfl) ?_
        refine lv_iconst (v := 1) hx hb dL_law_156 (by decide) ?_
        refine lv_iadd hx hb dL_law_157 ?_
        refine xt_eq (z := nI (i + 1)) (nI_add i 1) ?_
        refine va_sld hx hb hX hbl hbA hS (vp_in_nI (by omega) (by omega)) dL_law_158 ?_
        refine xt_eq (z := xs (i + 1)) (congrArg xs (nI_clamp (by omega))) ?_
        refine lv_aload_n hx hb dL_law_159 rfl (lv_at hl 0 rfl) ?_
        refine lv_iload_n hx hb dL_law_160 rfl (lv_at hl 3 rfl) ?_
        refine lv_iconst (v := 2) hx hb dL_law_161 (by decide) ?_
        refine lv_iadd hx hb dL_law_162 ?_
        refine xt_eq (z := nI (i + 2)) (nI_add i 2) ?_
        refine va_sld hx hb hX hbl hbA hS (vp_in_nI (by omega) (by omega)) dL_law_163 ?_
        refine xt_eq (z := xs (i + 2)) (congrArg xs (nI_clamp (by omega))) ?_
        refine xs_Vi (wr := mw ad2 tt2 R w c k d2 wp2 wr2) (q0 := 0) (ci := 0) (nA := 2) (As := [.int (xs (i + 1)), .int (xs (i + 2))]) (rest := []) S0 (k_X0_draw l D ad tt R w c k d n wp wr (xs (i + 1)) (xs (i + 2)) hok.2.1 hok.2.2.1) gL_law_X0_draw rfl ⟨rfl, rfl⟩ (by decide +kernel) rfl ⟨Nat.le_of_ble_eq_true rfl, Nat.le_of_ble_eq_true rfl⟩ ⟨Nat.le_of_ble_eq_true rfl, Nat.le_of_ble_eq_true rfl⟩ hK1 hP hD hS hA [0, 1, 2, 3, 4, 5] [6, 7, 8, 9, 10] rfl rfl (by decide) (by decide) (by decide) rfl rfl rfl hl.1 rfl (Nat.le_of_ble_eq_true rfl) dL_law_164 (fun r1 u1 H locs h1 hP hD hS => ?_)
        have hP : va_P D vwCl (mw ad2 tt2 R w c k d2 wp2 wr2 ++ xw ad tt R u1 c k d n wp wr) H := hP
        have hD : va_D (fun q : Nat => s.heap.size ≤ q) (mw ad2 tt2 R w c k d2 wp2 wr2 ++ xw ad tt R u1 c k d n wp wr) := hD
        refine lv_aload_n hx hb dL_law_167 rfl (lv_at hl 2 rfl) ?_
        refine lv_aload_n hx hb dL_law_168 rfl (lv_at hl 0 rfl) ?_
        refine lv_iload_n hx hb dL_law_169 rfl (lv_at hl 3 rfl) ?_
        refine lv_iconst (v := 1) hx hb dL_law_170 (by decide) ?_
        refine lv_iadd hx hb dL_law_171 ?_
        refine xt_eq (z := nI (i + 1)) (nI_add i 1) ?_
        refine va_sld hx hb hX hbl hbA hS (vp_in_nI (by omega) (by omega)) dL_law_172 ?_
        refine xt_eq (z := xs (i + 1)) (congrArg xs (nI_clamp (by omega))) ?_
        refine lv_aload_n hx hb dL_law_173 rfl (lv_at hl 0 rfl) ?_
        refine lv_iload_n hx hb dL_law_174 rfl (lv_at hl 3 rfl) ?_
        refine lv_iconst (v := 2) hx hb dL_law_175 (by decide) ?_
        refine lv_iadd hx hb dL_law_176 ?_
        refine xt_eq (z := nI (i + 2)) (nI_add i 2) ?_
        refine va_sld hx hb hX hbl hbA hS (vp_in_nI (by omega) (by omega)) dL_law_177 ?_
        refine xt_eq (z := xs (i + 2)) (congrArg xs (nI_clamp (by omega))) ?_
        refine xs_Vi (wr := xw ad tt R u1 c k d n wp wr) (q0 := 0) (ci := 1) (nA := 2) (As := [.int (xs (i + 1)), .int (xs (i + 2))]) (rest := [.int r1]) S0 (k_X1_draw l D ad2 tt2 R w c k d2 wp2 wr2 (xs (i + 1)) (xs (i + 2)) hok.2.1) gL_law_X1_draw rfl ⟨rfl, rfl⟩ (by decide +kernel) rfl ⟨Nat.le_of_ble_eq_true rfl, Nat.le_of_ble_eq_true rfl⟩ ⟨Nat.le_of_ble_eq_true rfl, Nat.le_of_ble_eq_true rfl⟩ hK2 hP hD hS hA [0, 1, 2, 3, 4] [5, 6, 7, 8, 9, 10] rfl rfl (by decide) (by decide) (by decide) rfl rfl rfl hl.1 rfl (Nat.le_of_ble_eq_true rfl) dL_law_178 (fun r2 u2 H locs h2 hP hD hS => ?_)
        have hP : va_P D vwCl (xw ad tt R u1 c k d n wp wr ++ mw ad2 tt2 R u2 c k d2 wp2 wr2) H := hP
        have hD : va_D (fun q : Nat => s.heap.size ≤ q) (xw ad tt R u1 c k d n wp wr ++ mw ad2 tt2 R u2 c k d2 wp2 wr2) := hD
        obtain ⟨e1, e2⟩ := r_draw_one hok.2.1 h1 h2
        rw [← e2] at hP hD
        have hP : va_P D vwCl (xw ad tt R u1 c k d n wp wr ++ mw ad2 tt2 R u1 c k d2 wp2 wr2) H := hP
        have hD : va_D (fun q : Nat => s.heap.size ≤ q) (xw ad tt R u1 c k d n wp wr ++ mw ad2 tt2 R u1 c k d2 wp2 wr2) := hD
        refine lv_icmp_eq (tgt := 567) hx hb dL_law_181 (by decide) (fun c9 => ?_) (fun c9 => absurd e1 c9)
        refine lv_iinc (v := nI (i + 5)) (lv' := [(3, .int (nI (i + 5))), (0, .ref b), (1, .ref (ad 0)), (2, .ref (ad2 0))]) hx hb dL_law_567 hl (k := 3) rfl (nI_add i 5) (by decide) rfl (fun ls hl => ?_)
        refine lv_goto (tgt := 28) hx hb dL_law_570 (by decide) ?_
        exact ih (i + 5) u1 c k d n d2 wp wr wp2 wr2 (ok_draw hok h1) (by omega) (by omega) H locs ls hP hD hS (lv_sub hl [1, 2, 3, 0] rfl)
      by_cases h2 : sw = 2
      · subst h2
        refine lv_tableIn (off := 144) (tgt := 186) hx hb dL_law_42 (by decide) (by decide) rfl (by decide) ?_
        refine lv_aload_n hx hb dL_law_186 rfl (lv_at hl 1 rfl) ?_
        refine lv_aload_n hx hb dL_law_187 rfl (lv_at hl 0 rfl) ?_
        refine lv_iload_n hx hb dL_law_188 rfl (lv_at hl 3 rfl) ?_
        refine lv_iconst (v := 1) hx hb dL_law_189 (by decide) ?_
        refine lv_iadd hx hb dL_law_190 ?_
        refine xt_eq (z := nI (i + 1)) (nI_add i 1) ?_
        refine va_sld hx hb hX hbl hbA hS (vp_in_nI (by omega) (by omega)) dL_law_191 ?_
        refine xt_eq (z := xs (i + 1)) (congrArg xs (nI_clamp (by omega))) ?_
        refine lv_aload_n hx hb dL_law_192 rfl (lv_at hl 0 rfl) ?_
        refine lv_iload_n hx hb dL_law_193 rfl (lv_at hl 3 rfl) ?_
        refine lv_iconst (v := 2) hx hb dL_law_194 (by decide) ?_
        refine lv_iadd hx hb dL_law_195 ?_
        refine xt_eq (z := nI (i + 2)) (nI_add i 2) ?_
        refine va_sld hx hb hX hbl hbA hS (vp_in_nI (by omega) (by omega)) dL_law_196 ?_
        refine xt_eq (z := xs (i + 2)) (congrArg xs (nI_clamp (by omega))) ?_
        refine lv_aload_n hx hb dL_law_197 rfl (lv_at hl 0 rfl) ?_
        refine lv_iload_n hx hb dL_law_198 rfl (lv_at hl 3 rfl) ?_
        refine lv_iconst (v := 3) hx hb dL_law_199 (by decide) ?_
        refine lv_iadd hx hb dL_law_200 ?_
        refine xt_eq (z := nI (i + 3)) (nI_add i 3) ?_
        refine va_sld hx hb hX hbl hbA hS (vp_in_nI (by omega) (by omega)) dL_law_201 ?_
        refine xt_eq (z := xs (i + 3)) (congrArg xs (nI_clamp (by omega))) ?_
        refine xs_Vi (wr := mw ad2 tt2 R w c k d2 wp2 wr2) (q0 := 0) (ci := 0) (nA := 3) (As := [.int (xs (i + 1)), .int (xs (i + 2)), .int (xs (i + 3))]) (rest := []) S0 (k_X0_cost l D ad tt R w c k d n wp wr (xs (i + 1)) (xs (i + 2)) (xs (i + 3)) hok.2.1 hok.2.2.1) gL_law_X0_cost rfl ⟨rfl, rfl⟩ (by decide +kernel) rfl ⟨Nat.le_of_ble_eq_true rfl, Nat.le_of_ble_eq_true rfl⟩ ⟨Nat.le_of_ble_eq_true rfl, Nat.le_of_ble_eq_true rfl⟩ hK1 hP hD hS hA [0, 1, 2, 3, 4, 5] [6, 7, 8, 9, 10] rfl rfl (by decide) (by decide) (by decide) rfl rfl rfl hl.1 rfl (Nat.le_of_ble_eq_true rfl) dL_law_202 (fun r1 u1 H locs h1 hP hD hS => ?_)
        have hP : va_P D vwCl (mw ad2 tt2 R w c k d2 wp2 wr2 ++ xw ad tt R w u1 k d n wp wr) H := hP
        have hD : va_D (fun q : Nat => s.heap.size ≤ q) (mw ad2 tt2 R w c k d2 wp2 wr2 ++ xw ad tt R w u1 k d n wp wr) := hD
        refine lv_aload_n hx hb dL_law_205 rfl (lv_at hl 2 rfl) ?_
        refine lv_aload_n hx hb dL_law_206 rfl (lv_at hl 0 rfl) ?_
        refine lv_iload_n hx hb dL_law_207 rfl (lv_at hl 3 rfl) ?_
        refine lv_iconst (v := 1) hx hb dL_law_208 (by decide) ?_
        refine lv_iadd hx hb dL_law_209 ?_
        refine xt_eq (z := nI (i + 1)) (nI_add i 1) ?_
        refine va_sld hx hb hX hbl hbA hS (vp_in_nI (by omega) (by omega)) dL_law_210 ?_
        refine xt_eq (z := xs (i + 1)) (congrArg xs (nI_clamp (by omega))) ?_
        refine lv_aload_n hx hb dL_law_211 rfl (lv_at hl 0 rfl) ?_
        refine lv_iload_n hx hb dL_law_212 rfl (lv_at hl 3 rfl) ?_
        refine lv_iconst (v := 2) hx hb dL_law_213 (by decide) ?_
        refine lv_iadd hx hb dL_law_214 ?_
        refine xt_eq (z := nI (i + 2)) (nI_add i 2) ?_
        refine va_sld hx hb hX hbl hbA hS (vp_in_nI (by omega) (by omega)) dL_law_215 ?_
        refine xt_eq (z := xs (i + 2)) (congrArg xs (nI_clamp (by omega))) ?_
        refine lv_aload_n hx hb dL_law_216 rfl (lv_at hl 0 rfl) ?_
        refine lv_iload_n hx hb dL_law_217 rfl (lv_at hl 3 rfl) ?_
        refine lv_iconst (v := 3) hx hb dL_law_218 (by decide) ?_
        refine lv_iadd hx hb dL_law_219 ?_
        refine xt_eq (z := nI (i + 3)) (nI_add i 3) ?_
        refine va_sld hx hb hX hbl hbA hS (vp_in_nI (by omega) (by omega)) dL_law_220 ?_
        refine xt_eq (z := xs (i + 3)) (congrArg xs (nI_clamp (by omega))) ?_
        refine xs_Vi (wr := xw ad tt R w u1 k d n wp wr) (q0 := 0) (ci := 1) (nA := 3) (As := [.int (xs (i + 1)), .int (xs (i + 2)), .int (xs (i + 3))]) (rest := [.int r1]) S0 (k_X1_cost l D ad2 tt2 R w c k d2 wp2 wr2 (xs (i + 1)) (xs (i + 2)) (xs (i + 3)) hok.2.1) gL_law_X1_cost rfl ⟨rfl, rfl⟩ (by decide +kernel) rfl ⟨Nat.le_of_ble_eq_true rfl, Nat.le_of_ble_eq_true rfl⟩ ⟨Nat.le_of_ble_eq_true rfl, Nat.le_of_ble_eq_true rfl⟩ hK2 hP hD hS hA [0, 1, 2, 3, 4] [5, 6, 7, 8, 9, 10] rfl rfl (by decide) (by decide) (by decide) rfl rfl rfl hl.1 rfl (Nat.le_of_ble_eq_true rfl) dL_law_221 (fun r2 u2 H locs h2 hP hD hS => ?_)
        have hP : va_P D vwCl (xw ad tt R w u1 k d n wp wr ++ mw ad2 tt2 R w u2 k d2 wp2 wr2) H := hP
        have hD : va_D (fun q : Nat => s.heap.size ≤ q) (xw ad tt R w u1 k d n wp wr ++ mw ad2 tt2 R w u2 k d2 wp2 wr2) := hD
        obtain ⟨e1, e2⟩ := r_cost_one hok.2.1 h1 h2
        rw [← e2] at hP hD
        have hP : va_P D vwCl (xw ad tt R w u1 k d n wp wr ++ mw ad2 tt2 R w u1 k d2 wp2 wr2) H := hP
        have hD : va_D (fun q : Nat => s.heap.size ≤ q) (xw ad tt R w u1 k d n wp wr ++ mw ad2 tt2 R w u1 k d2 wp2 wr2) := hD
        refine lv_icmp_eq (tgt := 567) hx hb dL_law_224 (by decide) (fun c9 => ?_) (fun c9 => absurd e1 c9)
        refine lv_iinc (v := nI (i + 5)) (lv' := [(3, .int (nI (i + 5))), (0, .ref b), (1, .ref (ad 0)), (2, .ref (ad2 0))]) hx hb dL_law_567 hl (k := 3) rfl (nI_add i 5) (by decide) rfl (fun ls hl => ?_)
        refine lv_goto (tgt := 28) hx hb dL_law_570 (by decide) ?_
        exact ih (i + 5) w u1 k d n d2 wp wr wp2 wr2 (ok_cost hok h1) (by omega) (by omega) H locs ls hP hD hS (lv_sub hl [1, 2, 3, 0] rfl)
      by_cases h3 : sw = 3
      · subst h3
        refine lv_tableIn (off := 187) (tgt := 229) hx hb dL_law_42 (by decide) (by decide) rfl (by decide) ?_
        refine lv_aload_n hx hb dL_law_229 rfl (lv_at hl 1 rfl) ?_
        refine lv_aload_n hx hb dL_law_230 rfl (lv_at hl 0 rfl) ?_
        refine lv_iload_n hx hb dL_law_231 rfl (lv_at hl 3 rfl) ?_
        refine lv_iconst (v := 1) hx hb dL_law_232 (by decide) ?_
        refine lv_iadd hx hb dL_law_233 ?_
        refine xt_eq (z := nI (i + 1)) (nI_add i 1) ?_
        refine va_sld hx hb hX hbl hbA hS (vp_in_nI (by omega) (by omega)) dL_law_234 ?_
        refine xt_eq (z := xs (i + 1)) (congrArg xs (nI_clamp (by omega))) ?_
        refine xs_Vi (wr := mw ad2 tt2 R w c k d2 wp2 wr2) (q0 := 0) (ci := 0) (nA := 1) (As := [.int (xs (i + 1))]) (rest := []) S0 (k_X0_cut l D ad tt R w c k d n wp wr (xs (i + 1))) gL_law_X0_cut rfl ⟨rfl, rfl⟩ (by decide +kernel) rfl ⟨Nat.le_of_ble_eq_true rfl, Nat.le_of_ble_eq_true rfl⟩ ⟨Nat.le_of_ble_eq_true rfl, Nat.le_of_ble_eq_true rfl⟩ hK1 hP hD hS hA [0, 1, 2, 3, 4, 5] [6, 7, 8, 9, 10] rfl rfl (by decide) (by decide) (by decide) rfl rfl rfl hl.1 rfl (Nat.le_of_ble_eq_true rfl) dL_law_235 (fun r1 u1 H locs h1 hP hD hS => ?_)
        have hP : va_P D vwCl (mw ad2 tt2 R w c k d2 wp2 wr2 ++ xw ad tt R w c u1 d n wp wr) H := hP
        have hD : va_D (fun q : Nat => s.heap.size ≤ q) (mw ad2 tt2 R w c k d2 wp2 wr2 ++ xw ad tt R w c u1 d n wp wr) := hD
        refine lv_aload_n hx hb dL_law_238 rfl (lv_at hl 2 rfl) ?_
        refine lv_aload_n hx hb dL_law_239 rfl (lv_at hl 0 rfl) ?_
        refine lv_iload_n hx hb dL_law_240 rfl (lv_at hl 3 rfl) ?_
        refine lv_iconst (v := 1) hx hb dL_law_241 (by decide) ?_
        refine lv_iadd hx hb dL_law_242 ?_
        refine xt_eq (z := nI (i + 1)) (nI_add i 1) ?_
        refine va_sld hx hb hX hbl hbA hS (vp_in_nI (by omega) (by omega)) dL_law_243 ?_
        refine xt_eq (z := xs (i + 1)) (congrArg xs (nI_clamp (by omega))) ?_
        refine xs_Vi (wr := xw ad tt R w c u1 d n wp wr) (q0 := 0) (ci := 1) (nA := 1) (As := [.int (xs (i + 1))]) (rest := [.int r1]) S0 (k_X1_cut l D ad2 tt2 R w c k d2 wp2 wr2 (xs (i + 1))) gL_law_X1_cut rfl ⟨rfl, rfl⟩ (by decide +kernel) rfl ⟨Nat.le_of_ble_eq_true rfl, Nat.le_of_ble_eq_true rfl⟩ ⟨Nat.le_of_ble_eq_true rfl, Nat.le_of_ble_eq_true rfl⟩ hK2 hP hD hS hA [0, 1, 2, 3, 4] [5, 6, 7, 8, 9, 10] rfl rfl (by decide) (by decide) (by decide) rfl rfl rfl hl.1 rfl (Nat.le_of_ble_eq_true rfl) dL_law_244 (fun r2 u2 H locs h2 hP hD hS => ?_)
        have hP : va_P D vwCl (xw ad tt R w c u1 d n wp wr ++ mw ad2 tt2 R w c u2 d2 wp2 wr2) H := hP
        have hD : va_D (fun q : Nat => s.heap.size ≤ q) (xw ad tt R w c u1 d n wp wr ++ mw ad2 tt2 R w c u2 d2 wp2 wr2) := hD
        obtain ⟨e1, e2⟩ := r_cut_one h1 h2
        rw [← e2] at hP hD
        have hP : va_P D vwCl (xw ad tt R w c u1 d n wp wr ++ mw ad2 tt2 R w c u1 d2 wp2 wr2) H := hP
        have hD : va_D (fun q : Nat => s.heap.size ≤ q) (xw ad tt R w c u1 d n wp wr ++ mw ad2 tt2 R w c u1 d2 wp2 wr2) := hD
        refine lv_icmp_eq (tgt := 567) hx hb dL_law_247 (by decide) (fun c9 => ?_) (fun c9 => absurd e1 c9)
        refine lv_iinc (v := nI (i + 5)) (lv' := [(3, .int (nI (i + 5))), (0, .ref b), (1, .ref (ad 0)), (2, .ref (ad2 0))]) hx hb dL_law_567 hl (k := 3) rfl (nI_add i 5) (by decide) rfl (fun ls hl => ?_)
        refine lv_goto (tgt := 28) hx hb dL_law_570 (by decide) ?_
        exact ih (i + 5) w c u1 d n d2 wp wr wp2 wr2 hok (by omega) (by omega) H locs ls hP hD hS (lv_sub hl [1, 2, 3, 0] rfl)
      by_cases h4 : sw = 4
      · subst h4
        refine lv_tableIn (off := 210) (tgt := 252) hx hb dL_law_42 (by decide) (by decide) rfl (by decide) ?_
        refine lv_aload_n hx hb dL_law_252 rfl (lv_at hl 1 rfl) ?_
        refine lv_aload_n hx hb dL_law_253 rfl (lv_at hl 0 rfl) ?_
        refine lv_iload_n hx hb dL_law_254 rfl (lv_at hl 3 rfl) ?_
        refine lv_iconst (v := 1) hx hb dL_law_255 (by decide) ?_
        refine lv_iadd hx hb dL_law_256 ?_
        refine xt_eq (z := nI (i + 1)) (nI_add i 1) ?_
        refine va_sld hx hb hX hbl hbA hS (vp_in_nI (by omega) (by omega)) dL_law_257 ?_
        refine xt_eq (z := xs (i + 1)) (congrArg xs (nI_clamp (by omega))) ?_
        refine xs_Vi (wr := mw ad2 tt2 R w c k d2 wp2 wr2) (q0 := 0) (ci := 0) (nA := 1) (As := [.int (xs (i + 1))]) (rest := []) S0 (k_X0_mend l D ad tt R w c k d n wp wr (xs (i + 1))) gL_law_X0_mend rfl ⟨rfl, rfl⟩ (by decide +kernel) rfl ⟨Nat.le_of_ble_eq_true rfl, Nat.le_of_ble_eq_true rfl⟩ ⟨Nat.le_of_ble_eq_true rfl, Nat.le_of_ble_eq_true rfl⟩ hK1 hP hD hS hA [0, 1, 2, 3, 4, 5] [6, 7, 8, 9, 10] rfl rfl (by decide) (by decide) (by decide) rfl rfl rfl hl.1 rfl (Nat.le_of_ble_eq_true rfl) dL_law_258 (fun r1 u1 H locs h1 hP hD hS => ?_)
        have hP : va_P D vwCl (mw ad2 tt2 R w c k d2 wp2 wr2 ++ xw ad tt R w c u1 d n wp wr) H := hP
        have hD : va_D (fun q : Nat => s.heap.size ≤ q) (mw ad2 tt2 R w c k d2 wp2 wr2 ++ xw ad tt R w c u1 d n wp wr) := hD
        refine lv_aload_n hx hb dL_law_261 rfl (lv_at hl 2 rfl) ?_
        refine lv_aload_n hx hb dL_law_262 rfl (lv_at hl 0 rfl) ?_
        refine lv_iload_n hx hb dL_law_263 rfl (lv_at hl 3 rfl) ?_
        refine lv_iconst (v := 1) hx hb dL_law_264 (by decide) ?_
        refine lv_iadd hx hb dL_law_265 ?_
        refine xt_eq (z := nI (i + 1)) (nI_add i 1) ?_
        refine va_sld hx hb hX hbl hbA hS (vp_in_nI (by omega) (by omega)) dL_law_266 ?_
        refine xt_eq (z := xs (i + 1)) (congrArg xs (nI_clamp (by omega))) ?_
        refine xs_Vi (wr := xw ad tt R w c u1 d n wp wr) (q0 := 0) (ci := 1) (nA := 1) (As := [.int (xs (i + 1))]) (rest := [.int r1]) S0 (k_X1_mend l D ad2 tt2 R w c k d2 wp2 wr2 (xs (i + 1))) gL_law_X1_mend rfl ⟨rfl, rfl⟩ (by decide +kernel) rfl ⟨Nat.le_of_ble_eq_true rfl, Nat.le_of_ble_eq_true rfl⟩ ⟨Nat.le_of_ble_eq_true rfl, Nat.le_of_ble_eq_true rfl⟩ hK2 hP hD hS hA [0, 1, 2, 3, 4] [5, 6, 7, 8, 9, 10] rfl rfl (by decide) (by decide) (by decide) rfl rfl rfl hl.1 rfl (Nat.le_of_ble_eq_true rfl) dL_law_267 (fun r2 u2 H locs h2 hP hD hS => ?_)
        have hP : va_P D vwCl (xw ad tt R w c u1 d n wp wr ++ mw ad2 tt2 R w c u2 d2 wp2 wr2) H := hP
        have hD : va_D (fun q : Nat => s.heap.size ≤ q) (xw ad tt R w c u1 d n wp wr ++ mw ad2 tt2 R w c u2 d2 wp2 wr2) := hD
        obtain ⟨e1, e2⟩ := r_mend_one h1 h2
        rw [← e2] at hP hD
        have hP : va_P D vwCl (xw ad tt R w c u1 d n wp wr ++ mw ad2 tt2 R w c u1 d2 wp2 wr2) H := hP
        have hD : va_D (fun q : Nat => s.heap.size ≤ q) (xw ad tt R w c u1 d n wp wr ++ mw ad2 tt2 R w c u1 d2 wp2 wr2) := hD
        refine lv_icmp_eq (tgt := 567) hx hb dL_law_270 (by decide) (fun c9 => ?_) (fun c9 => absurd e1 c9)
        refine lv_iinc (v := nI (i + 5)) (lv' := [(3, .int (nI (i + 5))), (0, .ref b), (1, .ref (ad 0)), (2, .ref (ad2 0))]) hx hb dL_law_567 hl (k := 3) rfl (nI_add i 5) (by decide) rfl (fun ls hl => ?_)
        refine lv_goto (tgt := 28) hx hb dL_law_570 (by decide) ?_
        exact ih (i + 5) w c u1 d n d2 wp wr wp2 wr2 hok (by omega) (by omega) H locs ls hP hD hS (lv_sub hl [1, 2, 3, 0] rfl)
      by_cases h5 : sw = 5
      · subst h5
        refine lv_tableIn (off := 233) (tgt := 275) hx hb dL_law_42 (by decide) (by decide) rfl (by decide) ?_
        refine lv_aload_n hx hb dL_law_275 rfl (lv_at hl 1 rfl) ?_
        refine lv_aload_n hx hb dL_law_276 rfl (lv_at hl 0 rfl) ?_
        refine lv_iload_n hx hb dL_law_277 rfl (lv_at hl 3 rfl) ?_
        refine lv_iconst (v := 1) hx hb dL_law_278 (by decide) ?_
        refine lv_iadd hx hb dL_law_279 ?_
        refine xt_eq (z := nI (i + 1)) (nI_add i 1) ?_
        refine va_sld hx hb hX hbl hbA hS (vp_in_nI (by omega) (by omega)) dL_law_280 ?_
        refine xt_eq (z := xs (i + 1)) (congrArg xs (nI_clamp (by omega))) ?_
        refine lv_aload_n hx hb dL_law_281 rfl (lv_at hl 0 rfl) ?_
        refine lv_iload_n hx hb dL_law_282 rfl (lv_at hl 3 rfl) ?_
        refine lv_iconst (v := 2) hx hb dL_law_283 (by decide) ?_
        refine lv_iadd hx hb dL_law_284 ?_
        refine xt_eq (z := nI (i + 2)) (nI_add i 2) ?_
        refine va_sld hx hb hX hbl hbA hS (vp_in_nI (by omega) (by omega)) dL_law_285 ?_
        refine xt_eq (z := xs (i + 2)) (congrArg xs (nI_clamp (by omega))) ?_
        refine lv_if_eq (tgt := 293) hx hb dL_law_286 (by decide) (fun hz => ?_) (fun hz => ?_)
        · refine lv_iconst (v := 0) hx hb dL_law_293 (by decide) ?_
          refine lv_aload_n hx hb dL_law_294 rfl (lv_at hl 0 rfl) ?_
          refine lv_iload_n hx hb dL_law_295 rfl (lv_at hl 3 rfl) ?_
          refine lv_iconst (v := 3) hx hb dL_law_296 (by decide) ?_
          refine lv_iadd hx hb dL_law_297 ?_
          refine xt_eq (z := nI (i + 3)) (nI_add i 3) ?_
          refine va_sld hx hb hX hbl hbA hS (vp_in_nI (by omega) (by omega)) dL_law_298 ?_
          refine xt_eq (z := xs (i + 3)) (congrArg xs (nI_clamp (by omega))) ?_
          refine xs_Vi (wr := mw ad2 tt2 R w c k d2 wp2 wr2) (q0 := 0) (ci := 0) (nA := 3) (As := [.int (xs (i + 1)), .int 0, .int (xs (i + 3))]) (rest := []) S0 (k_X0_far l D ad tt R w c k d n wp wr hok (xs (i + 1)) 0 (xs (i + 3))) gL_law_X0_far rfl ⟨rfl, rfl⟩ (by decide +kernel) rfl ⟨Nat.le_of_ble_eq_true rfl, Nat.le_of_ble_eq_true rfl⟩ ⟨Nat.le_of_ble_eq_true rfl, Nat.le_of_ble_eq_true rfl⟩ hK1 hP hD hS hA [0, 1, 2, 3, 4, 5] [6, 7, 8, 9, 10] rfl rfl (by decide) (by decide) (by decide) rfl rfl rfl hl.1 rfl (Nat.le_of_ble_eq_true rfl) dL_law_299 (fun r1 u1 H locs h1 hP hD hS => ?_)
          have hP : va_P D vwCl (mw ad2 tt2 R w c k d2 wp2 wr2 ++ xw ad tt R w c k u1.1 u1.2 wp wr) H := hP
          have hD : va_D (fun q : Nat => s.heap.size ≤ q) (mw ad2 tt2 R w c k d2 wp2 wr2 ++ xw ad tt R w c k u1.1 u1.2 wp wr) := hD
          refine lv_aload_n hx hb dL_law_302 rfl (lv_at hl 2 rfl) ?_
          refine lv_aload_n hx hb dL_law_303 rfl (lv_at hl 0 rfl) ?_
          refine lv_iload_n hx hb dL_law_304 rfl (lv_at hl 3 rfl) ?_
          refine lv_iconst (v := 1) hx hb dL_law_305 (by decide) ?_
          refine lv_iadd hx hb dL_law_306 ?_
          refine xt_eq (z := nI (i + 1)) (nI_add i 1) ?_
          refine va_sld hx hb hX hbl hbA hS (vp_in_nI (by omega) (by omega)) dL_law_307 ?_
          refine xt_eq (z := xs (i + 1)) (congrArg xs (nI_clamp (by omega))) ?_
          refine lv_aload_n hx hb dL_law_308 rfl (lv_at hl 0 rfl) ?_
          refine lv_iload_n hx hb dL_law_309 rfl (lv_at hl 3 rfl) ?_
          refine lv_iconst (v := 2) hx hb dL_law_310 (by decide) ?_
          refine lv_iadd hx hb dL_law_311 ?_
          refine xt_eq (z := nI (i + 2)) (nI_add i 2) ?_
          refine va_sld hx hb hX hbl hbA hS (vp_in_nI (by omega) (by omega)) dL_law_312 ?_
          refine xt_eq (z := xs (i + 2)) (congrArg xs (nI_clamp (by omega))) ?_
          refine lv_if_eq (tgt := 320) hx hb dL_law_313 (by decide) (fun _ => ?_) (fun h => absurd hz h)
          refine lv_iconst (v := 0) hx hb dL_law_320 (by decide) ?_
          refine lv_aload_n hx hb dL_law_321 rfl (lv_at hl 0 rfl) ?_
          refine lv_iload_n hx hb dL_law_322 rfl (lv_at hl 3 rfl) ?_
          refine lv_iconst (v := 3) hx hb dL_law_323 (by decide) ?_
          refine lv_iadd hx hb dL_law_324 ?_
          refine xt_eq (z := nI (i + 3)) (nI_add i 3) ?_
          refine va_sld hx hb hX hbl hbA hS (vp_in_nI (by omega) (by omega)) dL_law_325 ?_
          refine xt_eq (z := xs (i + 3)) (congrArg xs (nI_clamp (by omega))) ?_
          refine xs_Vi (wr := xw ad tt R w c k u1.1 u1.2 wp wr) (q0 := 0) (ci := 1) (nA := 3) (As := [.int (xs (i + 1)), .int 0, .int (xs (i + 3))]) (rest := [.int r1]) S0 (k_X1_far l D ad2 tt2 R w c k d2 wp2 wr2 hok (xs (i + 1)) 0 (xs (i + 3))) gL_law_X1_far rfl ⟨rfl, rfl⟩ (by decide +kernel) rfl ⟨Nat.le_of_ble_eq_true rfl, Nat.le_of_ble_eq_true rfl⟩ ⟨Nat.le_of_ble_eq_true rfl, Nat.le_of_ble_eq_true rfl⟩ hK2 hP hD hS hA [0, 1, 2, 3, 4] [5, 6, 7, 8, 9, 10] rfl rfl (by decide) (by decide) (by decide) rfl rfl rfl hl.1 rfl (Nat.le_of_ble_eq_true rfl) dL_law_326 (fun r2 u2 H locs h2 hP hD hS => ?_)
          have hP : va_P D vwCl (xw ad tt R w c k u1.1 u1.2 wp wr ++ mw ad2 tt2 R w c k u2.1 u2.2.1 u2.2.2) H := hP
          have hD : va_D (fun q : Nat => s.heap.size ≤ q) (xw ad tt R w c k u1.1 u1.2 wp wr ++ mw ad2 tt2 R w c k u2.1 u2.2.1 u2.2.2) := hD
          have e1 := fa_one hok.2.1 h1 h2.1
          refine lv_icmp_eq (tgt := 567) hx hb dL_law_329 (by decide) (fun c9 => ?_) (fun c9 => absurd e1 c9)
          refine lv_iinc (v := nI (i + 5)) (lv' := [(3, .int (nI (i + 5))), (0, .ref b), (1, .ref (ad 0)), (2, .ref (ad2 0))]) hx hb dL_law_567 hl (k := 3) rfl (nI_add i 5) (by decide) rfl (fun ls hl => ?_)
          refine lv_goto (tgt := 28) hx hb dL_law_570 (by decide) ?_
          exact ih (i + 5) w c k u1.1 u1.2 u2.1 wp wr u2.2.1 u2.2.2 hok (by omega) (by omega) H locs ls hP hD hS (lv_sub hl [1, 2, 3, 0] rfl)
        · refine lv_iconst (v := 1) hx hb dL_law_289 (by decide) ?_
          refine lv_goto (tgt := 294) hx hb dL_law_290 (by decide) ?_
          refine lv_aload_n hx hb dL_law_294 rfl (lv_at hl 0 rfl) ?_
          refine lv_iload_n hx hb dL_law_295 rfl (lv_at hl 3 rfl) ?_
          refine lv_iconst (v := 3) hx hb dL_law_296 (by decide) ?_
          refine lv_iadd hx hb dL_law_297 ?_
          refine xt_eq (z := nI (i + 3)) (nI_add i 3) ?_
          refine va_sld hx hb hX hbl hbA hS (vp_in_nI (by omega) (by omega)) dL_law_298 ?_
          refine xt_eq (z := xs (i + 3)) (congrArg xs (nI_clamp (by omega))) ?_
          refine xs_Vi (wr := mw ad2 tt2 R w c k d2 wp2 wr2) (q0 := 0) (ci := 0) (nA := 3) (As := [.int (xs (i + 1)), .int 1, .int (xs (i + 3))]) (rest := []) S0 (k_X0_far l D ad tt R w c k d n wp wr hok (xs (i + 1)) 1 (xs (i + 3))) gL_law_X0_far rfl ⟨rfl, rfl⟩ (by decide +kernel) rfl ⟨Nat.le_of_ble_eq_true rfl, Nat.le_of_ble_eq_true rfl⟩ ⟨Nat.le_of_ble_eq_true rfl, Nat.le_of_ble_eq_true rfl⟩ hK1 hP hD hS hA [0, 1, 2, 3, 4, 5] [6, 7, 8, 9, 10] rfl rfl (by decide) (by decide) (by decide) rfl rfl rfl hl.1 rfl (Nat.le_of_ble_eq_true rfl) dL_law_299 (fun r1 u1 H locs h1 hP hD hS => ?_)
          have hP : va_P D vwCl (mw ad2 tt2 R w c k d2 wp2 wr2 ++ xw ad tt R w c k u1.1 u1.2 wp wr) H := hP
          have hD : va_D (fun q : Nat => s.heap.size ≤ q) (mw ad2 tt2 R w c k d2 wp2 wr2 ++ xw ad tt R w c k u1.1 u1.2 wp wr) := hD
          refine lv_aload_n hx hb dL_law_302 rfl (lv_at hl 2 rfl) ?_
          refine lv_aload_n hx hb dL_law_303 rfl (lv_at hl 0 rfl) ?_
          refine lv_iload_n hx hb dL_law_304 rfl (lv_at hl 3 rfl) ?_
          refine lv_iconst (v := 1) hx hb dL_law_305 (by decide) ?_
          refine lv_iadd hx hb dL_law_306 ?_
          refine xt_eq (z := nI (i + 1)) (nI_add i 1) ?_
          refine va_sld hx hb hX hbl hbA hS (vp_in_nI (by omega) (by omega)) dL_law_307 ?_
          refine xt_eq (z := xs (i + 1)) (congrArg xs (nI_clamp (by omega))) ?_
          refine lv_aload_n hx hb dL_law_308 rfl (lv_at hl 0 rfl) ?_
          refine lv_iload_n hx hb dL_law_309 rfl (lv_at hl 3 rfl) ?_
          refine lv_iconst (v := 2) hx hb dL_law_310 (by decide) ?_
          refine lv_iadd hx hb dL_law_311 ?_
          refine xt_eq (z := nI (i + 2)) (nI_add i 2) ?_
          refine va_sld hx hb hX hbl hbA hS (vp_in_nI (by omega) (by omega)) dL_law_312 ?_
          refine xt_eq (z := xs (i + 2)) (congrArg xs (nI_clamp (by omega))) ?_
          refine lv_if_eq (tgt := 320) hx hb dL_law_313 (by decide) (fun h => absurd h hz) (fun _ => ?_)
          refine lv_iconst (v := 1) hx hb dL_law_316 (by decide) ?_
          refine lv_goto (tgt := 321) hx hb dL_law_317 (by decide) ?_
          refine lv_aload_n hx hb dL_law_321 rfl (lv_at hl 0 rfl) ?_
          refine lv_iload_n hx hb dL_law_322 rfl (lv_at hl 3 rfl) ?_
          refine lv_iconst (v := 3) hx hb dL_law_323 (by decide) ?_
          refine lv_iadd hx hb dL_law_324 ?_
          refine xt_eq (z := nI (i + 3)) (nI_add i 3) ?_
          refine va_sld hx hb hX hbl hbA hS (vp_in_nI (by omega) (by omega)) dL_law_325 ?_
          refine xt_eq (z := xs (i + 3)) (congrArg xs (nI_clamp (by omega))) ?_
          refine xs_Vi (wr := xw ad tt R w c k u1.1 u1.2 wp wr) (q0 := 0) (ci := 1) (nA := 3) (As := [.int (xs (i + 1)), .int 1, .int (xs (i + 3))]) (rest := [.int r1]) S0 (k_X1_far l D ad2 tt2 R w c k d2 wp2 wr2 hok (xs (i + 1)) 1 (xs (i + 3))) gL_law_X1_far rfl ⟨rfl, rfl⟩ (by decide +kernel) rfl ⟨Nat.le_of_ble_eq_true rfl, Nat.le_of_ble_eq_true rfl⟩ ⟨Nat.le_of_ble_eq_true rfl, Nat.le_of_ble_eq_true rfl⟩ hK2 hP hD hS hA [0, 1, 2, 3, 4] [5, 6, 7, 8, 9, 10] rfl rfl (by decide) (by decide) (by decide) rfl rfl rfl hl.1 rfl (Nat.le_of_ble_eq_true rfl) dL_law_326 (fun r2 u2 H locs h2 hP hD hS => ?_)
          have hP : va_P D vwCl (xw ad tt R w c k u1.1 u1.2 wp wr ++ mw ad2 tt2 R w c k u2.1 u2.2.1 u2.2.2) H := hP
          have hD : va_D (fun q : Nat => s.heap.size ≤ q) (xw ad tt R w c k u1.1 u1.2 wp wr ++ mw ad2 tt2 R w c k u2.1 u2.2.1 u2.2.2) := hD
          have e1 := fa_one hok.2.1 h1 h2.1
          refine lv_icmp_eq (tgt := 567) hx hb dL_law_329 (by decide) (fun c9 => ?_) (fun c9 => absurd e1 c9)
          refine lv_iinc (v := nI (i + 5)) (lv' := [(3, .int (nI (i + 5))), (0, .ref b), (1, .ref (ad 0)), (2, .ref (ad2 0))]) hx hb dL_law_567 hl (k := 3) rfl (nI_add i 5) (by decide) rfl (fun ls hl => ?_)
          refine lv_goto (tgt := 28) hx hb dL_law_570 (by decide) ?_
          exact ih (i + 5) w c k u1.1 u1.2 u2.1 wp wr u2.2.1 u2.2.2 hok (by omega) (by omega) H locs ls hP hD hS (lv_sub hl [1, 2, 3, 0] rfl)
      by_cases h6 : sw = 6
      · subst h6
        refine lv_tableIn (off := 292) (tgt := 334) hx hb dL_law_42 (by decide) (by decide) rfl (by decide) ?_
        refine lv_aload_n hx hb dL_law_334 rfl (lv_at hl 1 rfl) ?_
        refine lv_aload_n hx hb dL_law_335 rfl (lv_at hl 0 rfl) ?_
        refine lv_iload_n hx hb dL_law_336 rfl (lv_at hl 3 rfl) ?_
        refine lv_iconst (v := 1) hx hb dL_law_337 (by decide) ?_
        refine lv_iadd hx hb dL_law_338 ?_
        refine xt_eq (z := nI (i + 1)) (nI_add i 1) ?_
        refine va_sld hx hb hX hbl hbA hS (vp_in_nI (by omega) (by omega)) dL_law_339 ?_
        refine xt_eq (z := xs (i + 1)) (congrArg xs (nI_clamp (by omega))) ?_
        refine lv_aload_n hx hb dL_law_340 rfl (lv_at hl 0 rfl) ?_
        refine lv_iload_n hx hb dL_law_341 rfl (lv_at hl 3 rfl) ?_
        refine lv_iconst (v := 2) hx hb dL_law_342 (by decide) ?_
        refine lv_iadd hx hb dL_law_343 ?_
        refine xt_eq (z := nI (i + 2)) (nI_add i 2) ?_
        refine va_sld hx hb hX hbl hbA hS (vp_in_nI (by omega) (by omega)) dL_law_344 ?_
        refine xt_eq (z := xs (i + 2)) (congrArg xs (nI_clamp (by omega))) ?_
        refine lv_if_eq (tgt := 352) hx hb dL_law_345 (by decide) (fun hz => ?_) (fun hz => ?_)
        · refine lv_iconst (v := 0) hx hb dL_law_352 (by decide) ?_
          refine lv_aload_n hx hb dL_law_353 rfl (lv_at hl 0 rfl) ?_
          refine lv_iload_n hx hb dL_law_354 rfl (lv_at hl 3 rfl) ?_
          refine lv_iconst (v := 3) hx hb dL_law_355 (by decide) ?_
          refine lv_iadd hx hb dL_law_356 ?_
          refine xt_eq (z := nI (i + 3)) (nI_add i 3) ?_
          refine va_sld hx hb hX hbl hbA hS (vp_in_nI (by omega) (by omega)) dL_law_357 ?_
          refine xt_eq (z := xs (i + 3)) (congrArg xs (nI_clamp (by omega))) ?_
          refine xs_Vi (wr := mw ad2 tt2 R w c k d2 wp2 wr2) (q0 := 0) (ci := 0) (nA := 3) (As := [.int (xs (i + 1)), .int 0, .int (xs (i + 3))]) (rest := []) S0 (k_X0_port l D ad tt R w c k d n wp wr hok (xs (i + 1)) 0 (xs (i + 3))) gL_law_X0_port rfl ⟨rfl, rfl⟩ (by decide +kernel) rfl ⟨Nat.le_of_ble_eq_true rfl, Nat.le_of_ble_eq_true rfl⟩ ⟨Nat.le_of_ble_eq_true rfl, Nat.le_of_ble_eq_true rfl⟩ hK1 hP hD hS hA [0, 1, 2, 3, 4, 5] [6, 7, 8, 9, 10] rfl rfl (by decide) (by decide) (by decide) rfl rfl rfl hl.1 rfl (Nat.le_of_ble_eq_true rfl) dL_law_358 (fun r1 u1 H locs h1 hP hD hS => ?_)
          have hP : va_P D vwCl (mw ad2 tt2 R w c k d2 wp2 wr2 ++ xw ad tt R w c k u1.1.1 u1.1.2 u1.2.1 u1.2.2) H := hP
          have hD : va_D (fun q : Nat => s.heap.size ≤ q) (mw ad2 tt2 R w c k d2 wp2 wr2 ++ xw ad tt R w c k u1.1.1 u1.1.2 u1.2.1 u1.2.2) := hD
          refine lv_aload_n hx hb dL_law_361 rfl (lv_at hl 2 rfl) ?_
          refine lv_aload_n hx hb dL_law_362 rfl (lv_at hl 0 rfl) ?_
          refine lv_iload_n hx hb dL_law_363 rfl (lv_at hl 3 rfl) ?_
          refine lv_iconst (v := 1) hx hb dL_law_364 (by decide) ?_
          refine lv_iadd hx hb dL_law_365 ?_
          refine xt_eq (z := nI (i + 1)) (nI_add i 1) ?_
          refine va_sld hx hb hX hbl hbA hS (vp_in_nI (by omega) (by omega)) dL_law_366 ?_
          refine xt_eq (z := xs (i + 1)) (congrArg xs (nI_clamp (by omega))) ?_
          refine lv_aload_n hx hb dL_law_367 rfl (lv_at hl 0 rfl) ?_
          refine lv_iload_n hx hb dL_law_368 rfl (lv_at hl 3 rfl) ?_
          refine lv_iconst (v := 2) hx hb dL_law_369 (by decide) ?_
          refine lv_iadd hx hb dL_law_370 ?_
          refine xt_eq (z := nI (i + 2)) (nI_add i 2) ?_
          refine va_sld hx hb hX hbl hbA hS (vp_in_nI (by omega) (by omega)) dL_law_371 ?_
          refine xt_eq (z := xs (i + 2)) (congrArg xs (nI_clamp (by omega))) ?_
          refine lv_if_eq (tgt := 379) hx hb dL_law_372 (by decide) (fun _ => ?_) (fun h => absurd hz h)
          refine lv_iconst (v := 0) hx hb dL_law_379 (by decide) ?_
          refine lv_aload_n hx hb dL_law_380 rfl (lv_at hl 0 rfl) ?_
          refine lv_iload_n hx hb dL_law_381 rfl (lv_at hl 3 rfl) ?_
          refine lv_iconst (v := 3) hx hb dL_law_382 (by decide) ?_
          refine lv_iadd hx hb dL_law_383 ?_
          refine xt_eq (z := nI (i + 3)) (nI_add i 3) ?_
          refine va_sld hx hb hX hbl hbA hS (vp_in_nI (by omega) (by omega)) dL_law_384 ?_
          refine xt_eq (z := xs (i + 3)) (congrArg xs (nI_clamp (by omega))) ?_
          refine xs_Vi (wr := xw ad tt R w c k u1.1.1 u1.1.2 u1.2.1 u1.2.2) (q0 := 0) (ci := 1) (nA := 3) (As := [.int (xs (i + 1)), .int 0, .int (xs (i + 3))]) (rest := [.int r1]) S0 (k_X1_port l D ad2 tt2 R w c k d2 wp2 wr2 hok (xs (i + 1)) 0 (xs (i + 3))) gL_law_X1_port rfl ⟨rfl, rfl⟩ (by decide +kernel) rfl ⟨Nat.le_of_ble_eq_true rfl, Nat.le_of_ble_eq_true rfl⟩ ⟨Nat.le_of_ble_eq_true rfl, Nat.le_of_ble_eq_true rfl⟩ hK2 hP hD hS hA [0, 1, 2, 3, 4] [5, 6, 7, 8, 9, 10] rfl rfl (by decide) (by decide) (by decide) rfl rfl rfl hl.1 rfl (Nat.le_of_ble_eq_true rfl) dL_law_385 (fun r2 u2 H locs h2 hP hD hS => ?_)
          have hP : va_P D vwCl (xw ad tt R w c k u1.1.1 u1.1.2 u1.2.1 u1.2.2 ++ mw ad2 tt2 R w c k u2.1 u2.2.1 u2.2.2) H := hP
          have hD : va_D (fun q : Nat => s.heap.size ≤ q) (xw ad tt R w c k u1.1.1 u1.1.2 u1.2.1 u1.2.2 ++ mw ad2 tt2 R w c k u2.1 u2.2.1 u2.2.2) := hD
          have e1 := po_one hok.2.1 h1 h2
          refine lv_icmp_eq (tgt := 567) hx hb dL_law_388 (by decide) (fun c9 => ?_) (fun c9 => absurd e1 c9)
          refine lv_iinc (v := nI (i + 5)) (lv' := [(3, .int (nI (i + 5))), (0, .ref b), (1, .ref (ad 0)), (2, .ref (ad2 0))]) hx hb dL_law_567 hl (k := 3) rfl (nI_add i 5) (by decide) rfl (fun ls hl => ?_)
          refine lv_goto (tgt := 28) hx hb dL_law_570 (by decide) ?_
          exact ih (i + 5) w c k u1.1.1 u1.1.2 u2.1 u1.2.1 u1.2.2 u2.2.1 u2.2.2 hok (by omega) (by omega) H locs ls hP hD hS (lv_sub hl [1, 2, 3, 0] rfl)
        · refine lv_iconst (v := 1) hx hb dL_law_348 (by decide) ?_
          refine lv_goto (tgt := 353) hx hb dL_law_349 (by decide) ?_
          refine lv_aload_n hx hb dL_law_353 rfl (lv_at hl 0 rfl) ?_
          refine lv_iload_n hx hb dL_law_354 rfl (lv_at hl 3 rfl) ?_
          refine lv_iconst (v := 3) hx hb dL_law_355 (by decide) ?_
          refine lv_iadd hx hb dL_law_356 ?_
          refine xt_eq (z := nI (i + 3)) (nI_add i 3) ?_
          refine va_sld hx hb hX hbl hbA hS (vp_in_nI (by omega) (by omega)) dL_law_357 ?_
          refine xt_eq (z := xs (i + 3)) (congrArg xs (nI_clamp (by omega))) ?_
          refine xs_Vi (wr := mw ad2 tt2 R w c k d2 wp2 wr2) (q0 := 0) (ci := 0) (nA := 3) (As := [.int (xs (i + 1)), .int 1, .int (xs (i + 3))]) (rest := []) S0 (k_X0_port l D ad tt R w c k d n wp wr hok (xs (i + 1)) 1 (xs (i + 3))) gL_law_X0_port rfl ⟨rfl, rfl⟩ (by decide +kernel) rfl ⟨Nat.le_of_ble_eq_true rfl, Nat.le_of_ble_eq_true rfl⟩ ⟨Nat.le_of_ble_eq_true rfl, Nat.le_of_ble_eq_true rfl⟩ hK1 hP hD hS hA [0, 1, 2, 3, 4, 5] [6, 7, 8, 9, 10] rfl rfl (by decide) (by decide) (by decide) rfl rfl rfl hl.1 rfl (Nat.le_of_ble_eq_true rfl) dL_law_358 (fun r1 u1 H locs h1 hP hD hS => ?_)
          have hP : va_P D vwCl (mw ad2 tt2 R w c k d2 wp2 wr2 ++ xw ad tt R w c k u1.1.1 u1.1.2 u1.2.1 u1.2.2) H := hP
          have hD : va_D (fun q : Nat => s.heap.size ≤ q) (mw ad2 tt2 R w c k d2 wp2 wr2 ++ xw ad tt R w c k u1.1.1 u1.1.2 u1.2.1 u1.2.2) := hD
          refine lv_aload_n hx hb dL_law_361 rfl (lv_at hl 2 rfl) ?_
          refine lv_aload_n hx hb dL_law_362 rfl (lv_at hl 0 rfl) ?_
          refine lv_iload_n hx hb dL_law_363 rfl (lv_at hl 3 rfl) ?_
          refine lv_iconst (v := 1) hx hb dL_law_364 (by decide) ?_
          refine lv_iadd hx hb dL_law_365 ?_
          refine xt_eq (z := nI (i + 1)) (nI_add i 1) ?_
          refine va_sld hx hb hX hbl hbA hS (vp_in_nI (by omega) (by omega)) dL_law_366 ?_
          refine xt_eq (z := xs (i + 1)) (congrArg xs (nI_clamp (by omega))) ?_
          refine lv_aload_n hx hb dL_law_367 rfl (lv_at hl 0 rfl) ?_
          refine lv_iload_n hx hb dL_law_368 rfl (lv_at hl 3 rfl) ?_
          refine lv_iconst (v := 2) hx hb dL_law_369 (by decide) ?_
          refine lv_iadd hx hb dL_law_370 ?_
          refine xt_eq (z := nI (i + 2)) (nI_add i 2) ?_
          refine va_sld hx hb hX hbl hbA hS (vp_in_nI (by omega) (by omega)) dL_law_371 ?_
          refine xt_eq (z := xs (i + 2)) (congrArg xs (nI_clamp (by omega))) ?_
          refine lv_if_eq (tgt := 379) hx hb dL_law_372 (by decide) (fun h => absurd h hz) (fun _ => ?_)
          refine lv_iconst (v := 1) hx hb dL_law_375 (by decide) ?_
          refine lv_goto (tgt := 380) hx hb dL_law_376 (by decide) ?_
          refine lv_aload_n hx hb dL_law_380 rfl (lv_at hl 0 rfl) ?_
          refine lv_iload_n hx hb dL_law_381 rfl (lv_at hl 3 rfl) ?_
          refine lv_iconst (v := 3) hx hb dL_law_382 (by decide) ?_
          refine lv_iadd hx hb dL_law_383 ?_
          refine xt_eq (z := nI (i + 3)) (nI_add i 3) ?_
          refine va_sld hx hb hX hbl hbA hS (vp_in_nI (by omega) (by omega)) dL_law_384 ?_
          refine xt_eq (z := xs (i + 3)) (congrArg xs (nI_clamp (by omega))) ?_
          refine xs_Vi (wr := xw ad tt R w c k u1.1.1 u1.1.2 u1.2.1 u1.2.2) (q0 := 0) (ci := 1) (nA := 3) (As := [.int (xs (i + 1)), .int 1, .int (xs (i + 3))]) (rest := [.int r1]) S0 (k_X1_port l D ad2 tt2 R w c k d2 wp2 wr2 hok (xs (i + 1)) 1 (xs (i + 3))) gL_law_X1_port rfl ⟨rfl, rfl⟩ (by decide +kernel) rfl ⟨Nat.le_of_ble_eq_true rfl, Nat.le_of_ble_eq_true rfl⟩ ⟨Nat.le_of_ble_eq_true rfl, Nat.le_of_ble_eq_true rfl⟩ hK2 hP hD hS hA [0, 1, 2, 3, 4] [5, 6, 7, 8, 9, 10] rfl rfl (by decide) (by decide) (by decide) rfl rfl rfl hl.1 rfl (Nat.le_of_ble_eq_true rfl) dL_law_385 (fun r2 u2 H locs h2 hP hD hS => ?_)
          have hP : va_P D vwCl (xw ad tt R w c k u1.1.1 u1.1.2 u1.2.1 u1.2.2 ++ mw ad2 tt2 R w c k u2.1 u2.2.1 u2.2.2) H := hP
          have hD : va_D (fun q : Nat => s.heap.size ≤ q) (xw ad tt R w c k u1.1.1 u1.1.2 u1.2.1 u1.2.2 ++ mw ad2 tt2 R w c k u2.1 u2.2.1 u2.2.2) := hD
          have e1 := po_one hok.2.1 h1 h2
          refine lv_icmp_eq (tgt := 567) hx hb dL_law_388 (by decide) (fun c9 => ?_) (fun c9 => absurd e1 c9)
          refine lv_iinc (v := nI (i + 5)) (lv' := [(3, .int (nI (i + 5))), (0, .ref b), (1, .ref (ad 0)), (2, .ref (ad2 0))]) hx hb dL_law_567 hl (k := 3) rfl (nI_add i 5) (by decide) rfl (fun ls hl => ?_)
          refine lv_goto (tgt := 28) hx hb dL_law_570 (by decide) ?_
          exact ih (i + 5) w c k u1.1.1 u1.1.2 u2.1 u1.2.1 u1.2.2 u2.2.1 u2.2.2 hok (by omega) (by omega) H locs ls hP hD hS (lv_sub hl [1, 2, 3, 0] rfl)
      by_cases h7 : sw = 7
      · subst h7
        refine lv_tableIn (off := 351) (tgt := 393) hx hb dL_law_42 (by decide) (by decide) rfl (by decide) ?_
        refine lv_aload_n hx hb dL_law_393 rfl (lv_at hl 1 rfl) ?_
        refine lv_aload_n hx hb dL_law_394 rfl (lv_at hl 0 rfl) ?_
        refine lv_iload_n hx hb dL_law_395 rfl (lv_at hl 3 rfl) ?_
        refine lv_iconst (v := 1) hx hb dL_law_396 (by decide) ?_
        refine lv_iadd hx hb dL_law_397 ?_
        refine xt_eq (z := nI (i + 1)) (nI_add i 1) ?_
        refine va_sld hx hb hX hbl hbA hS (vp_in_nI (by omega) (by omega)) dL_law_398 ?_
        refine xt_eq (z := xs (i + 1)) (congrArg xs (nI_clamp (by omega))) ?_
        refine lv_aload_n hx hb dL_law_399 rfl (lv_at hl 0 rfl) ?_
        refine lv_iload_n hx hb dL_law_400 rfl (lv_at hl 3 rfl) ?_
        refine lv_iconst (v := 2) hx hb dL_law_401 (by decide) ?_
        refine lv_iadd hx hb dL_law_402 ?_
        refine xt_eq (z := nI (i + 2)) (nI_add i 2) ?_
        refine va_sld hx hb hX hbl hbA hS (vp_in_nI (by omega) (by omega)) dL_law_403 ?_
        refine xt_eq (z := xs (i + 2)) (congrArg xs (nI_clamp (by omega))) ?_
        refine lv_if_eq (tgt := 411) hx hb dL_law_404 (by decide) (fun hz => ?_) (fun hz => ?_)
        · refine lv_iconst (v := 0) hx hb dL_law_411 (by decide) ?_
          refine lv_aload_n hx hb dL_law_412 rfl (lv_at hl 0 rfl) ?_
          refine lv_iload_n hx hb dL_law_413 rfl (lv_at hl 3 rfl) ?_
          refine lv_iconst (v := 3) hx hb dL_law_414 (by decide) ?_
          refine lv_iadd hx hb dL_law_415 ?_
          refine xt_eq (z := nI (i + 3)) (nI_add i 3) ?_
          refine va_sld hx hb hX hbl hbA hS (vp_in_nI (by omega) (by omega)) dL_law_416 ?_
          refine xt_eq (z := xs (i + 3)) (congrArg xs (nI_clamp (by omega))) ?_
          refine xs_Vi (wr := mw ad2 tt2 R w c k d2 wp2 wr2) (q0 := 0) (ci := 0) (nA := 3) (As := [.int (xs (i + 1)), .int 0, .int (xs (i + 3))]) (rest := []) S0 (k_X0_next l D ad tt R w c k d n wp wr hok (xs (i + 1)) 0 (xs (i + 3))) gL_law_X0_next rfl ⟨rfl, rfl⟩ (by decide +kernel) rfl ⟨Nat.le_of_ble_eq_true rfl, Nat.le_of_ble_eq_true rfl⟩ ⟨Nat.le_of_ble_eq_true rfl, Nat.le_of_ble_eq_true rfl⟩ hK1 hP hD hS hA [0, 1, 2, 3, 4, 5] [6, 7, 8, 9, 10] rfl rfl (by decide) (by decide) (by decide) rfl rfl rfl hl.1 rfl (Nat.le_of_ble_eq_true rfl) dL_law_417 (fun r1 u1 H locs h1 hP hD hS => ?_)
          have hP : va_P D vwCl (mw ad2 tt2 R w c k d2 wp2 wr2 ++ xw ad tt R w c k u1.1.1 u1.1.2 u1.2.1 u1.2.2) H := hP
          have hD : va_D (fun q : Nat => s.heap.size ≤ q) (mw ad2 tt2 R w c k d2 wp2 wr2 ++ xw ad tt R w c k u1.1.1 u1.1.2 u1.2.1 u1.2.2) := hD
          refine lv_aload_n hx hb dL_law_420 rfl (lv_at hl 2 rfl) ?_
          refine lv_aload_n hx hb dL_law_421 rfl (lv_at hl 0 rfl) ?_
          refine lv_iload_n hx hb dL_law_422 rfl (lv_at hl 3 rfl) ?_
          refine lv_iconst (v := 1) hx hb dL_law_423 (by decide) ?_
          refine lv_iadd hx hb dL_law_424 ?_
          refine xt_eq (z := nI (i + 1)) (nI_add i 1) ?_
          refine va_sld hx hb hX hbl hbA hS (vp_in_nI (by omega) (by omega)) dL_law_425 ?_
          refine xt_eq (z := xs (i + 1)) (congrArg xs (nI_clamp (by omega))) ?_
          refine lv_aload_n hx hb dL_law_426 rfl (lv_at hl 0 rfl) ?_
          refine lv_iload_n hx hb dL_law_427 rfl (lv_at hl 3 rfl) ?_
          refine lv_iconst (v := 2) hx hb dL_law_428 (by decide) ?_
          refine lv_iadd hx hb dL_law_429 ?_
          refine xt_eq (z := nI (i + 2)) (nI_add i 2) ?_
          refine va_sld hx hb hX hbl hbA hS (vp_in_nI (by omega) (by omega)) dL_law_430 ?_
          refine xt_eq (z := xs (i + 2)) (congrArg xs (nI_clamp (by omega))) ?_
          refine lv_if_eq (tgt := 438) hx hb dL_law_431 (by decide) (fun _ => ?_) (fun h => absurd hz h)
          refine lv_iconst (v := 0) hx hb dL_law_438 (by decide) ?_
          refine lv_aload_n hx hb dL_law_439 rfl (lv_at hl 0 rfl) ?_
          refine lv_iload_n hx hb dL_law_440 rfl (lv_at hl 3 rfl) ?_
          refine lv_iconst (v := 3) hx hb dL_law_441 (by decide) ?_
          refine lv_iadd hx hb dL_law_442 ?_
          refine xt_eq (z := nI (i + 3)) (nI_add i 3) ?_
          refine va_sld hx hb hX hbl hbA hS (vp_in_nI (by omega) (by omega)) dL_law_443 ?_
          refine xt_eq (z := xs (i + 3)) (congrArg xs (nI_clamp (by omega))) ?_
          refine xs_Vi (wr := xw ad tt R w c k u1.1.1 u1.1.2 u1.2.1 u1.2.2) (q0 := 0) (ci := 1) (nA := 3) (As := [.int (xs (i + 1)), .int 0, .int (xs (i + 3))]) (rest := [.int r1]) S0 (k_X1_next l D ad2 tt2 R w c k d2 wp2 wr2 hok (xs (i + 1)) 0 (xs (i + 3))) gL_law_X1_next rfl ⟨rfl, rfl⟩ (by decide +kernel) rfl ⟨Nat.le_of_ble_eq_true rfl, Nat.le_of_ble_eq_true rfl⟩ ⟨Nat.le_of_ble_eq_true rfl, Nat.le_of_ble_eq_true rfl⟩ hK2 hP hD hS hA [0, 1, 2, 3, 4] [5, 6, 7, 8, 9, 10] rfl rfl (by decide) (by decide) (by decide) rfl rfl rfl hl.1 rfl (Nat.le_of_ble_eq_true rfl) dL_law_444 (fun r2 u2 H locs h2 hP hD hS => ?_)
          have hP : va_P D vwCl (xw ad tt R w c k u1.1.1 u1.1.2 u1.2.1 u1.2.2 ++ mw ad2 tt2 R w c k u2.1 u2.2.1 u2.2.2) H := hP
          have hD : va_D (fun q : Nat => s.heap.size ≤ q) (xw ad tt R w c k u1.1.1 u1.1.2 u1.2.1 u1.2.2 ++ mw ad2 tt2 R w c k u2.1 u2.2.1 u2.2.2) := hD
          have e1 := nx_one hok.2.1 h1 h2
          refine lv_icmp_eq (tgt := 567) hx hb dL_law_447 (by decide) (fun c9 => ?_) (fun c9 => absurd e1 c9)
          refine lv_iinc (v := nI (i + 5)) (lv' := [(3, .int (nI (i + 5))), (0, .ref b), (1, .ref (ad 0)), (2, .ref (ad2 0))]) hx hb dL_law_567 hl (k := 3) rfl (nI_add i 5) (by decide) rfl (fun ls hl => ?_)
          refine lv_goto (tgt := 28) hx hb dL_law_570 (by decide) ?_
          exact ih (i + 5) w c k u1.1.1 u1.1.2 u2.1 u1.2.1 u1.2.2 u2.2.1 u2.2.2 hok (by omega) (by omega) H locs ls hP hD hS (lv_sub hl [1, 2, 3, 0] rfl)
        · refine lv_iconst (v := 1) hx hb dL_law_407 (by decide) ?_
          refine lv_goto (tgt := 412) hx hb dL_law_408 (by decide) ?_
          refine lv_aload_n hx hb dL_law_412 rfl (lv_at hl 0 rfl) ?_
          refine lv_iload_n hx hb dL_law_413 rfl (lv_at hl 3 rfl) ?_
          refine lv_iconst (v := 3) hx hb dL_law_414 (by decide) ?_
          refine lv_iadd hx hb dL_law_415 ?_
          refine xt_eq (z := nI (i + 3)) (nI_add i 3) ?_
          refine va_sld hx hb hX hbl hbA hS (vp_in_nI (by omega) (by omega)) dL_law_416 ?_
          refine xt_eq (z := xs (i + 3)) (congrArg xs (nI_clamp (by omega))) ?_
          refine xs_Vi (wr := mw ad2 tt2 R w c k d2 wp2 wr2) (q0 := 0) (ci := 0) (nA := 3) (As := [.int (xs (i + 1)), .int 1, .int (xs (i + 3))]) (rest := []) S0 (k_X0_next l D ad tt R w c k d n wp wr hok (xs (i + 1)) 1 (xs (i + 3))) gL_law_X0_next rfl ⟨rfl, rfl⟩ (by decide +kernel) rfl ⟨Nat.le_of_ble_eq_true rfl, Nat.le_of_ble_eq_true rfl⟩ ⟨Nat.le_of_ble_eq_true rfl, Nat.le_of_ble_eq_true rfl⟩ hK1 hP hD hS hA [0, 1, 2, 3, 4, 5] [6, 7, 8, 9, 10] rfl rfl (by decide) (by decide) (by decide) rfl rfl rfl hl.1 rfl (Nat.le_of_ble_eq_true rfl) dL_law_417 (fun r1 u1 H locs h1 hP hD hS => ?_)
          have hP : va_P D vwCl (mw ad2 tt2 R w c k d2 wp2 wr2 ++ xw ad tt R w c k u1.1.1 u1.1.2 u1.2.1 u1.2.2) H := hP
          have hD : va_D (fun q : Nat => s.heap.size ≤ q) (mw ad2 tt2 R w c k d2 wp2 wr2 ++ xw ad tt R w c k u1.1.1 u1.1.2 u1.2.1 u1.2.2) := hD
          refine lv_aload_n hx hb dL_law_420 rfl (lv_at hl 2 rfl) ?_
          refine lv_aload_n hx hb dL_law_421 rfl (lv_at hl 0 rfl) ?_
          refine lv_iload_n hx hb dL_law_422 rfl (lv_at hl 3 rfl) ?_
          refine lv_iconst (v := 1) hx hb dL_law_423 (by decide) ?_
          refine lv_iadd hx hb dL_law_424 ?_
          refine xt_eq (z := nI (i + 1)) (nI_add i 1) ?_
          refine va_sld hx hb hX hbl hbA hS (vp_in_nI (by omega) (by omega)) dL_law_425 ?_
          refine xt_eq (z := xs (i + 1)) (congrArg xs (nI_clamp (by omega))) ?_
          refine lv_aload_n hx hb dL_law_426 rfl (lv_at hl 0 rfl) ?_
          refine lv_iload_n hx hb dL_law_427 rfl (lv_at hl 3 rfl) ?_
          refine lv_iconst (v := 2) hx hb dL_law_428 (by decide) ?_
          refine lv_iadd hx hb dL_law_429 ?_
          refine xt_eq (z := nI (i + 2)) (nI_add i 2) ?_
          refine va_sld hx hb hX hbl hbA hS (vp_in_nI (by omega) (by omega)) dL_law_430 ?_
          refine xt_eq (z := xs (i + 2)) (congrArg xs (nI_clamp (by omega))) ?_
          refine lv_if_eq (tgt := 438) hx hb dL_law_431 (by decide) (fun h => absurd h hz) (fun _ => ?_)
          refine lv_iconst (v := 1) hx hb dL_law_434 (by decide) ?_
          refine lv_goto (tgt := 439) hx hb dL_law_435 (by decide) ?_
          refine lv_aload_n hx hb dL_law_439 rfl (lv_at hl 0 rfl) ?_
          refine lv_iload_n hx hb dL_law_440 rfl (lv_at hl 3 rfl) ?_
          refine lv_iconst (v := 3) hx hb dL_law_441 (by decide) ?_
          refine lv_iadd hx hb dL_law_442 ?_
          refine xt_eq (z := nI (i + 3)) (nI_add i 3) ?_
          refine va_sld hx hb hX hbl hbA hS (vp_in_nI (by omega) (by omega)) dL_law_443 ?_
          refine xt_eq (z := xs (i + 3)) (congrArg xs (nI_clamp (by omega))) ?_
          refine xs_Vi (wr := xw ad tt R w c k u1.1.1 u1.1.2 u1.2.1 u1.2.2) (q0 := 0) (ci := 1) (nA := 3) (As := [.int (xs (i + 1)), .int 1, .int (xs (i + 3))]) (rest := [.int r1]) S0 (k_X1_next l D ad2 tt2 R w c k d2 wp2 wr2 hok (xs (i + 1)) 1 (xs (i + 3))) gL_law_X1_next rfl ⟨rfl, rfl⟩ (by decide +kernel) rfl ⟨Nat.le_of_ble_eq_true rfl, Nat.le_of_ble_eq_true rfl⟩ ⟨Nat.le_of_ble_eq_true rfl, Nat.le_of_ble_eq_true rfl⟩ hK2 hP hD hS hA [0, 1, 2, 3, 4] [5, 6, 7, 8, 9, 10] rfl rfl (by decide) (by decide) (by decide) rfl rfl rfl hl.1 rfl (Nat.le_of_ble_eq_true rfl) dL_law_444 (fun r2 u2 H locs h2 hP hD hS => ?_)
          have hP : va_P D vwCl (xw ad tt R w c k u1.1.1 u1.1.2 u1.2.1 u1.2.2 ++ mw ad2 tt2 R w c k u2.1 u2.2.1 u2.2.2) H := hP
          have hD : va_D (fun q : Nat => s.heap.size ≤ q) (xw ad tt R w c k u1.1.1 u1.1.2 u1.2.1 u1.2.2 ++ mw ad2 tt2 R w c k u2.1 u2.2.1 u2.2.2) := hD
          have e1 := nx_one hok.2.1 h1 h2
          refine lv_icmp_eq (tgt := 567) hx hb dL_law_447 (by decide) (fun c9 => ?_) (fun c9 => absurd e1 c9)
          refine lv_iinc (v := nI (i + 5)) (lv' := [(3, .int (nI (i + 5))), (0, .ref b), (1, .ref (ad 0)), (2, .ref (ad2 0))]) hx hb dL_law_567 hl (k := 3) rfl (nI_add i 5) (by decide) rfl (fun ls hl => ?_)
          refine lv_goto (tgt := 28) hx hb dL_law_570 (by decide) ?_
          exact ih (i + 5) w c k u1.1.1 u1.1.2 u2.1 u1.2.1 u1.2.2 u2.2.1 u2.2.2 hok (by omega) (by omega) H locs ls hP hD hS (lv_sub hl [1, 2, 3, 0] rfl)
      by_cases h8 : sw = 8
      · subst h8
        refine lv_tableIn (off := 410) (tgt := 452) hx hb dL_law_42 (by decide) (by decide) rfl (by decide) ?_
        refine lv_aload_n hx hb dL_law_452 rfl (lv_at hl 1 rfl) ?_
        refine lv_aload_n hx hb dL_law_453 rfl (lv_at hl 0 rfl) ?_
        refine lv_iload_n hx hb dL_law_454 rfl (lv_at hl 3 rfl) ?_
        refine lv_iconst (v := 1) hx hb dL_law_455 (by decide) ?_
        refine lv_iadd hx hb dL_law_456 ?_
        refine xt_eq (z := nI (i + 1)) (nI_add i 1) ?_
        refine va_sld hx hb hX hbl hbA hS (vp_in_nI (by omega) (by omega)) dL_law_457 ?_
        refine xt_eq (z := xs (i + 1)) (congrArg xs (nI_clamp (by omega))) ?_
        refine lv_aload_n hx hb dL_law_458 rfl (lv_at hl 0 rfl) ?_
        refine lv_iload_n hx hb dL_law_459 rfl (lv_at hl 3 rfl) ?_
        refine lv_iconst (v := 2) hx hb dL_law_460 (by decide) ?_
        refine lv_iadd hx hb dL_law_461 ?_
        refine xt_eq (z := nI (i + 2)) (nI_add i 2) ?_
        refine va_sld hx hb hX hbl hbA hS (vp_in_nI (by omega) (by omega)) dL_law_462 ?_
        refine xt_eq (z := xs (i + 2)) (congrArg xs (nI_clamp (by omega))) ?_
        refine lv_if_eq (tgt := 470) hx hb dL_law_463 (by decide) (fun hz => ?_) (fun hz => ?_)
        · refine lv_iconst (v := 0) hx hb dL_law_470 (by decide) ?_
          refine lv_aload_n hx hb dL_law_471 rfl (lv_at hl 0 rfl) ?_
          refine lv_iload_n hx hb dL_law_472 rfl (lv_at hl 3 rfl) ?_
          refine lv_iconst (v := 3) hx hb dL_law_473 (by decide) ?_
          refine lv_iadd hx hb dL_law_474 ?_
          refine xt_eq (z := nI (i + 3)) (nI_add i 3) ?_
          refine va_sld hx hb hX hbl hbA hS (vp_in_nI (by omega) (by omega)) dL_law_475 ?_
          refine xt_eq (z := xs (i + 3)) (congrArg xs (nI_clamp (by omega))) ?_
          refine lv_aload_n hx hb dL_law_476 rfl (lv_at hl 0 rfl) ?_
          refine lv_iload_n hx hb dL_law_477 rfl (lv_at hl 3 rfl) ?_
          refine lv_iconst (v := 4) hx hb dL_law_478 (by decide) ?_
          refine lv_iadd hx hb dL_law_479 ?_
          refine xt_eq (z := nI (i + 4)) (nI_add i 4) ?_
          refine va_sld hx hb hX hbl hbA hS (vp_in_nI (by omega) (by omega)) dL_law_480 ?_
          refine xt_eq (z := xs (i + 4)) (congrArg xs (nI_clamp (by omega))) ?_
          refine xs_Vi (wr := mw ad2 tt2 R w c k d2 wp2 wr2) (q0 := 0) (ci := 0) (nA := 4) (As := [.int (xs (i + 1)), .int 0, .int (xs (i + 3)), .int (xs (i + 4))]) (rest := []) S0 (k_X0_walk l D ad tt R w c k d n wp wr hok (xs (i + 1)) 0 (xs (i + 3)) (xs (i + 4))) gL_law_X0_walk rfl ⟨rfl, rfl⟩ (by decide +kernel) rfl ⟨Nat.le_of_ble_eq_true rfl, Nat.le_of_ble_eq_true rfl⟩ ⟨Nat.le_of_ble_eq_true rfl, Nat.le_of_ble_eq_true rfl⟩ hK1 hP hD hS hA [0, 1, 2, 3, 4, 5] [6, 7, 8, 9, 10] rfl rfl (by decide) (by decide) (by decide) rfl rfl rfl hl.1 rfl (Nat.le_of_ble_eq_true rfl) dL_law_481 (fun r1 u1 H locs h1 hP hD hS => ?_)
          have hP : va_P D vwCl (mw ad2 tt2 R w c k d2 wp2 wr2 ++ xw ad tt R w c k u1.1.1 u1.1.2 u1.2.1 u1.2.2) H := hP
          have hD : va_D (fun q : Nat => s.heap.size ≤ q) (mw ad2 tt2 R w c k d2 wp2 wr2 ++ xw ad tt R w c k u1.1.1 u1.1.2 u1.2.1 u1.2.2) := hD
          refine lv_aload_n hx hb dL_law_484 rfl (lv_at hl 2 rfl) ?_
          refine lv_aload_n hx hb dL_law_485 rfl (lv_at hl 0 rfl) ?_
          refine lv_iload_n hx hb dL_law_486 rfl (lv_at hl 3 rfl) ?_
          refine lv_iconst (v := 1) hx hb dL_law_487 (by decide) ?_
          refine lv_iadd hx hb dL_law_488 ?_
          refine xt_eq (z := nI (i + 1)) (nI_add i 1) ?_
          refine va_sld hx hb hX hbl hbA hS (vp_in_nI (by omega) (by omega)) dL_law_489 ?_
          refine xt_eq (z := xs (i + 1)) (congrArg xs (nI_clamp (by omega))) ?_
          refine lv_aload_n hx hb dL_law_490 rfl (lv_at hl 0 rfl) ?_
          refine lv_iload_n hx hb dL_law_491 rfl (lv_at hl 3 rfl) ?_
          refine lv_iconst (v := 2) hx hb dL_law_492 (by decide) ?_
          refine lv_iadd hx hb dL_law_493 ?_
          refine xt_eq (z := nI (i + 2)) (nI_add i 2) ?_
          refine va_sld hx hb hX hbl hbA hS (vp_in_nI (by omega) (by omega)) dL_law_494 ?_
          refine xt_eq (z := xs (i + 2)) (congrArg xs (nI_clamp (by omega))) ?_
          refine lv_if_eq (tgt := 502) hx hb dL_law_495 (by decide) (fun _ => ?_) (fun h => absurd hz h)
          refine lv_iconst (v := 0) hx hb dL_law_502 (by decide) ?_
          refine lv_aload_n hx hb dL_law_503 rfl (lv_at hl 0 rfl) ?_
          refine lv_iload_n hx hb dL_law_504 rfl (lv_at hl 3 rfl) ?_
          refine lv_iconst (v := 3) hx hb dL_law_505 (by decide) ?_
          refine lv_iadd hx hb dL_law_506 ?_
          refine xt_eq (z := nI (i + 3)) (nI_add i 3) ?_
          refine va_sld hx hb hX hbl hbA hS (vp_in_nI (by omega) (by omega)) dL_law_507 ?_
          refine xt_eq (z := xs (i + 3)) (congrArg xs (nI_clamp (by omega))) ?_
          refine lv_aload_n hx hb dL_law_508 rfl (lv_at hl 0 rfl) ?_
          refine lv_iload_n hx hb dL_law_509 rfl (lv_at hl 3 rfl) ?_
          refine lv_iconst (v := 4) hx hb dL_law_510 (by decide) ?_
          refine lv_iadd hx hb dL_law_511 ?_
          refine xt_eq (z := nI (i + 4)) (nI_add i 4) ?_
          refine va_sld hx hb hX hbl hbA hS (vp_in_nI (by omega) (by omega)) dL_law_512 ?_
          refine xt_eq (z := xs (i + 4)) (congrArg xs (nI_clamp (by omega))) ?_
          refine xs_Vi (wr := xw ad tt R w c k u1.1.1 u1.1.2 u1.2.1 u1.2.2) (q0 := 0) (ci := 1) (nA := 4) (As := [.int (xs (i + 1)), .int 0, .int (xs (i + 3)), .int (xs (i + 4))]) (rest := [.int r1]) S0 (k_X1_walk l D ad2 tt2 R w c k d2 wp2 wr2 hok (xs (i + 1)) 0 (xs (i + 3)) (xs (i + 4))) gL_law_X1_walk rfl ⟨rfl, rfl⟩ (by decide +kernel) rfl ⟨Nat.le_of_ble_eq_true rfl, Nat.le_of_ble_eq_true rfl⟩ ⟨Nat.le_of_ble_eq_true rfl, Nat.le_of_ble_eq_true rfl⟩ hK2 hP hD hS hA [0, 1, 2, 3, 4] [5, 6, 7, 8, 9, 10] rfl rfl (by decide) (by decide) (by decide) rfl rfl rfl hl.1 rfl (Nat.le_of_ble_eq_true rfl) dL_law_513 (fun r2 u2 H locs h2 hP hD hS => ?_)
          have hP : va_P D vwCl (xw ad tt R w c k u1.1.1 u1.1.2 u1.2.1 u1.2.2 ++ mw ad2 tt2 R w c k u2.1 u2.2.1 u2.2.2) H := hP
          have hD : va_D (fun q : Nat => s.heap.size ≤ q) (xw ad tt R w c k u1.1.1 u1.1.2 u1.2.1 u1.2.2 ++ mw ad2 tt2 R w c k u2.1 u2.2.1 u2.2.2) := hD
          have e1 := wk_one hok.2.1 h1 h2
          refine lv_icmp_eq (tgt := 567) hx hb dL_law_516 (by decide) (fun c9 => ?_) (fun c9 => absurd e1 c9)
          refine lv_iinc (v := nI (i + 5)) (lv' := [(3, .int (nI (i + 5))), (0, .ref b), (1, .ref (ad 0)), (2, .ref (ad2 0))]) hx hb dL_law_567 hl (k := 3) rfl (nI_add i 5) (by decide) rfl (fun ls hl => ?_)
          refine lv_goto (tgt := 28) hx hb dL_law_570 (by decide) ?_
          exact ih (i + 5) w c k u1.1.1 u1.1.2 u2.1 u1.2.1 u1.2.2 u2.2.1 u2.2.2 hok (by omega) (by omega) H locs ls hP hD hS (lv_sub hl [1, 2, 3, 0] rfl)
        · refine lv_iconst (v := 1) hx hb dL_law_466 (by decide) ?_
          refine lv_goto (tgt := 471) hx hb dL_law_467 (by decide) ?_
          refine lv_aload_n hx hb dL_law_471 rfl (lv_at hl 0 rfl) ?_
          refine lv_iload_n hx hb dL_law_472 rfl (lv_at hl 3 rfl) ?_
          refine lv_iconst (v := 3) hx hb dL_law_473 (by decide) ?_
          refine lv_iadd hx hb dL_law_474 ?_
          refine xt_eq (z := nI (i + 3)) (nI_add i 3) ?_
          refine va_sld hx hb hX hbl hbA hS (vp_in_nI (by omega) (by omega)) dL_law_475 ?_
          refine xt_eq (z := xs (i + 3)) (congrArg xs (nI_clamp (by omega))) ?_
          refine lv_aload_n hx hb dL_law_476 rfl (lv_at hl 0 rfl) ?_
          refine lv_iload_n hx hb dL_law_477 rfl (lv_at hl 3 rfl) ?_
          refine lv_iconst (v := 4) hx hb dL_law_478 (by decide) ?_
          refine lv_iadd hx hb dL_law_479 ?_
          refine xt_eq (z := nI (i + 4)) (nI_add i 4) ?_
          refine va_sld hx hb hX hbl hbA hS (vp_in_nI (by omega) (by omega)) dL_law_480 ?_
          refine xt_eq (z := xs (i + 4)) (congrArg xs (nI_clamp (by omega))) ?_
          refine xs_Vi (wr := mw ad2 tt2 R w c k d2 wp2 wr2) (q0 := 0) (ci := 0) (nA := 4) (As := [.int (xs (i + 1)), .int 1, .int (xs (i + 3)), .int (xs (i + 4))]) (rest := []) S0 (k_X0_walk l D ad tt R w c k d n wp wr hok (xs (i + 1)) 1 (xs (i + 3)) (xs (i + 4))) gL_law_X0_walk rfl ⟨rfl, rfl⟩ (by decide +kernel) rfl ⟨Nat.le_of_ble_eq_true rfl, Nat.le_of_ble_eq_true rfl⟩ ⟨Nat.le_of_ble_eq_true rfl, Nat.le_of_ble_eq_true rfl⟩ hK1 hP hD hS hA [0, 1, 2, 3, 4, 5] [6, 7, 8, 9, 10] rfl rfl (by decide) (by decide) (by decide) rfl rfl rfl hl.1 rfl (Nat.le_of_ble_eq_true rfl) dL_law_481 (fun r1 u1 H locs h1 hP hD hS => ?_)
          have hP : va_P D vwCl (mw ad2 tt2 R w c k d2 wp2 wr2 ++ xw ad tt R w c k u1.1.1 u1.1.2 u1.2.1 u1.2.2) H := hP
          have hD : va_D (fun q : Nat => s.heap.size ≤ q) (mw ad2 tt2 R w c k d2 wp2 wr2 ++ xw ad tt R w c k u1.1.1 u1.1.2 u1.2.1 u1.2.2) := hD
          refine lv_aload_n hx hb dL_law_484 rfl (lv_at hl 2 rfl) ?_
          refine lv_aload_n hx hb dL_law_485 rfl (lv_at hl 0 rfl) ?_
          refine lv_iload_n hx hb dL_law_486 rfl (lv_at hl 3 rfl) ?_
          refine lv_iconst (v := 1) hx hb dL_law_487 (by decide) ?_
          refine lv_iadd hx hb dL_law_488 ?_
          refine xt_eq (z := nI (i + 1)) (nI_add i 1) ?_
          refine va_sld hx hb hX hbl hbA hS (vp_in_nI (by omega) (by omega)) dL_law_489 ?_
          refine xt_eq (z := xs (i + 1)) (congrArg xs (nI_clamp (by omega))) ?_
          refine lv_aload_n hx hb dL_law_490 rfl (lv_at hl 0 rfl) ?_
          refine lv_iload_n hx hb dL_law_491 rfl (lv_at hl 3 rfl) ?_
          refine lv_iconst (v := 2) hx hb dL_law_492 (by decide) ?_
          refine lv_iadd hx hb dL_law_493 ?_
          refine xt_eq (z := nI (i + 2)) (nI_add i 2) ?_
          refine va_sld hx hb hX hbl hbA hS (vp_in_nI (by omega) (by omega)) dL_law_494 ?_
          refine xt_eq (z := xs (i + 2)) (congrArg xs (nI_clamp (by omega))) ?_
          refine lv_if_eq (tgt := 502) hx hb dL_law_495 (by decide) (fun h => absurd h hz) (fun _ => ?_)
          refine lv_iconst (v := 1) hx hb dL_law_498 (by decide) ?_
          refine lv_goto (tgt := 503) hx hb dL_law_499 (by decide) ?_
          refine lv_aload_n hx hb dL_law_503 rfl (lv_at hl 0 rfl) ?_
          refine lv_iload_n hx hb dL_law_504 rfl (lv_at hl 3 rfl) ?_
          refine lv_iconst (v := 3) hx hb dL_law_505 (by decide) ?_
          refine lv_iadd hx hb dL_law_506 ?_
          refine xt_eq (z := nI (i + 3)) (nI_add i 3) ?_
          refine va_sld hx hb hX hbl hbA hS (vp_in_nI (by omega) (by omega)) dL_law_507 ?_
          refine xt_eq (z := xs (i + 3)) (congrArg xs (nI_clamp (by omega))) ?_
          refine lv_aload_n hx hb dL_law_508 rfl (lv_at hl 0 rfl) ?_
          refine lv_iload_n hx hb dL_law_509 rfl (lv_at hl 3 rfl) ?_
          refine lv_iconst (v := 4) hx hb dL_law_510 (by decide) ?_
          refine lv_iadd hx hb dL_law_511 ?_
          refine xt_eq (z := nI (i + 4)) (nI_add i 4) ?_
          refine va_sld hx hb hX hbl hbA hS (vp_in_nI (by omega) (by omega)) dL_law_512 ?_
          refine xt_eq (z := xs (i + 4)) (congrArg xs (nI_clamp (by omega))) ?_
          refine xs_Vi (wr := xw ad tt R w c k u1.1.1 u1.1.2 u1.2.1 u1.2.2) (q0 := 0) (ci := 1) (nA := 4) (As := [.int (xs (i + 1)), .int 1, .int (xs (i + 3)), .int (xs (i + 4))]) (rest := [.int r1]) S0 (k_X1_walk l D ad2 tt2 R w c k d2 wp2 wr2 hok (xs (i + 1)) 1 (xs (i + 3)) (xs (i + 4))) gL_law_X1_walk rfl ⟨rfl, rfl⟩ (by decide +kernel) rfl ⟨Nat.le_of_ble_eq_true rfl, Nat.le_of_ble_eq_true rfl⟩ ⟨Nat.le_of_ble_eq_true rfl, Nat.le_of_ble_eq_true rfl⟩ hK2 hP hD hS hA [0, 1, 2, 3, 4] [5, 6, 7, 8, 9, 10] rfl rfl (by decide) (by decide) (by decide) rfl rfl rfl hl.1 rfl (Nat.le_of_ble_eq_true rfl) dL_law_513 (fun r2 u2 H locs h2 hP hD hS => ?_)
          have hP : va_P D vwCl (xw ad tt R w c k u1.1.1 u1.1.2 u1.2.1 u1.2.2 ++ mw ad2 tt2 R w c k u2.1 u2.2.1 u2.2.2) H := hP
          have hD : va_D (fun q : Nat => s.heap.size ≤ q) (xw ad tt R w c k u1.1.1 u1.1.2 u1.2.1 u1.2.2 ++ mw ad2 tt2 R w c k u2.1 u2.2.1 u2.2.2) := hD
          have e1 := wk_one hok.2.1 h1 h2
          refine lv_icmp_eq (tgt := 567) hx hb dL_law_516 (by decide) (fun c9 => ?_) (fun c9 => absurd e1 c9)
          refine lv_iinc (v := nI (i + 5)) (lv' := [(3, .int (nI (i + 5))), (0, .ref b), (1, .ref (ad 0)), (2, .ref (ad2 0))]) hx hb dL_law_567 hl (k := 3) rfl (nI_add i 5) (by decide) rfl (fun ls hl => ?_)
          refine lv_goto (tgt := 28) hx hb dL_law_570 (by decide) ?_
          exact ih (i + 5) w c k u1.1.1 u1.1.2 u2.1 u1.2.1 u1.2.2 u2.2.1 u2.2.2 hok (by omega) (by omega) H locs ls hP hD hS (lv_sub hl [1, 2, 3, 0] rfl)
      by_cases h9 : sw = 9
      · subst h9
        refine lv_tableIn (off := 479) (tgt := 521) hx hb dL_law_42 (by decide) (by decide) rfl (by decide) ?_
        refine lv_aload_n hx hb dL_law_521 rfl (lv_at hl 1 rfl) ?_
        refine lv_aload_n hx hb dL_law_522 rfl (lv_at hl 0 rfl) ?_
        refine lv_iload_n hx hb dL_law_523 rfl (lv_at hl 3 rfl) ?_
        refine lv_iconst (v := 1) hx hb dL_law_524 (by decide) ?_
        refine lv_iadd hx hb dL_law_525 ?_
        refine xt_eq (z := nI (i + 1)) (nI_add i 1) ?_
        refine va_sld hx hb hX hbl hbA hS (vp_in_nI (by omega) (by omega)) dL_law_526 ?_
        refine xt_eq (z := xs (i + 1)) (congrArg xs (nI_clamp (by omega))) ?_
        refine xs_Vi (wr := mw ad2 tt2 R w c k d2 wp2 wr2) (q0 := 0) (ci := 0) (nA := 1) (As := [.int (xs (i + 1))]) (rest := []) S0 (k_X0_reach l D ad tt R w c k d n wp wr hok (xs (i + 1))) gL_law_X0_reach rfl ⟨rfl, rfl⟩ (by decide +kernel) rfl ⟨Nat.le_of_ble_eq_true rfl, Nat.le_of_ble_eq_true rfl⟩ ⟨Nat.le_of_ble_eq_true rfl, Nat.le_of_ble_eq_true rfl⟩ hK1 hP hD hS hA [0, 1, 2, 3, 4, 5] [6, 7, 8, 9, 10] rfl rfl (by decide) (by decide) (by decide) rfl rfl rfl hl.1 rfl (Nat.le_of_ble_eq_true rfl) dL_law_527 (fun r1 u1 H locs h1 hP hD hS => ?_)
        have hP : va_P D vwCl (mw ad2 tt2 R w c k d2 wp2 wr2 ++ xw ad tt R w c k u1.1 u1.2 wp wr) H := hP
        have hD : va_D (fun q : Nat => s.heap.size ≤ q) (mw ad2 tt2 R w c k d2 wp2 wr2 ++ xw ad tt R w c k u1.1 u1.2 wp wr) := hD
        refine lv_aload_n hx hb dL_law_530 rfl (lv_at hl 2 rfl) ?_
        refine lv_aload_n hx hb dL_law_531 rfl (lv_at hl 0 rfl) ?_
        refine lv_iload_n hx hb dL_law_532 rfl (lv_at hl 3 rfl) ?_
        refine lv_iconst (v := 1) hx hb dL_law_533 (by decide) ?_
        refine lv_iadd hx hb dL_law_534 ?_
        refine xt_eq (z := nI (i + 1)) (nI_add i 1) ?_
        refine va_sld hx hb hX hbl hbA hS (vp_in_nI (by omega) (by omega)) dL_law_535 ?_
        refine xt_eq (z := xs (i + 1)) (congrArg xs (nI_clamp (by omega))) ?_
        refine xs_Vi (wr := xw ad tt R w c k u1.1 u1.2 wp wr) (q0 := 0) (ci := 1) (nA := 1) (As := [.int (xs (i + 1))]) (rest := [.int r1]) S0 (k_X1_reach l D ad2 tt2 R w c k d2 wp2 wr2 hok (xs (i + 1))) gL_law_X1_reach rfl ⟨rfl, rfl⟩ (by decide +kernel) rfl ⟨Nat.le_of_ble_eq_true rfl, Nat.le_of_ble_eq_true rfl⟩ ⟨Nat.le_of_ble_eq_true rfl, Nat.le_of_ble_eq_true rfl⟩ hK2 hP hD hS hA [0, 1, 2, 3, 4] [5, 6, 7, 8, 9, 10] rfl rfl (by decide) (by decide) (by decide) rfl rfl rfl hl.1 rfl (Nat.le_of_ble_eq_true rfl) dL_law_536 (fun r2 u2 H locs h2 hP hD hS => ?_)
        have hP : va_P D vwCl (xw ad tt R w c k u1.1 u1.2 wp wr ++ mw ad2 tt2 R w c k u2.1 u2.2.1 u2.2.2) H := hP
        have hD : va_D (fun q : Nat => s.heap.size ≤ q) (xw ad tt R w c k u1.1 u1.2 wp wr ++ mw ad2 tt2 R w c k u2.1 u2.2.1 u2.2.2) := hD
        have e1 := rc_one hok.2.1 h1 h2
        refine lv_icmp_eq (tgt := 567) hx hb dL_law_539 (by decide) (fun c9 => ?_) (fun c9 => absurd e1 c9)
        refine lv_iinc (v := nI (i + 5)) (lv' := [(3, .int (nI (i + 5))), (0, .ref b), (1, .ref (ad 0)), (2, .ref (ad2 0))]) hx hb dL_law_567 hl (k := 3) rfl (nI_add i 5) (by decide) rfl (fun ls hl => ?_)
        refine lv_goto (tgt := 28) hx hb dL_law_570 (by decide) ?_
        exact ih (i + 5) w c k u1.1 u1.2 u2.1 wp wr u2.2.1 u2.2.2 hok (by omega) (by omega) H locs ls hP hD hS (lv_sub hl [1, 2, 3, 0] rfl)
      by_cases h10 : sw = 10
      · subst h10
        refine lv_tableIn (off := 502) (tgt := 544) hx hb dL_law_42 (by decide) (by decide) rfl (by decide) ?_
        refine lv_aload_n hx hb dL_law_544 rfl (lv_at hl 1 rfl) ?_
        refine lv_aload_n hx hb dL_law_545 rfl (lv_at hl 0 rfl) ?_
        refine lv_iload_n hx hb dL_law_546 rfl (lv_at hl 3 rfl) ?_
        refine lv_iconst (v := 1) hx hb dL_law_547 (by decide) ?_
        refine lv_iadd hx hb dL_law_548 ?_
        refine xt_eq (z := nI (i + 1)) (nI_add i 1) ?_
        refine va_sld hx hb hX hbl hbA hS (vp_in_nI (by omega) (by omega)) dL_law_549 ?_
        refine xt_eq (z := xs (i + 1)) (congrArg xs (nI_clamp (by omega))) ?_
        refine xs_Vi (wr := mw ad2 tt2 R w c k d2 wp2 wr2) (q0 := 0) (ci := 0) (nA := 1) (As := [.int (xs (i + 1))]) (rest := []) S0 (k_X0_count l D ad tt R w c k d n wp wr hok (xs (i + 1))) gL_law_X0_count rfl ⟨rfl, rfl⟩ (by decide +kernel) rfl ⟨Nat.le_of_ble_eq_true rfl, Nat.le_of_ble_eq_true rfl⟩ ⟨Nat.le_of_ble_eq_true rfl, Nat.le_of_ble_eq_true rfl⟩ hK1 hP hD hS hA [0, 1, 2, 3, 4, 5] [6, 7, 8, 9, 10] rfl rfl (by decide) (by decide) (by decide) rfl rfl rfl hl.1 rfl (Nat.le_of_ble_eq_true rfl) dL_law_550 (fun r1 u1 H locs h1 hP hD hS => ?_)
        have hP : va_P D vwCl (mw ad2 tt2 R w c k d2 wp2 wr2 ++ xw ad tt R w c k u1.1 u1.2 wp wr) H := hP
        have hD : va_D (fun q : Nat => s.heap.size ≤ q) (mw ad2 tt2 R w c k d2 wp2 wr2 ++ xw ad tt R w c k u1.1 u1.2 wp wr) := hD
        refine lv_aload_n hx hb dL_law_553 rfl (lv_at hl 2 rfl) ?_
        refine lv_aload_n hx hb dL_law_554 rfl (lv_at hl 0 rfl) ?_
        refine lv_iload_n hx hb dL_law_555 rfl (lv_at hl 3 rfl) ?_
        refine lv_iconst (v := 1) hx hb dL_law_556 (by decide) ?_
        refine lv_iadd hx hb dL_law_557 ?_
        refine xt_eq (z := nI (i + 1)) (nI_add i 1) ?_
        refine va_sld hx hb hX hbl hbA hS (vp_in_nI (by omega) (by omega)) dL_law_558 ?_
        refine xt_eq (z := xs (i + 1)) (congrArg xs (nI_clamp (by omega))) ?_
        refine xs_Vi (wr := xw ad tt R w c k u1.1 u1.2 wp wr) (q0 := 0) (ci := 1) (nA := 1) (As := [.int (xs (i + 1))]) (rest := [.int r1]) S0 (k_X1_count l D ad2 tt2 R w c k d2 wp2 wr2 hok (xs (i + 1))) gL_law_X1_count rfl ⟨rfl, rfl⟩ (by decide +kernel) rfl ⟨Nat.le_of_ble_eq_true rfl, Nat.le_of_ble_eq_true rfl⟩ ⟨Nat.le_of_ble_eq_true rfl, Nat.le_of_ble_eq_true rfl⟩ hK2 hP hD hS hA [0, 1, 2, 3, 4] [5, 6, 7, 8, 9, 10] rfl rfl (by decide) (by decide) (by decide) rfl rfl rfl hl.1 rfl (Nat.le_of_ble_eq_true rfl) dL_law_559 (fun r2 u2 H locs h2 hP hD hS => ?_)
        have hP : va_P D vwCl (xw ad tt R w c k u1.1 u1.2 wp wr ++ mw ad2 tt2 R w c k u2 wp2 wr2) H := hP
        have hD : va_D (fun q : Nat => s.heap.size ≤ q) (xw ad tt R w c k u1.1 u1.2 wp wr ++ mw ad2 tt2 R w c k u2 wp2 wr2) := hD
        have e1 := ct_one h1 h2
        refine lv_icmp_eq (tgt := 567) hx hb dL_law_562 (by decide) (fun c9 => ?_) (fun c9 => absurd e1 c9)
        refine lv_iinc (v := nI (i + 5)) (lv' := [(3, .int (nI (i + 5))), (0, .ref b), (1, .ref (ad 0)), (2, .ref (ad2 0))]) hx hb dL_law_567 hl (k := 3) rfl (nI_add i 5) (by decide) rfl (fun ls hl => ?_)
        refine lv_goto (tgt := 28) hx hb dL_law_570 (by decide) ?_
        exact ih (i + 5) w c k u1.1 u1.2 u2 wp wr wp2 wr2 hok (by omega) (by omega) H locs ls hP hD hS (lv_sub hl [1, 2, 3, 0] rfl)
      refine lv_tableOut (tgt := 567) hx hb dL_law_42 (Or.inr (by rw [nI_toInt (by omega)]; omega)) (by decide) ?_
      refine lv_iinc (v := nI (i + 5)) (lv' := [(3, .int (nI (i + 5))), (0, .ref b), (1, .ref (ad 0)), (2, .ref (ad2 0))]) hx hb dL_law_567 hl (k := 3) rfl (nI_add i 5) (by decide) rfl (fun ls hl => ?_)
      refine lv_goto (tgt := 28) hx hb dL_law_570 (by decide) ?_
      exact ih (i + 5) w c k d n d2 wp wr wp2 wr2 hok (by omega) (by omega) H locs ls hP hD hS (lv_sub hl [1, 2, 3, 0] rfl)
end
section
set_option maxHeartbeats 8000000 in
set_option maxRecDepth 100000 in
/-- the law, from its entry -/
theorem whole_start {p : Program} {e : Env} {s : State} {m : MethodId} {below : List Frame} {meth : Method} {c : Code} (l : Launch) {b L : Nat} {xs : Nat → Int32} (hL : L ≤ 2561) (C0 : lw_At p s m meth c b L xs) : W p l e room_1 s m #[Value.ref b] below meth c s.heap [] 0 0 (lw_Z below #[Value.ref b] s) (entryFrame m ([Value.ref b] : List Value).toArray 4) := by
  obtain ⟨hx, hb, hr, hml, hown, hts, hX, hbl, hlocks, hgv⟩ := id C0
  have hts : ∀ w ∈ wsL_law, w.before #[Value.ref b] s = true := fun w h => hts w (wsL_law_in w h)
  have hA : ∀ q : Nat, s.heap.size ≤ q → (fun q : Nat => s.heap.size ≤ q) q := fun _ h => h
  have hbA : ¬ (fun q : Nat => s.heap.size ≤ q) b := Nat.not_le.mpr hbl
  have hown : s.vm.findClass RL = some m.cls := hown
  have S0 : CallFix p m c cL_law 4 s #[Value.ref b] wsL_law RL := ⟨hx, hb, hml, hown, hts⟩
  obtain ⟨c0, iS0, hKn0⟩ := u_known (C := RX0) (T := TX0) (N := 8) (n := 8) hts inlX0 (hts (.instantiable RX0 8) (by decide +kernel))
  obtain ⟨c1, iS1, hKn1⟩ := u_known (C := RX1) (T := TX1) (N := 7) (n := 7) hts inlX1 (hts (.instantiable RX1 7) (by decide +kernel))
  obtain ⟨D, hKc⟩ : ∃ D : va_G, ∀ (k : Nat) (q : vw_C), vwCl[k]? = some q → u_Kn s q.1 q.2.1 q.2.2 (D.1 k) (D.2 k) := by
    refine ⟨(fun k => if k = 0 then c0 else c1, fun k => if k = 0 then iS0 else iS1), ?_⟩
    intro k q hq
    match k, hq with
    | 0, hq => cases hq; exact hKn0
    | 1, hq => cases hq; exact hKn1
    | k + 2, hq => simp [vwCl] at hq
  have hS : va_S (fun q : Nat => s.heap.size ≤ q) s.heap s.heap [] := va_S.rf
  have hK : va_K D vwCl [] s := ⟨hKc, fun k q h => by simp at h⟩
  have hP : va_P D vwCl [] s.heap := fun k q h => by simp at h
  have hD : va_D (fun q : Nat => s.heap.size ≤ q) [] := ⟨fun i j p q h => by simp at h, fun k q h => by simp at h⟩
  have hl := lv_entry ([.ref b]) (n := 4) (Nat.le_of_ble_eq_true rfl)
  rw [lg_entry_eq]
  generalize (lg_sl ([.ref b]) ++ List.replicate (4 - (lg_sl ([.ref b])).length) Slot.unset).toArray = ls at hl ⊢
  have hl : lv_has ls 4 [(0, .ref b)] := hl
  obtain ⟨cv, hcv⟩ : ∃ v : Int32, v = if 0 < L then xs 0 else 0 := ⟨_, rfl⟩
  obtain ⟨locs, hle⟩ : ∃ z : List Loc, z = [] := ⟨_, rfl⟩
  rw [← hle] at hS ⊢
  refine va_new (ci := 0) (fs := [.int 0, .null, .null, .null, .null, .null, .int 0, .int 0]) (C := RX0) (T := TX0) (N := 8) hx hb hts inlX0 tyX0 tyX0_ok hown (hts (.classLink RL 7 RX0) (by decide +kernel)) (hts (.instantiable RX0 8) (by decide +kernel)) (hts (.initialized RX0) (by decide +kernel)) hK hP hD hS hA rfl (fun j hj => by rcases (show j = 0 ∨ j = 1 ∨ j = 2 ∨ j = 3 ∨ j = 4 ∨ j = 5 ∨ j = 6 ∨ j = 7 by omega) with rfl | rfl | rfl | rfl | rfl | rfl | rfl | rfl <;> rfl) (Nat.le_of_ble_eq_true rfl) (Nat.le_of_ble_eq_true rfl) dL_law_0 (fun q0 H hP hD hS => ?_)
  have hP : va_P D vwCl ([(q0, .inr (0, [.int 0, .null, .null, .null, .null, .null, .int 0, .int 0]))]) H := hP
  have hD : va_D (fun q : Nat => s.heap.size ≤ q) ([(q0, .inr (0, [.int 0, .null, .null, .null, .null, .null, .int 0, .int 0]))]) := hD
  refine W.widen (k := 1) (n := 8) (by omega) (by omega) ?_
  refine lv_dup hx hb dL_law_3 rfl ?_
  refine lv_aload_n hx hb dL_law_4 rfl (lv_at hl 0 rfl) ?_
  refine lv_iconst (v := 0) hx hb dL_law_5 (by decide) ?_
  have hr9 := va_runS (As := [.ref b, .int 0]) (rest := [.ref q0, .ref q0]) S0 (k_L_cell l b L xs hL H.size) (va_cwS 2 hts gL_law_L_cell rfl rfl rfl (by decide +kernel) ⟨Nat.le_of_ble_eq_true rfl, Nat.le_of_ble_eq_true rfl⟩) (H := H) (locs := locs) (cells := 1) (slots := 8) (g := F0 m 6 ls [.int 0, .ref b, .ref q0, .ref q0]) (R := room_1) (e := e) (below := below) (meth := meth) ⟨fun a U g mk q => ⟨q.1, q.2.1, q.2.2.1, va_X.moved (u := U) (U := U.calling g mk a) (Vm.Alike.refl U.vm) q.2.2.2⟩, fun U hU hW => ⟨rfl, by rw [hU], Nat.lt_of_lt_of_le hbl hS.1, by rw [hU]; exact (hX.kept (hS.2.1 b hbl hbA)).moved hW.alike⟩⟩ rfl rfl hl.1 rfl (lv_room (Nat.le_of_ble_eq_true rfl)) dL_law_6 ⟨Nat.le_of_ble_eq_true rfl, Nat.le_of_ble_eq_true rfl⟩
  have hF9 := va_free (wc := []) hD hS hA [] rfl
  refine va_calli hr9 hS (fun q _ h => hF9 q h) hF9 (fun rv u t H1 locs1 ht hvm hw hB hz1 hk1 hSz => ?_)
  have hPz : va_P D vwCl ([(q0, .inr (0, [.int 0, .null, .null, .null, .null, .null, .int 0, .int 0]))]) H1 := fun k q hq => ((hP k q hq).kept (hk1 q.1 (hP k q hq).lt (fun h => by
    rcases h with ⟨k2, e2, h⟩ | h
    · simp at h
    · exact absurd (hP k q hq).lt (by omega))))
  clear hP hS hr9 hF9 hk1 hz1
  obtain ⟨H, hHe⟩ : ∃ z, z = H1 := ⟨_, rfl⟩
  obtain ⟨locs, hle⟩ : ∃ z, z = locs1 := ⟨_, rfl⟩
  have hP := hPz
  have hS := hSz
  rw [← hHe] at hP hS ⊢
  rw [← hle] at hS ⊢
  have hw : rv = cv := hw.trans hcv.symm
  rw [hw]
  have hFc := va_free (wc := [(q0, .inr (0, [.int 0, .null, .null, .null, .null, .null, .int 0, .int 0]))]) hD hS hA [0] rfl
  have hPc := xPs (wc := [(q0, .inr (0, [.int 0, .null, .null, .null, .null, .null, .int 0, .int 0]))]) hP [0] rfl
  have hDc := hD.sub (ws' := [(q0, .inr (0, [.int 0, .null, .null, .null, .null, .null, .int 0, .int 0]))]) [0] (by decide) rfl
  refine va_callv (va_runI (As := [.int cv]) (rest := [.ref q0]) S0 (k_X0_init l D q0 cv H.size) (cwI 1 hts gL_law_X0_init rfl rfl rfl (hts (.initialized RX0) (by decide +kernel)) (hts (.methodLink RL 15 yX0_init) (by decide +kernel)) (hts (.instanceMethod yX0_init) (by decide +kernel)) rfl (by decide +kernel) ⟨Nat.le_of_ble_eq_true rfl, Nat.le_of_ble_eq_true rfl⟩) ⟨xPre_blind, fun U hU hW => ⟨rfl, by rw [hU], by rw [hU]; exact hPc, va_K.moved hW.alike hK, hDc.weaken (fun _ _ _ _ => trivial)⟩⟩ rfl rfl hl.1 rfl (lv_room (Nat.le_of_ble_eq_true rfl)) dL_law_9 ⟨Nat.le_of_ble_eq_true rfl, Nat.le_of_ble_eq_true rfl⟩) hS (fun q _ h => hFc q h) hFc (fun u t H1 locs1 ht hvm hw hB hz1 hk1 hS => ?_)
  obtain ⟨ad, tt⟩ := u
  obtain ⟨hPn, hK1, hDn⟩ := hB
  rw [ht] at hPn
  have hK1 := va_K.moved hvm.symm hK1
  have hw : ad 0 = q0 := hw
  subst hw
  obtain ⟨hP, hD⟩ := va_join (wr := []) (w1 := xw ad tt (clampR cv) w0 z0 z0 z0 z0 (-1) (-1)) hP hD [0] [] rfl rfl (by decide) (by decide) hk1 hFc hPn hDn
  clear hPn hDn hPc hDc hFc hk1 hz1
  obtain ⟨H, hHe⟩ : ∃ z, z = H1 := ⟨_, rfl⟩
  rw [← hHe] at hP hS ⊢
  obtain ⟨locs, hle⟩ : ∃ z, z = locs1 := ⟨_, rfl⟩
  rw [← hle] at hS ⊢
  have hP : va_P D vwCl (xw ad tt (clampR cv) w0 z0 z0 z0 z0 (-1) (-1)) H := hP
  have hD : va_D (fun q : Nat => s.heap.size ≤ q) (xw ad tt (clampR cv) w0 z0 z0 z0 z0 (-1) (-1)) := hD
  have hK1 : va_K D vwCl (tyX tt) s := hK1
  refine W.widen (k := 6) (n := 130) (Nat.le_of_ble_eq_true rfl) (Nat.le_of_ble_eq_true rfl) ?_
  refine lv_astore_n (lv' := [(1, .ref (ad 0)), (0, .ref b)]) hx hb dL_law_12 rfl hl (by decide) rfl (fun ls hl => ?_)
  refine va_new (ci := 1) (fs := [.int 0, .null, .null, .null, .null, .int 0, .int 0]) (C := RX1) (T := TX1) (N := 7) hx hb hts inlX1 tyX1 tyX1_ok hown (hts (.classLink RL 18 RX1) (by decide +kernel)) (hts (.instantiable RX1 7) (by decide +kernel)) (hts (.initialized RX1) (by decide +kernel)) hK hP hD hS hA rfl (fun j hj => by rcases (show j = 0 ∨ j = 1 ∨ j = 2 ∨ j = 3 ∨ j = 4 ∨ j = 5 ∨ j = 6 by omega) with rfl | rfl | rfl | rfl | rfl | rfl | rfl <;> rfl) (Nat.le_of_ble_eq_true rfl) (Nat.le_of_ble_eq_true rfl) dL_law_13 (fun q1 H hP hD hS => ?_)
  have hP : va_P D vwCl (xw ad tt (clampR cv) w0 z0 z0 z0 z0 (-1) (-1) ++ [(q1, .inr (1, [.int 0, .null, .null, .null, .null, .int 0, .int 0]))]) H := hP
  have hD : va_D (fun q : Nat => s.heap.size ≤ q) (xw ad tt (clampR cv) w0 z0 z0 z0 z0 (-1) (-1) ++ [(q1, .inr (1, [.int 0, .null, .null, .null, .null, .int 0, .int 0]))]) := hD
  refine W.widen (k := 7) (n := 137) (Nat.le_of_ble_eq_true rfl) (Nat.le_of_ble_eq_true rfl) ?_
  refine lv_dup hx hb dL_law_16 rfl ?_
  refine lv_aload_n hx hb dL_law_17 rfl (lv_at hl 1 rfl) ?_
  refine lv_iconst (v := 0) hx hb dL_law_18 (by decide) ?_
  have hr9 := va_runS (As := [.ref b, .int 0]) (rest := [.ref q1, .ref q1]) S0 (k_L_cell l b L xs hL H.size) (va_cwS 2 hts gL_law_L_cell rfl rfl rfl (by decide +kernel) ⟨Nat.le_of_ble_eq_true rfl, Nat.le_of_ble_eq_true rfl⟩) (H := H) (locs := locs) (cells := 7) (slots := 137) (g := F0 m 19 ls [.int 0, .ref b, .ref q1, .ref q1]) (R := room_1) (e := e) (below := below) (meth := meth) ⟨fun a U g mk q => ⟨q.1, q.2.1, q.2.2.1, va_X.moved (u := U) (U := U.calling g mk a) (Vm.Alike.refl U.vm) q.2.2.2⟩, fun U hU hW => ⟨rfl, by rw [hU], Nat.lt_of_lt_of_le hbl hS.1, by rw [hU]; exact (hX.kept (hS.2.1 b hbl hbA)).moved hW.alike⟩⟩ rfl rfl hl.1 rfl (lv_room (Nat.le_of_ble_eq_true rfl)) dL_law_19 ⟨Nat.le_of_ble_eq_true rfl, Nat.le_of_ble_eq_true rfl⟩
  have hF9 := va_free (wc := []) hD hS hA [] rfl
  refine va_calli hr9 hS (fun q _ h => hF9 q h) hF9 (fun rv u t H1 locs1 ht hvm hw hB hz1 hk1 hSz => ?_)
  have hPz : va_P D vwCl (xw ad tt (clampR cv) w0 z0 z0 z0 z0 (-1) (-1) ++ [(q1, .inr (1, [.int 0, .null, .null, .null, .null, .int 0, .int 0]))]) H1 := fun k q hq => ((hP k q hq).kept (hk1 q.1 (hP k q hq).lt (fun h => by
    rcases h with ⟨k2, e2, h⟩ | h
    · simp at h
    · exact absurd (hP k q hq).lt (by omega))))
  clear hP hS hr9 hF9 hk1 hz1
  obtain ⟨H, hHe⟩ : ∃ z, z = H1 := ⟨_, rfl⟩
  obtain ⟨locs, hle⟩ : ∃ z, z = locs1 := ⟨_, rfl⟩
  have hP := hPz
  have hS := hSz
  rw [← hHe] at hP hS ⊢
  rw [← hle] at hS ⊢
  have hw : rv = cv := hw.trans hcv.symm
  rw [hw]
  have hFc := va_free (wc := [(q1, .inr (1, [.int 0, .null, .null, .null, .null, .int 0, .int 0]))]) hD hS hA [6] rfl
  have hPc := xPs (wc := [(q1, .inr (1, [.int 0, .null, .null, .null, .null, .int 0, .int 0]))]) hP [6] rfl
  have hDc := hD.sub (ws' := [(q1, .inr (1, [.int 0, .null, .null, .null, .null, .int 0, .int 0]))]) [6] (by decide) rfl
  refine va_callv (va_runI (As := [.int cv]) (rest := [.ref q1]) S0 (k_X1_init l D q1 cv H.size) (cwI 1 hts gL_law_X1_init rfl rfl rfl (hts (.initialized RX1) (by decide +kernel)) (hts (.methodLink RL 20 yX1_init) (by decide +kernel)) (hts (.instanceMethod yX1_init) (by decide +kernel)) rfl (by decide +kernel) ⟨Nat.le_of_ble_eq_true rfl, Nat.le_of_ble_eq_true rfl⟩) ⟨xPre_blind, fun U hU hW => ⟨rfl, by rw [hU], by rw [hU]; exact hPc, va_K.moved hW.alike hK, hDc.weaken (fun _ _ _ _ => trivial)⟩⟩ rfl rfl hl.1 rfl (lv_room (Nat.le_of_ble_eq_true rfl)) dL_law_22 ⟨Nat.le_of_ble_eq_true rfl, Nat.le_of_ble_eq_true rfl⟩) hS (fun q _ h => hFc q h) hFc (fun u t H1 locs1 ht hvm hw hB hz1 hk1 hS => ?_)
  obtain ⟨ad2, tt2⟩ := u
  obtain ⟨hPn, hK2, hDn⟩ := hB
  rw [ht] at hPn
  have hK2 := va_K.moved hvm.symm hK2
  have hw : ad2 0 = q1 := hw
  subst hw
  obtain ⟨hP, hD⟩ := va_join (wr := xw ad tt (clampR cv) w0 z0 z0 z0 z0 (-1) (-1)) (w1 := mw ad2 tt2 (clampR cv) w0 z0 z0 z0 0 0) hP hD [6] [0, 1, 2, 3, 4, 5] rfl rfl (by decide) (by decide) hk1 hFc hPn hDn
  clear hPn hDn hPc hDc hFc hk1 hz1
  obtain ⟨H, hHe⟩ : ∃ z, z = H1 := ⟨_, rfl⟩
  rw [← hHe] at hP hS ⊢
  obtain ⟨locs, hle⟩ : ∃ z, z = locs1 := ⟨_, rfl⟩
  rw [← hle] at hS ⊢
  have hP : va_P D vwCl (xw ad tt (clampR cv) w0 z0 z0 z0 z0 (-1) (-1) ++ mw ad2 tt2 (clampR cv) w0 z0 z0 z0 0 0) H := hP
  have hD : va_D (fun q : Nat => s.heap.size ≤ q) (xw ad tt (clampR cv) w0 z0 z0 z0 z0 (-1) (-1) ++ mw ad2 tt2 (clampR cv) w0 z0 z0 z0 0 0) := hD
  have hK2 : va_K D vwCl (tyM tt2) s := hK2
  refine W.widen (k := 11) (n := 243) (Nat.le_of_ble_eq_true rfl) (Nat.le_of_ble_eq_true rfl) ?_
  refine lv_astore_n (lv' := [(2, .ref (ad2 0)), (1, .ref (ad 0)), (0, .ref b)]) hx hb dL_law_25 rfl hl (by decide) rfl (fun ls hl => ?_)
  refine lv_iconst (v := 1) hx hb dL_law_26 (by decide) ?_
  refine lv_istore_n (lv' := [(3, .int 1), (2, .ref (ad2 0)), (1, .ref (ad 0)), (0, .ref b)]) hx hb dL_law_27 rfl hl (by decide) rfl (fun ls hl => ?_)
  exact law_loop (R := clampR cv) hL C0 hK1 hK2 _ 1 w0 z0 z0 z0 z0 z0 (-1) (-1) 0 0 (ok_0 cv) (by omega) (Nat.lt_succ_self _) H locs ls hP hD hS (lv_sub hl [3, 2, 1, 0] rfl)
end
section
set_option maxHeartbeats 4000000 in
theorem lw_walk (l : Launch) (b : Addr) (xs : List Int32) : MetFree l x (headSpec (Jvm.Cond.code x code maxLocals ret :: tables_1) room_1) (lw_P b xs) (fun _ _ _ _ _ => True) lw_Q := by
  refine MetFree.of_bodyS (code := code) (maxLocals := maxLocals) (ret := ret) (by decide) ?_ ?_
  · intro args s m h hn
    obtain ⟨meth, c, h1, h2, h3, h4, h5, h6, -, -⟩ := Cond.code_spec hn (atoms_spec (ws := Jvm.Cond.code x code maxLocals ret :: tables_1) h _ List.mem_cons_self)
    exact ⟨meth, c, h1, h2, h3, h4, h5, h6⟩
  · intro p e s m args below meth c s₁ B hml0 hP _
    obtain ⟨rfl, hx, hbd, hgv⟩ := hP
    obtain ⟨scr, harrAt, hlist, hof, hsmall⟩ := hx
    obtain ⟨hcb, hkn, -, -⟩ := State.arrayAt?_spec harrAt
    have hown : s.vm.findClass R_law = some m.cls := findClass_of_methodNamed B.named
    have hts0 : ∀ c ∈ (Jvm.Cond.code x code maxLocals ret :: tables_1), c.before #[Value.ref b] s = true := atoms_spec (ws := Jvm.Cond.code x code maxLocals ret :: tables_1) B.pre
    have hts : ∀ w ∈ lw_tbl, w.before #[Value.ref b] s = true := k2_hts_sels lw_privs (fun w hw => hts0 w (List.mem_cons_of_mem _ hw)) lw_privs_ok
    have hml : c.maxLocals = 4 := B.maxLocals_eq (hts0 _ List.mem_cons_self)
    have X₀ : Stand p l e room_1 s m #[Value.ref b] below meth c s₁ [] 0 0 := Stand.of_body B
    have hh0 : s₁.heap = s.heap := by rw [B.state]; rfl
    have hsz : scr.slots.size = xs.length := by rw [← Array.length_toList, hlist, List.length_map]
    have hval : ∀ j : Nat, j < xs.length → scr.slots[j]? = some (.int (xs.getD j 0)) := fun j hj => by
      rw [← Array.getElem?_toList, hlist]
      simp [hj]
    have hbl : b < s.heap.size := (Array.getElem?_eq_some_iff.mp hcb).1
    have hX : va_X b xs.length (fun j => xs.getD j 0) s s.heap := ⟨scr, hcb, hof, hkn, hsz, hval⟩
    have K : W p l e room_1 s m #[Value.ref b] below meth c s₁.heap [] 0 0 (lw_Z below #[Value.ref b] s) (entryFrame m ([Value.ref b] : List Value).toArray 4) := by
      rw [hh0]
      exact whole_start l hbd ⟨B.exec, B.bytes, B.returns, hml, hown, hts, hX, hbl, B.notSynchronized, hgv⟩
    obtain ⟨t, a1, o, b1, b2, b3⟩ := K s₁ rfl X₀
    exact ⟨t, o, a1, b1, b2, b3⟩
theorem lw_pre_spec {args : Array Value} {s : State} (h : (Jvm.Cond.and given_1 narrow_1).before args s = true) (hr : rest_1_c.before args s = true) : ∃ (b : Addr) (xs : List Int32), lw_P b xs args s := by
  have hs := flat_of_before _ h
  have hq := flat_of_before _ hr
  have hc : (Cond.count 1).before args s = true := hs _ (by decide +kernel)
  have harr : (Cond.arrayOf (.arg 0) .int).before args s = true := hs _ (by decide +kernel)
  have hle : (Cond.le (.length (.arg 0)) (.int 2561)).before args s = true := hs _ (by decide +kernel)
  have hlen : (Cond.isInt (.length (.arg 0))).before args s = true := hq _ (by decide +kernel)
  have hall : (Cond.all (.arg 0) (.isInt (.elem (.arg 0) (.index 0)))).before args s = true := hq _ (by decide +kernel)
  obtain ⟨b, xs, hb, hx⟩ := State.ints_of_pre rfl harr hlen hall
  have hsm : xs.length < 2 ^ 31 := hx.choose_spec.2.2.2
  have hev : (Term.length (.arg 0)).eval args s none [] s = some (.int xs.length.toInt32) := hx.length_eval hb
  have hv := Cond.le_ints hev (show (Term.int 2561).eval args s none [] s = some (.int 2561) from rfl)
  have hd : xs.length.toInt32 ≤ 2561 := by
    simpa [Cond.before, Cond.holds, hv] using hle
  have hN : xs.length ≤ 2561 := (Int32.ofNat_le_ofNat hsm (by decide)).mp (show Int32.ofNat xs.length ≤ Int32.ofNat 2561 from hd)
  exact ⟨b, xs, Cond.one_arg hc (show args[0]? = some (.ref b) from hb), hx, hN, h⟩
theorem lw_comes (l : Launch) : Comes l x (Jvm.Cond.code x code maxLocals ret :: tables_1) room_1 (fun tb e args s => Calls_1 tb e args s ∧ rest_1 tb e args s ∧ Pre_1 tb e args s)
    (fun _ _ args s o t => lw_Q args s o t) := by
  intro p e ha hc hk s m args below hf hfit hheap happ hpre
  obtain ⟨b, xs, hP⟩ := lw_pre_spec hpre.2.2 hpre.2.1
  obtain ⟨k, o, h1, h2, h3, hQ⟩ := lw_walk l b xs p e ha hc hk s m args below hf ((Spec.applies_iff_loose hf).mp happ).1 hP trivial
  exact ⟨k, o, h1, h2, h3, hQ⟩
theorem lw_frame {s t : State} {o : Outcome} {args : Array Value} (h : Framed s o t [] 11 243) :
    Framed s o t (fieldLocs frame_1_writes args s ++ arrayLocs frame_1_arrays args s ++ staticLocs frame_1_statics s) 11 243 := h
theorem lw_limb (L : Cond) (hL : ∀ (args : Array Value) (s t : State), L.after args s (.returned (some (.int 1))) t = true) :
    ArmFor flags0 classFile x code maxLocals ret World_1 tables_1 room_1 Calls_1 rest_1 Pre_1
      (fun tb e a s o t => postC L tb e a s o t ∧ Framed s o t (fieldLocs frame_1_writes a s ++ arrayLocs frame_1_arrays a s ++ staticLocs frame_1_statics s) 11 243) := by
  intro l _ _ _ p e ha hc hk s m args below hf hfit hheap happ hpre
  obtain ⟨k, o, h1, h2, h3, rfl, hF⟩ := lw_comes l p e ha hc hk s m args below hf hfit hheap happ hpre
  exact ⟨k, _, h1, h2, h3, hL args s _, lw_frame hF⟩
theorem i_vc : Claimed_1_1 ∧ Claimed_1_2 := ⟨lw_limb limb_1_1 (fun args s t => by simp [limb_1_1, Cond.after, Cond.holds, Cond.value]), lw_limb limb_1_2 (fun args s t => Cond.after_iff.mpr (by
  first | (rw [show limb_1_2 = Cond.eq .result (.int 1) from rfl, Cond.eq_ints (x := 1) (y := 1) rfl rfl]; simp; done) | (simp [limb_1_2, Cond.value, Term.eval]; done)))⟩
end
