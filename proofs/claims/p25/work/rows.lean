section
-- ===== PART A: goes FIRST, ahead of the names: the tables' words, and 'selects' of the private methods out of them =====
/-- a private method of a class that the tables say can be made, by its rows of tables_1 -/
def lw_okq (q : MethodName × Nat) : Prop := (q.1.cls ≠ "java/lang/invoke/MethodHandle" ∧ q.1.cls ≠ "java/lang/invoke/VarHandle") ∧ Cond.instantiable q.1.cls q.2 ∈ tables_1 ∧ Cond.privateMethod q.1 ∈ tables_1 ∧ Cond.instanceMethod q.1 ∈ tables_1
theorem lw_p0 : lw_okq (⟨"RingPlanes$History", "dropOldest", "()V"⟩, 3) := ⟨⟨by decide +kernel, by decide +kernel⟩, List.mem_of_getElem? (i := 60) (by decide +kernel), List.mem_of_getElem? (i := 141) (by decide +kernel), List.mem_of_getElem? (i := 142) (by decide +kernel)⟩
theorem lw_p1 : lw_okq (⟨"RingPlanes$Ring", "isSquare", "(I)Z"⟩, 2) := ⟨⟨by decide +kernel, by decide +kernel⟩, List.mem_of_getElem? (i := 25) (by decide +kernel), List.mem_of_getElem? (i := 214) (by decide +kernel), List.mem_of_getElem? (i := 215) (by decide +kernel)⟩
def lw_privs_1 : List (MethodName × Nat) := [(⟨"RingPlanes$History", "dropOldest", "()V"⟩, 3), (⟨"RingPlanes$Ring", "isSquare", "(I)Z"⟩, 2)]
theorem lw_r1 : ∀ q ∈ lw_privs_1, lw_okq q := List.forall_mem_cons.mpr ⟨lw_p0, List.forall_mem_cons.mpr ⟨lw_p1, fun _ h => absurd h List.not_mem_nil⟩⟩
def lw_privs : List (MethodName × Nat) := lw_privs_1
def lw_tbl : List Cond := k2_sels lw_privs ++ tables_1
theorem lw_privs_ok : ∀ q ∈ lw_privs, lw_okq q := lw_r1
/-- the streams that the claim lets the run draw from -/
abbrev lw_cs : List Choice := [Jvm.Choice.named "NaN.bits"]
theorem lw_bits : nanBits ∈ lw_cs := by first | decide | exact List.mem_cons_self | simp [lw_cs, nanBits]
/-! the classes: names, fields (as the claim prints them) -/
def RX0 : String := "RingPlanes$History"
def TX0 : u_T := fun k => match k with
  | 0 => ("RingPlanes$History", "sizes", "[I", true)
  | 1 => ("RingPlanes$History", "products", "[I", true)
  | _ => ("RingPlanes$History", "count", "I", false)
def tyX0 : Nat → FieldType := fun k => match k with
  | 0 => .array .int
  | 1 => .array .int
  | _ => .int
theorem nmX0 : ∀ a, a < 3 → ∀ b, b < 3 → a ≠ b → (TX0 a).2.1 ≠ (TX0 b).2.1 := by decide +kernel
theorem tyX0_ok : ∀ k, k < 3 → parseFieldDescriptor (TX0 k).2.2.1 = some (tyX0 k) := by decide +kernel
def RX1 : String := "RingPlanes$Laws"
def TX1 : u_T := fun k => match k with
  | _ => ("", "", "", false)
def tyX1 : Nat → FieldType := fun k => match k with
  | _ => .int
theorem nmX1 : ∀ a, a < 0 → ∀ b, b < 0 → a ≠ b → (TX1 a).2.1 ≠ (TX1 b).2.1 := by decide +kernel
theorem tyX1_ok : ∀ k, k < 0 → parseFieldDescriptor (TX1 k).2.2.1 = some (tyX1 k) := by decide +kernel
def RX2 : String := "RingPlanes$Mirrors"
def TX2 : u_T := fun k => match k with
  | 0 => ("RingPlanes$Mirrors", "rays", "[I", true)
  | 1 => ("RingPlanes$Mirrors", "feet", "[I", true)
  | 2 => ("RingPlanes$Mirrors", "images", "[I", true)
  | 3 => ("RingPlanes$Mirrors", "end", "I", false)
  | 4 => ("RingPlanes$Mirrors", "baseRay", "I", false)
  | _ => ("RingPlanes$Mirrors", "helper", "I", false)
def tyX2 : Nat → FieldType := fun k => match k with
  | 0 => .array .int
  | 1 => .array .int
  | 2 => .array .int
  | 3 => .int
  | 4 => .int
  | _ => .int
theorem nmX2 : ∀ a, a < 6 → ∀ b, b < 6 → a ≠ b → (TX2 a).2.1 ≠ (TX2 b).2.1 := by decide +kernel
theorem tyX2_ok : ∀ k, k < 6 → parseFieldDescriptor (TX2 k).2.2.1 = some (tyX2 k) := by decide +kernel
def RX3 : String := "RingPlanes$Plane"
def TX3 : u_T := fun k => match k with
  | _ => ("RingPlanes$Plane", "ring", "LRingPlanes$Ring;", true)
def tyX3 : Nat → FieldType := fun k => match k with
  | _ => .object "RingPlanes$Ring"
theorem nmX3 : ∀ a, a < 1 → ∀ b, b < 1 → a ≠ b → (TX3 a).2.1 ≠ (TX3 b).2.1 := by decide +kernel
theorem tyX3_ok : ∀ k, k < 1 → parseFieldDescriptor (TX3 k).2.2.1 = some (tyX3 k) := by decide +kernel
def RX4 : String := "RingPlanes$Ring"
def TX4 : u_T := fun k => match k with
  | 0 => ("RingPlanes$Ring", "size", "I", false)
  | _ => ("RingPlanes$Ring", "products", "[I", true)
def tyX4 : Nat → FieldType := fun k => match k with
  | 0 => .int
  | _ => .array .int
theorem nmX4 : ∀ a, a < 2 → ∀ b, b < 2 → a ≠ b → (TX4 a).2.1 ≠ (TX4 b).2.1 := by decide +kernel
theorem tyX4_ok : ∀ k, k < 2 → parseFieldDescriptor (TX4 k).2.2.1 = some (tyX4 k) := by decide +kernel
def RX5 : String := "RingPlanes$Text"
def TX5 : u_T := fun k => match k with
  | 0 => ("RingPlanes$Text", "signs", "[C", true)
  | _ => ("RingPlanes$Text", "length", "I", false)
def tyX5 : Nat → FieldType := fun k => match k with
  | 0 => .array .char
  | _ => .int
theorem nmX5 : ∀ a, a < 2 → ∀ b, b < 2 → a ≠ b → (TX5 a).2.1 ≠ (TX5 b).2.1 := by decide +kernel
theorem tyX5_ok : ∀ k, k < 2 → parseFieldDescriptor (TX5 k).2.2.1 = some (tyX5 k) := by decide +kernel
def RX6 : String := "RingPlanes"
def TX6 : u_T := fun k => match k with
  | 0 => ("RingPlanes", "plane", "LRingPlanes$Plane;", true)
  | 1 => ("RingPlanes", "ring", "LRingPlanes$Ring;", true)
  | 2 => ("RingPlanes", "history", "LRingPlanes$History;", true)
  | 3 => ("RingPlanes", "text", "LRingPlanes$Text;", true)
  | _ => ("RingPlanes", "mirrors", "LRingPlanes$Mirrors;", true)
def tyX6 : Nat → FieldType := fun k => match k with
  | 0 => .object "RingPlanes$Plane"
  | 1 => .object "RingPlanes$Ring"
  | 2 => .object "RingPlanes$History"
  | 3 => .object "RingPlanes$Text"
  | _ => .object "RingPlanes$Mirrors"
theorem nmX6 : ∀ a, a < 5 → ∀ b, b < 5 → a ≠ b → (TX6 a).2.1 ≠ (TX6 b).2.1 := by decide +kernel
theorem tyX6_ok : ∀ k, k < 5 → parseFieldDescriptor (TX6 k).2.2.1 = some (tyX6 k) := by decide +kernel
def RX7 : String := "RingPlanesModel"
def TX7 : u_T := fun k => match k with
  | _ => ("", "", "", false)
def tyX7 : Nat → FieldType := fun k => match k with
  | _ => .int
theorem nmX7 : ∀ a, a < 0 → ∀ b, b < 0 → a ≠ b → (TX7 a).2.1 ≠ (TX7 b).2.1 := by decide +kernel
theorem tyX7_ok : ∀ k, k < 0 → parseFieldDescriptor (TX7 k).2.2.1 = some (tyX7 k) := by decide +kernel
def RJ6 : String := "java/lang/Integer"
def RJ10 : String := "java/lang/System"
def RL : String := "RingPlanesLaw"
abbrev vwCl : List vw_C := [(RX0, TX0, 3), (RX2, TX2, 6), (RX3, TX3, 1), (RX4, TX4, 2), (RX5, TX5, 2), (RX6, TX6, 5)]
def m_cn : List String := [RX0, RX1, RX2, RX3, RX4, RX5, RX6, RX7, RJ6, RJ10, RL]
abbrev MT : Type := MethodName × ByteArray × Nat × Option FieldType × Room × Nat × Nat × Nat
abbrev BE : Type := Nat × Instr × Nat × Nat × Int
def t_0 : MT := (⟨RL, "law", "([I)Z"⟩, code, 7, ret, room_1, 0, 1, 10)
def t_1 : MT := (⟨RX0, "<init>", "()V"⟩, prog_2_method_1_code, 1, none, { frames := 1, cells := 2, slots := 328, locals := 12 }, 2, 0, 0)
def t_2 : MT := (⟨RX0, "keep", "(LRingPlanes$Ring;)V"⟩, prog_2_method_2_code, 2, none, { frames := 2, cells := 0, slots := 0, locals := 47 }, 1, 1, 0)
def t_3 : MT := (⟨RX0, "dropOldest", "()V"⟩, prog_2_method_4_code, 2, none, { frames := 1, cells := 0, slots := 0, locals := 26 }, 1, 0, 0)
def t_4 : MT := (⟨RX1, "witness", "(LRingPlanes$Ring;I)I"⟩, prog_3_method_2_code, 7, (some .int), { frames := 4, cells := 0, slots := 0, locals := 97 }, 0, 2, 1)
def t_5 : MT := (⟨RX1, "witnessElement", "(II)I"⟩, prog_3_method_3_code, 2, (some .int), { frames := 0, cells := 0, slots := 0, locals := 0 }, 0, 2, 1)
def t_6 : MT := (⟨RX1, "holdsAt", "(LRingPlanes$Ring;IIII)Z"⟩, prog_3_method_4_code, 5, (some .boolean), { frames := 3, cells := 0, slots := 0, locals := 73 }, 0, 5, 1)
def t_7 : MT := (⟨RX1, "isIn", "(LRingPlanes$Ring;II)Z"⟩, prog_3_method_5_code, 6, (some .boolean), { frames := 5, cells := 0, slots := 0, locals := 121 }, 0, 3, 1)
def t_8 : MT := (⟨RX1, "fits", "(LRingPlanes$Ring;IIII)Z"⟩, prog_3_method_6_code, 5, (some .boolean), { frames := 4, cells := 0, slots := 0, locals := 97 }, 0, 5, 1)
def t_9 : MT := (⟨RX1, "differencesOnce", "(LRingPlanes$Ring;IIZ)I"⟩, prog_3_method_8_code, 8, (some .int), { frames := 2, cells := 0, slots := 0, locals := 46 }, 0, 4, 1)
def t_10 : MT := (⟨RX2, "<init>", "()V"⟩, prog_4_method_1_code, 1, none, { frames := 1, cells := 3, slots := 273, locals := 12 }, 2, 0, 2)
def t_11 : MT := (⟨RX3, "<init>", "()V"⟩, prog_5_method_1_code, 1, none, { frames := 3, cells := 2, slots := 83, locals := 69 }, 2, 0, 3)
def t_12 : MT := (⟨RX3, "points", "()I"⟩, prog_5_method_2_code, 1, (some .int), { frames := 0, cells := 0, slots := 0, locals := 0 }, 1, 0, 3)
def t_13 : MT := (⟨RX4, "<init>", "()V"⟩, prog_6_method_1_code, 1, none, { frames := 2, cells := 1, slots := 81, locals := 49 }, 2, 0, 4)
def t_14 : MT := (⟨RX4, "has", "(I)Z"⟩, prog_6_method_2_code, 2, (some .boolean), { frames := 0, cells := 0, slots := 0, locals := 0 }, 1, 1, 4)
def t_15 : MT := (⟨RX4, "sum", "(II)I"⟩, prog_6_method_3_code, 3, (some .int), { frames := 0, cells := 0, slots := 0, locals := 0 }, 1, 2, 4)
def t_16 : MT := (⟨RX4, "difference", "(II)I"⟩, prog_6_method_4_code, 3, (some .int), { frames := 0, cells := 0, slots := 0, locals := 0 }, 1, 2, 4)
def t_17 : MT := (⟨RX4, "times", "(II)I"⟩, prog_6_method_5_code, 4, (some .int), { frames := 0, cells := 0, slots := 0, locals := 0 }, 1, 2, 4)
def t_18 : MT := (⟨RX4, "timesOnSide", "(IIZ)I"⟩, prog_6_method_6_code, 4, (some .int), { frames := 1, cells := 0, slots := 0, locals := 23 }, 1, 3, 4)
def t_19 : MT := (⟨RX4, "lowestFactor", "(IIZ)I"⟩, prog_6_method_7_code, 5, (some .int), { frames := 2, cells := 0, slots := 0, locals := 46 }, 1, 3, 4)
def t_20 : MT := (⟨RX4, "setProduct", "(III)I"⟩, prog_6_method_8_code, 5, (some .int), { frames := 0, cells := 0, slots := 0, locals := 0 }, 1, 3, 4)
def t_21 : MT := (⟨RX4, "becomeField", "(I)V"⟩, prog_6_method_9_code, 4, none, { frames := 1, cells := 0, slots := 0, locals := 26 }, 1, 1, 4)
def t_22 : MT := (⟨RX4, "becomeTwisted", "()I"⟩, prog_6_method_10_code, 6, (some .int), { frames := 2, cells := 0, slots := 0, locals := 48 }, 1, 0, 4)
def t_23 : MT := (⟨RX4, "changeSides", "()I"⟩, prog_6_method_11_code, 5, (some .int), { frames := 1, cells := 0, slots := 0, locals := 24 }, 1, 0, 4)
def t_24 : MT := (⟨RX4, "productsUnlikeField", "()I"⟩, prog_6_method_12_code, 4, (some .int), { frames := 1, cells := 0, slots := 0, locals := 26 }, 1, 0, 4)
def t_25 : MT := (⟨RX4, "zeroProducts", "()I"⟩, prog_6_method_13_code, 4, (some .int), { frames := 1, cells := 0, slots := 0, locals := 23 }, 1, 0, 4)
def t_26 : MT := (⟨RX4, "isSquare", "(I)Z"⟩, prog_6_method_14_code, 3, (some .boolean), { frames := 1, cells := 0, slots := 0, locals := 26 }, 1, 1, 4)
def t_27 : MT := (⟨RX4, "fieldProduct", "(III)I"⟩, prog_6_method_15_code, 7, (some .int), { frames := 0, cells := 0, slots := 0, locals := 0 }, 0, 3, 4)
def t_28 : MT := (⟨RX5, "<init>", "()V"⟩, prog_7_method_1_code, 1, none, { frames := 1, cells := 1, slots := 60, locals := 12 }, 2, 0, 5)
def t_29 : MT := (⟨RX6, "<init>", "()V"⟩, prog_1_method_1_code, 1, none, { frames := 4, cells := 12, slots := 756, locals := 89 }, 2, 0, 6)
def t_30 : MT := (⟨RX6, "field", "(I)I"⟩, prog_1_method_2_code, 3, (some .int), { frames := 3, cells := 0, slots := 0, locals := 68 }, 1, 1, 6)
def t_31 : MT := (⟨RX6, "twist", "()I"⟩, prog_1_method_3_code, 1, (some .int), { frames := 3, cells := 0, slots := 0, locals := 73 }, 1, 0, 6)
def t_32 : MT := (⟨RX6, "product", "(III)I"⟩, prog_1_method_4_code, 5, (some .int), { frames := 3, cells := 0, slots := 0, locals := 68 }, 1, 3, 6)
def t_33 : MT := (⟨RX6, "exchange", "()I"⟩, prog_1_method_5_code, 1, (some .int), { frames := 3, cells := 0, slots := 0, locals := 68 }, 1, 0, 6)
def t_34 : MT := (⟨RX6, "by", "(III)I"⟩, prog_1_method_6_code, 4, (some .int), { frames := 3, cells := 0, slots := 0, locals := 70 }, 1, 3, 6)
def t_35 : MT := (⟨RX6, "law", "(II)I"⟩, prog_1_method_7_code, 4, (some .int), { frames := 5, cells := 0, slots := 0, locals := 123 }, 1, 2, 6)
def t_36 : MT := (⟨RX6, "elements", "(I)I"⟩, prog_1_method_8_code, 4, (some .int), { frames := 6, cells := 0, slots := 0, locals := 146 }, 1, 1, 6)
def t_37 : MT := (⟨RX6, "share", "()I"⟩, prog_1_method_17_code, 3, (some .int), { frames := 5, cells := 0, slots := 0, locals := 123 }, 1, 0, 6)
def t_38 : MT := (⟨RX6, "count", "(I)I"⟩, prog_1_method_18_code, 2, (some .int), { frames := 2, cells := 0, slots := 0, locals := 49 }, 1, 1, 6)
def t_39 : MT := (⟨RX6, "isFieldSize", "(I)Z"⟩, prog_1_method_24_code, 1, (some .boolean), { frames := 0, cells := 0, slots := 0, locals := 0 }, 0, 1, 6)
def t_40 : MT := (⟨RX6, "orNotFound", "(I)I"⟩, prog_1_method_26_code, 1, (some .int), { frames := 0, cells := 0, slots := 0, locals := 0 }, 0, 1, 6)
def t_41 : MT := (⟨RX6, "bitsOf", "(F)I"⟩, prog_1_method_27_code, 4, (some .int), { frames := 0, cells := 0, slots := 0, locals := 0 }, 0, 1, 6)
def t_42 : MT := (⟨RJ6, "bitCount", "(I)I"⟩, prog_10_method_49_code, 1, (some .int), { frames := 0, cells := 0, slots := 0, locals := 0 }, 0, 1, 8)
def t_43 : MT := (⟨RL, "cell", "([II)I"⟩, method_2_code, 2, (some .int), { frames := 0, cells := 0, slots := 0, locals := 0 }, 0, 2, 10)
def t_44 : MT := (⟨RL, "low", "(II)I"⟩, method_3_code, 2, (some .int), { frames := 0, cells := 0, slots := 0, locals := 0 }, 0, 2, 10)
def t_45 : MT := (⟨RL, "add", "([III)I"⟩, method_4_code, 4, (some .int), { frames := 0, cells := 0, slots := 0, locals := 0 }, 0, 3, 10)
def t_46 : MT := (⟨RL, "minus", "([III)I"⟩, method_5_code, 4, (some .int), { frames := 0, cells := 0, slots := 0, locals := 0 }, 0, 3, 10)
def t_47 : MT := (⟨RL, "of", "([JII)I"⟩, method_6_code, 3, (some .int), { frames := 0, cells := 0, slots := 0, locals := 0 }, 0, 3, 10)
def t_48 : MT := (⟨RL, "put", "([JIII)V"⟩, method_7_code, 4, none, { frames := 0, cells := 0, slots := 0, locals := 0 }, 0, 4, 10)
def t_49 : MT := (⟨RL, "plain", "([III)I"⟩, method_8_code, 5, (some .int), { frames := 0, cells := 0, slots := 0, locals := 0 }, 0, 3, 10)
def t_50 : MT := (⟨RL, "fields", "([I[J)I"⟩, method_9_code, 5, (some .int), { frames := 1, cells := 0, slots := 0, locals := 24 }, 0, 2, 10)
def t_51 : MT := (⟨RL, "begins", "([I[JI)V"⟩, method_10_code, 5, none, { frames := 1, cells := 0, slots := 0, locals := 24 }, 0, 3, 10)
def t_52 : MT := (⟨RL, "size", "(I)I"⟩, method_11_code, 1, (some .int), { frames := 0, cells := 0, slots := 0, locals := 0 }, 0, 1, 10)
def t_53 : MT := (⟨RL, "acts", "(LRingPlanes;[I[JI)Z"⟩, method_12_code, 13, (some .boolean), { frames := 4, cells := 0, slots := 0, locals := 93 }, 0, 4, 10)
def t_54 : MT := (⟨RL, "eighths", "(I)I"⟩, method_13_code, 3, (some .int), { frames := 0, cells := 0, slots := 0, locals := 0 }, 0, 1, 10)
def t_55 : MT := (⟨RL, "unlike", "([I[JIIZ)Z"⟩, method_14_code, 8, (some .boolean), { frames := 1, cells := 0, slots := 0, locals := 23 }, 0, 5, 10)
def t_56 : MT := (⟨RL, "holds", "([I[JIIII)Z"⟩, method_15_code, 6, (some .boolean), { frames := 2, cells := 0, slots := 0, locals := 50 }, 0, 6, 10)
def t_57 : MT := (⟨RL, "witness", "([I[JI)I"⟩, method_16_code, 9, (some .int), { frames := 3, cells := 0, slots := 0, locals := 75 }, 0, 3, 10)
def t_58 : MT := (⟨RL, "areLaws", "(LRingPlanes;[I[J)Z"⟩, method_17_code, 7, (some .boolean), { frames := 6, cells := 0, slots := 0, locals := 146 }, 0, 3, 10)
def t_59 : MT := (⟨RL, "areElements", "(LRingPlanes;[I[J)Z"⟩, method_18_code, 13, (some .boolean), { frames := 7, cells := 0, slots := 0, locals := 169 }, 0, 3, 10)
def t_60 : MT := (⟨RL, "isSo", "(LRingPlanes;[I[J)Z"⟩, method_19_code, 11, (some .boolean), { frames := 8, cells := 0, slots := 0, locals := 201 }, 0, 3, 10)
def t_61 : MT := (⟨RL, "acts", "(LRingPlanes;[I[JI)Z"⟩, method_12_code, 13, (some .boolean), { frames := 4, cells := 1, slots := 9, locals := 93 }, 0, 4, 10)
def m_tab : List MT := [t_0, t_1, t_2, t_3, t_4, t_5, t_6, t_7, t_8, t_9, t_10, t_11, t_12, t_13, t_14, t_15, t_16, t_17, t_18, t_19, t_20, t_21, t_22, t_23, t_24, t_25, t_26, t_27, t_28, t_29, t_30, t_31, t_32, t_33, t_34, t_35, t_36, t_37, t_38, t_39, t_40, t_41, t_42, t_43, t_44, t_45, t_46, t_47, t_48, t_49, t_50, t_51, t_52, t_53, t_54, t_55, t_56, t_57, t_58, t_59, t_60, t_61]
def m_get (mi : Nat) : MT := m_tab.getD mi t_0
def m_y (mi : Nat) : MethodName := (m_get mi).1
def m_cd (mi : Nat) : ByteArray := (m_get mi).2.1
def m_ml (mi : Nat) : Nat := (m_get mi).2.2.1
def m_ret (mi : Nat) : Option FieldType := (m_get mi).2.2.2.1
def m_rm (mi : Nat) : Room := (m_get mi).2.2.2.2.1
def m_kind (mi : Nat) : Nat := (m_get mi).2.2.2.2.2.1
def m_np (mi : Nat) : Nat := (m_get mi).2.2.2.2.2.2.1
def m_on (mi : Nat) : Nat := (m_get mi).2.2.2.2.2.2.2
def m_own (mi : Nat) : String := m_cn.getD (m_on mi) ""
def bd_0 : List BE := [(0, .new 41, 5, 0, 0), (3, .dup, 0, 0, 0), (4, .invokespecial 107, 29, 0, 0), (7, .astore_n 1, 0, 0, 0), (8, .iconst 1, 0, 0, 0), (9, .newarray .int, 0, 0, 0), (11, .astore_n 2, 0, 0, 0), (12, .bipush 9, 0, 0, 9), (14, .newarray .long, 2, 0, 0), (16, .astore_n 3, 0, 0, 0), (17, .aload_n 2, 0, 0, 0), (18, .aload_n 3, 0, 0, 0), (19, .iconst 3, 0, 0, 0), (20, .invokestatic 36, 51, 0, 0), (23, .aload_n 1, 0, 0, 0), (24, .aload_n 2, 0, 0, 0), (25, .aload_n 3, 0, 0, 0), (26, .invokestatic 108, 60, 0, 0), (29, .istore 4, 0, 0, 0), (31, .bipush 8, 0, 0, 8), (33, .aload_n 0, 0, 0, 0), (34, .iconst 0, 0, 0, 0), (35, .invokestatic 111, 43, 0, 0), (38, .bipush 30, 0, 0, 30), (40, .invokestatic 28, 44, 0, 0), (43, .iadd, 0, 0, 0), (44, .istore 5, 0, 0, 0), (46, .iconst 0, 0, 0, 0), (47, .istore 6, 0, 0, 0), (49, .iload 6, 0, 0, 0), (51, .iload 5, 0, 0, 0), (53, .if_icmp .ge 54, 107, 0, 0), (56, .iload 4, 0, 0, 0), (58, .ifCond .eq 49, 107, 0, 0), (61, .aload_n 1, 0, 0, 0), (62, .aload_n 2, 0, 0, 0), (63, .aload_n 3, 0, 0, 0), (64, .aload_n 0, 0, 0, 0), (65, .iconst 1, 0, 0, 0), (66, .iload 6, 0, 0, 0), (68, .iadd, 0, 0, 0), (69, .invokestatic 111, 43, 0, 0), (72, .sipush 7919, 0, 0, 7919), (75, .iload 6, 0, 0, 0), (77, .imul, 0, 0, 0), (78, .ixor, 0, 0, 0), (79, .invokestatic 115, 53, 0, 0), (82, .ifCond .eq 16, 98, 0, 0), (85, .aload_n 1, 0, 0, 0), (86, .aload_n 2, 0, 0, 0), (87, .aload_n 3, 0, 0, 0), (88, .invokestatic 108, 60, 0, 0), (91, .ifCond .eq 7, 98, 0, 0), (94, .iconst 1, 0, 0, 0), (95, .goto 4, 99, 0, 0), (98, .iconst 0, 0, 0, 0), (99, .istore 4, 0, 0, 0), (101, .iinc 6 1, 0, 0, 0), (104, .goto (-55), 49, 0, 0), (107, .iload 4, 0, 0, 0), (109, .ifCond .eq 42, 151, 0, 0), (112, .aload_n 1, 0, 0, 0), (113, .bipush 6, 0, 0, 6), (115, .invokevirtual 100, 38, 0, 0), (118, .ldc 86, 0, 0, (-1000001)), (120, .if_icmp .ne 31, 151, 0, 0), (123, .aload_n 1, 0, 0, 0), (124, .bipush 6, 0, 0, 6), (126, .invokevirtual 40, 30, 0, 0), (129, .ldc 86, 0, 0, (-1000001)), (131, .if_icmp .ne 20, 151, 0, 0), (134, .aload_n 1, 0, 0, 0), (135, .bipush 9, 0, 0, 9), (137, .iconst 0, 0, 0, 0), (138, .iconst 0, 0, 0, 0), (139, .invokevirtual 53, 32, 0, 0), (142, .ldc 86, 0, 0, (-1000001)), (144, .if_icmp .ne 7, 151, 0, 0), (147, .iconst 1, 0, 0, 0), (148, .goto 4, 152, 0, 0), (151, .iconst 0, 0, 0, 0), (152, .ireturn, 0, 0, 0)]
def bd_1 : List BE := [(0, .aload_n 0, 0, 0, 0), (1, .invokespecial 3, 1000, 0, 0), (4, .aload_n 0, 0, 0, 0), (5, .iconst 4, 0, 0, 0), (6, .newarray .int, 0, 0, 0), (8, .putfield 9, 0, 0, 1), (11, .aload_n 0, 0, 0, 0), (12, .sipush 324, 0, 0, 324), (15, .newarray .int, 0, 0, 0), (17, .putfield 15, 0, 1, 1), (20, .return_, 0, 0, 0)]
def bd_2 : List BE := [(0, .aload_n 0, 0, 0, 0), (1, .getfield 18, 0, 2, 0), (4, .iconst 4, 0, 0, 0), (5, .if_icmp .lt 7, 12, 0, 0), (8, .aload_n 0, 0, 0, 0), (9, .invokevirtual 22, 3, 0, 0), (12, .aload_n 0, 0, 0, 0), (13, .getfield 18, 0, 2, 0), (16, .ifCond .lt 55, 71, 0, 0), (19, .aload_n 0, 0, 0, 0), (20, .getfield 18, 0, 2, 0), (23, .iconst 4, 0, 0, 0), (24, .if_icmp .ge 47, 71, 0, 0), (27, .aload_n 0, 0, 0, 0), (28, .getfield 9, 0, 0, 0), (31, .aload_n 0, 0, 0, 0), (32, .getfield 18, 0, 2, 0), (35, .aload_n 1, 0, 0, 0), (36, .getfield 25, 3, 0, 0), (39, .iastore, 0, 0, 0), (40, .aload_n 1, 0, 0, 0), (41, .getfield 30, 3, 1, 0), (44, .iconst 0, 0, 0, 0), (45, .aload_n 0, 0, 0, 0), (46, .getfield 15, 0, 1, 0), (49, .aload_n 0, 0, 0, 0), (50, .getfield 18, 0, 2, 0), (53, .bipush 81, 0, 0, 81), (55, .imul, 0, 0, 0), (56, .bipush 81, 0, 0, 81), (58, .invokestatic 31, 1001, 0, 0), (61, .aload_n 0, 0, 0, 0), (62, .dup, 0, 0, 0), (63, .getfield 18, 0, 2, 0), (66, .iconst 1, 0, 0, 0), (67, .iadd, 0, 0, 0), (68, .putfield 18, 0, 2, 0), (71, .return_, 0, 0, 0)]
def bd_3 : List BE := [(0, .iconst 3, 0, 0, 0), (1, .istore_n 1, 0, 0, 0), (2, .aload_n 0, 0, 0, 0), (3, .getfield 9, 0, 0, 0), (6, .iconst 1, 0, 0, 0), (7, .aload_n 0, 0, 0, 0), (8, .getfield 9, 0, 0, 0), (11, .iconst 0, 0, 0, 0), (12, .iload_n 1, 0, 0, 0), (13, .invokestatic 31, 1001, 0, 0), (16, .aload_n 0, 0, 0, 0), (17, .getfield 15, 0, 1, 0), (20, .bipush 81, 0, 0, 81), (22, .aload_n 0, 0, 0, 0), (23, .getfield 15, 0, 1, 0), (26, .iconst 0, 0, 0, 0), (27, .iload_n 1, 0, 0, 0), (28, .bipush 81, 0, 0, 81), (30, .imul, 0, 0, 0), (31, .invokestatic 31, 1001, 0, 0), (34, .aload_n 0, 0, 0, 0), (35, .iload_n 1, 0, 0, 0), (36, .putfield 18, 0, 2, 0), (39, .return_, 0, 0, 0)]
def bd_4 : List BE := [(0, .iload_n 1, 0, 0, 0), (1, .iconst 1, 0, 0, 0), (2, .if_icmp .le 10, 12, 0, 0), (5, .aload_n 0, 0, 0, 0), (6, .getfield 9, 3, 0, 0), (9, .goto 4, 13, 0, 0), (12, .iconst 1, 0, 0, 0), (13, .istore_n 2, 0, 0, 0), (14, .iload_n 1, 0, 0, 0), (15, .iconst 1, 0, 0, 0), (16, .if_icmp .le 15, 31, 0, 0), (19, .iload_n 1, 0, 0, 0), (20, .iconst 5, 0, 0, 0), (21, .if_icmp .ge 10, 31, 0, 0), (24, .aload_n 0, 0, 0, 0), (25, .getfield 9, 3, 0, 0), (28, .goto 4, 32, 0, 0), (31, .iconst 1, 0, 0, 0), (32, .istore_n 3, 0, 0, 0), (33, .iconst 0, 0, 0, 0), (34, .istore 4, 0, 0, 0), (36, .iload 4, 0, 0, 0), (38, .aload_n 0, 0, 0, 0), (39, .getfield 9, 3, 0, 0), (42, .if_icmp .ge 68, 110, 0, 0), (45, .iconst 0, 0, 0, 0), (46, .istore 5, 0, 0, 0), (48, .iload 5, 0, 0, 0), (50, .iload_n 2, 0, 0, 0), (51, .if_icmp .ge 53, 104, 0, 0), (54, .iconst 0, 0, 0, 0), (55, .istore 6, 0, 0, 0), (57, .iload 6, 0, 0, 0), (59, .iload_n 3, 0, 0, 0), (60, .if_icmp .ge 38, 98, 0, 0), (63, .aload_n 0, 0, 0, 0), (64, .iload_n 1, 0, 0, 0), (65, .iload 4, 0, 0, 0), (67, .iload 5, 0, 0, 0), (69, .iload 6, 0, 0, 0), (71, .invokestatic 15, 6, 0, 0), (74, .ifCond .ne 18, 92, 0, 0), (77, .bipush 81, 0, 0, 81), (79, .iload 4, 0, 0, 0), (81, .imul, 0, 0, 0), (82, .bipush 9, 0, 0, 9), (84, .iload 5, 0, 0, 0), (86, .imul, 0, 0, 0), (87, .iadd, 0, 0, 0), (88, .iload 6, 0, 0, 0), (90, .iadd, 0, 0, 0), (91, .ireturn, 0, 0, 0), (92, .iinc 6 1, 0, 0, 0), (95, .goto (-38), 57, 0, 0), (98, .iinc 5 1, 0, 0, 0), (101, .goto (-53), 48, 0, 0), (104, .iinc 4 1, 0, 0, 0), (107, .goto (-71), 36, 0, 0), (110, .iconst (-1), 0, 0, 0), (111, .ireturn, 0, 0, 0)]
def bd_5 : List BE := [(0, .iload_n 1, 0, 0, 0), (1, .iconst 1, 0, 0, 0), (2, .if_icmp .ne 8, 10, 0, 0), (5, .iload_n 0, 0, 0, 0), (6, .bipush 81, 0, 0, 81), (8, .idiv, 0, 0, 0), (9, .ireturn, 0, 0, 0), (10, .iload_n 1, 0, 0, 0), (11, .iconst 2, 0, 0, 0), (12, .if_icmp .ne 13, 25, 0, 0), (15, .iload_n 0, 0, 0, 0), (16, .bipush 9, 0, 0, 9), (18, .idiv, 0, 0, 0), (19, .bipush 9, 0, 0, 9), (21, .irem, 0, 0, 0), (22, .goto 7, 29, 0, 0), (25, .iload_n 0, 0, 0, 0), (26, .bipush 9, 0, 0, 9), (28, .irem, 0, 0, 0), (29, .ireturn, 0, 0, 0)]
def bd_6 : List BE := [(0, .iload_n 1, 0, 0, 0), (1, .tableswitch 220 0 5 #[39, 63, 89, 127, 166, 199], 0, 0, 0), (40, .aload_n 0, 0, 0, 0), (41, .iconst 0, 0, 0, 0), (42, .iload_n 2, 0, 0, 0), (43, .invokevirtual 21, 17, 0, 0), (46, .ifCond .ne 16, 62, 0, 0), (49, .aload_n 0, 0, 0, 0), (50, .iload_n 2, 0, 0, 0), (51, .iconst 0, 0, 0, 0), (52, .invokevirtual 21, 17, 0, 0), (55, .ifCond .ne 7, 62, 0, 0), (58, .iconst 1, 0, 0, 0), (59, .goto 4, 63, 0, 0), (62, .iconst 0, 0, 0, 0), (63, .ireturn, 0, 0, 0), (64, .aload_n 0, 0, 0, 0), (65, .iconst 1, 0, 0, 0), (66, .iload_n 2, 0, 0, 0), (67, .invokevirtual 21, 17, 0, 0), (70, .iload_n 2, 0, 0, 0), (71, .if_icmp .ne 17, 88, 0, 0), (74, .aload_n 0, 0, 0, 0), (75, .iload_n 2, 0, 0, 0), (76, .iconst 1, 0, 0, 0), (77, .invokevirtual 21, 17, 0, 0), (80, .iload_n 2, 0, 0, 0), (81, .if_icmp .ne 7, 88, 0, 0), (84, .iconst 1, 0, 0, 0), (85, .goto 4, 89, 0, 0), (88, .iconst 0, 0, 0, 0), (89, .ireturn, 0, 0, 0), (90, .aload_n 0, 0, 0, 0), (91, .iload_n 2, 0, 0, 0), (92, .aload_n 0, 0, 0, 0), (93, .iload_n 3, 0, 0, 0), (94, .iload 4, 0, 0, 0), (96, .invokevirtual 25, 15, 0, 0), (99, .invokevirtual 21, 17, 0, 0), (102, .aload_n 0, 0, 0, 0), (103, .aload_n 0, 0, 0, 0), (104, .iload_n 2, 0, 0, 0), (105, .iload_n 3, 0, 0, 0), (106, .invokevirtual 21, 17, 0, 0), (109, .aload_n 0, 0, 0, 0), (110, .iload_n 2, 0, 0, 0), (111, .iload 4, 0, 0, 0), (113, .invokevirtual 21, 17, 0, 0), (116, .invokevirtual 25, 15, 0, 0), (119, .if_icmp .ne 7, 126, 0, 0), (122, .iconst 1, 0, 0, 0), (123, .goto 4, 127, 0, 0), (126, .iconst 0, 0, 0, 0), (127, .ireturn, 0, 0, 0), (128, .aload_n 0, 0, 0, 0), (129, .aload_n 0, 0, 0, 0), (130, .iload_n 2, 0, 0, 0), (131, .iload_n 3, 0, 0, 0), (132, .invokevirtual 25, 15, 0, 0), (135, .iload 4, 0, 0, 0), (137, .invokevirtual 21, 17, 0, 0), (140, .aload_n 0, 0, 0, 0), (141, .aload_n 0, 0, 0, 0), (142, .iload_n 2, 0, 0, 0), (143, .iload 4, 0, 0, 0), (145, .invokevirtual 21, 17, 0, 0), (148, .aload_n 0, 0, 0, 0), (149, .iload_n 3, 0, 0, 0), (150, .iload 4, 0, 0, 0), (152, .invokevirtual 21, 17, 0, 0), (155, .invokevirtual 25, 15, 0, 0), (158, .if_icmp .ne 7, 165, 0, 0), (161, .iconst 1, 0, 0, 0), (162, .goto 4, 166, 0, 0), (165, .iconst 0, 0, 0, 0), (166, .ireturn, 0, 0, 0), (167, .aload_n 0, 0, 0, 0), (168, .aload_n 0, 0, 0, 0), (169, .iload_n 2, 0, 0, 0), (170, .iload_n 3, 0, 0, 0), (171, .invokevirtual 21, 17, 0, 0), (174, .iload 4, 0, 0, 0), (176, .invokevirtual 21, 17, 0, 0), (179, .aload_n 0, 0, 0, 0), (180, .iload_n 2, 0, 0, 0), (181, .aload_n 0, 0, 0, 0), (182, .iload_n 3, 0, 0, 0), (183, .iload 4, 0, 0, 0), (185, .invokevirtual 21, 17, 0, 0), (188, .invokevirtual 21, 17, 0, 0), (191, .if_icmp .ne 7, 198, 0, 0), (194, .iconst 1, 0, 0, 0), (195, .goto 4, 199, 0, 0), (198, .iconst 0, 0, 0, 0), (199, .ireturn, 0, 0, 0), (200, .aload_n 0, 0, 0, 0), (201, .iload_n 2, 0, 0, 0), (202, .iload_n 3, 0, 0, 0), (203, .invokevirtual 21, 17, 0, 0), (206, .aload_n 0, 0, 0, 0), (207, .iload_n 3, 0, 0, 0), (208, .iload_n 2, 0, 0, 0), (209, .invokevirtual 21, 17, 0, 0), (212, .if_icmp .ne 7, 219, 0, 0), (215, .iconst 1, 0, 0, 0), (216, .goto 4, 220, 0, 0), (219, .iconst 0, 0, 0, 0), (220, .ireturn, 0, 0, 0), (221, .iload_n 2, 0, 0, 0), (222, .iload_n 3, 0, 0, 0), (223, .if_icmp .eq 27, 250, 0, 0), (226, .aload_n 0, 0, 0, 0), (227, .iload_n 2, 0, 0, 0), (228, .iload_n 3, 0, 0, 0), (229, .iload_n 1, 0, 0, 0), (230, .bipush 6, 0, 0, 6), (232, .if_icmp .ne 7, 239, 0, 0), (235, .iconst 1, 0, 0, 0), (236, .goto 4, 240, 0, 0), (239, .iconst 0, 0, 0, 0), (240, .invokestatic 28, 9, 0, 0), (243, .aload_n 0, 0, 0, 0), (244, .getfield 9, 3, 0, 0), (247, .if_icmp .ne 7, 254, 0, 0), (250, .iconst 1, 0, 0, 0), (251, .goto 4, 255, 0, 0), (254, .iconst 0, 0, 0, 0), (255, .ireturn, 0, 0, 0)]
def bd_7 : List BE := [(0, .iload_n 1, 0, 0, 0), (1, .ifCond .ne 7, 8, 0, 0), (4, .iconst 1, 0, 0, 0), (5, .goto 7, 12, 0, 0), (8, .aload_n 0, 0, 0, 0), (9, .getfield 9, 3, 0, 0), (12, .istore_n 3, 0, 0, 0), (13, .iconst 0, 0, 0, 0), (14, .istore 4, 0, 0, 0), (16, .iload 4, 0, 0, 0), (18, .aload_n 0, 0, 0, 0), (19, .getfield 9, 3, 0, 0), (22, .if_icmp .ge 39, 61, 0, 0), (25, .iconst 0, 0, 0, 0), (26, .istore 5, 0, 0, 0), (28, .iload 5, 0, 0, 0), (30, .iload_n 3, 0, 0, 0), (31, .if_icmp .ge 24, 55, 0, 0), (34, .aload_n 0, 0, 0, 0), (35, .iload_n 1, 0, 0, 0), (36, .iload_n 2, 0, 0, 0), (37, .iload 4, 0, 0, 0), (39, .iload 5, 0, 0, 0), (41, .invokestatic 32, 8, 0, 0), (44, .ifCond .ne 5, 49, 0, 0), (47, .iconst 0, 0, 0, 0), (48, .ireturn, 0, 0, 0), (49, .iinc 5 1, 0, 0, 0), (52, .goto (-24), 28, 0, 0), (55, .iinc 4 1, 0, 0, 0), (58, .goto (-42), 16, 0, 0), (61, .iconst 1, 0, 0, 0), (62, .ireturn, 0, 0, 0)]
def bd_8 : List BE := [(0, .iload_n 1, 0, 0, 0), (1, .ifCond .ne 12, 13, 0, 0), (4, .aload_n 0, 0, 0, 0), (5, .iconst 5, 0, 0, 0), (6, .iload_n 2, 0, 0, 0), (7, .iload_n 3, 0, 0, 0), (8, .iconst 0, 0, 0, 0), (9, .invokestatic 15, 6, 0, 0), (12, .ireturn, 0, 0, 0), (13, .iload_n 1, 0, 0, 0), (14, .iconst 1, 0, 0, 0), (15, .if_icmp .ne 15, 30, 0, 0), (18, .aload_n 0, 0, 0, 0), (19, .iconst 3, 0, 0, 0), (20, .iload_n 3, 0, 0, 0), (21, .iload 4, 0, 0, 0), (23, .iload_n 2, 0, 0, 0), (24, .invokestatic 15, 6, 0, 0), (27, .goto 12, 39, 0, 0), (30, .aload_n 0, 0, 0, 0), (31, .iconst 4, 0, 0, 0), (32, .iload_n 2, 0, 0, 0), (33, .iload_n 3, 0, 0, 0), (34, .iload 4, 0, 0, 0), (36, .invokestatic 15, 6, 0, 0), (39, .ireturn, 0, 0, 0)]
def bd_9 : List BE := [(0, .iconst 0, 0, 0, 0), (1, .istore 4, 0, 0, 0), (3, .iconst 0, 0, 0, 0), (4, .istore 5, 0, 0, 0), (6, .iconst 0, 0, 0, 0), (7, .istore 6, 0, 0, 0), (9, .iload 6, 0, 0, 0), (11, .aload_n 0, 0, 0, 0), (12, .getfield 9, 3, 0, 0), (15, .if_icmp .ge 50, 65, 0, 0), (18, .iconst 1, 0, 0, 0), (19, .aload_n 0, 0, 0, 0), (20, .aload_n 0, 0, 0, 0), (21, .iload_n 1, 0, 0, 0), (22, .iload 6, 0, 0, 0), (24, .iload_n 3, 0, 0, 0), (25, .invokevirtual 35, 18, 0, 0), (28, .aload_n 0, 0, 0, 0), (29, .iload_n 2, 0, 0, 0), (30, .iload 6, 0, 0, 0), (32, .iload_n 3, 0, 0, 0), (33, .invokevirtual 35, 18, 0, 0), (36, .invokevirtual 39, 16, 0, 0), (39, .ishl, 0, 0, 0), (40, .istore 7, 0, 0, 0), (42, .iload 5, 0, 0, 0), (44, .iload 4, 0, 0, 0), (46, .iload 7, 0, 0, 0), (48, .iand, 0, 0, 0), (49, .ior, 0, 0, 0), (50, .istore 5, 0, 0, 0), (52, .iload 4, 0, 0, 0), (54, .iload 7, 0, 0, 0), (56, .ior, 0, 0, 0), (57, .istore 4, 0, 0, 0), (59, .iinc 6 1, 0, 0, 0), (62, .goto (-53), 9, 0, 0), (65, .iload 4, 0, 0, 0), (67, .iload 5, 0, 0, 0), (69, .iconst (-1), 0, 0, 0), (70, .ixor, 0, 0, 0), (71, .iand, 0, 0, 0), (72, .invokestatic 42, 42, 0, 0), (75, .ireturn, 0, 0, 0)]
def bd_10 : List BE := [(0, .aload_n 0, 0, 0, 0), (1, .invokespecial 3, 1000, 0, 0), (4, .aload_n 0, 0, 0, 0), (5, .bipush 91, 0, 0, 91), (7, .newarray .int, 0, 0, 0), (9, .putfield 9, 1, 0, 1), (12, .aload_n 0, 0, 0, 0), (13, .bipush 91, 0, 0, 91), (15, .newarray .int, 0, 0, 0), (17, .putfield 15, 1, 1, 1), (20, .aload_n 0, 0, 0, 0), (21, .bipush 91, 0, 0, 91), (23, .newarray .int, 0, 0, 0), (25, .putfield 18, 1, 2, 1), (28, .return_, 0, 0, 0)]
def bd_11 : List BE := [(0, .aload_n 0, 0, 0, 0), (1, .invokespecial 3, 1000, 0, 0), (4, .aload_n 0, 0, 0, 0), (5, .new 9, 3, 0, 0), (8, .dup, 0, 0, 0), (9, .invokespecial 11, 13, 0, 0), (12, .putfield 12, 2, 0, 1), (15, .return_, 0, 0, 0)]
def bd_12 : List BE := [(0, .aload_n 0, 0, 0, 0), (1, .getfield 12, 2, 0, 0), (4, .getfield 18, 3, 0, 0), (7, .aload_n 0, 0, 0, 0), (8, .getfield 12, 2, 0, 0), (11, .getfield 18, 3, 0, 0), (14, .imul, 0, 0, 0), (15, .aload_n 0, 0, 0, 0), (16, .getfield 12, 2, 0, 0), (19, .getfield 18, 3, 0, 0), (22, .iadd, 0, 0, 0), (23, .iconst 1, 0, 0, 0), (24, .iadd, 0, 0, 0), (25, .ireturn, 0, 0, 0)]
def bd_13 : List BE := [(0, .aload_n 0, 0, 0, 0), (1, .invokespecial 3, 1000, 0, 0), (4, .aload_n 0, 0, 0, 0), (5, .bipush 81, 0, 0, 81), (7, .newarray .int, 0, 0, 0), (9, .putfield 9, 3, 1, 1), (12, .aload_n 0, 0, 0, 0), (13, .iconst 3, 0, 0, 0), (14, .invokevirtual 15, 21, 0, 0), (17, .return_, 0, 0, 0)]
def bd_14 : List BE := [(0, .iload_n 1, 0, 0, 0), (1, .ifCond .lt 15, 16, 0, 0), (4, .iload_n 1, 0, 0, 0), (5, .aload_n 0, 0, 0, 0), (6, .getfield 19, 3, 0, 0), (9, .if_icmp .ge 7, 16, 0, 0), (12, .iconst 1, 0, 0, 0), (13, .goto 4, 17, 0, 0), (16, .iconst 0, 0, 0, 0), (17, .ireturn, 0, 0, 0)]
def bd_15 : List BE := [(0, .aload_n 0, 0, 0, 0), (1, .getfield 19, 3, 0, 0), (4, .iconst 4, 0, 0, 0), (5, .if_icmp .ne 7, 12, 0, 0), (8, .iload_n 1, 0, 0, 0), (9, .iload_n 2, 0, 0, 0), (10, .ixor, 0, 0, 0), (11, .ireturn, 0, 0, 0), (12, .aload_n 0, 0, 0, 0), (13, .getfield 19, 3, 0, 0), (16, .bipush 9, 0, 0, 9), (18, .if_icmp .ne 25, 43, 0, 0), (21, .iconst 3, 0, 0, 0), (22, .iload_n 1, 0, 0, 0), (23, .iconst 3, 0, 0, 0), (24, .idiv, 0, 0, 0), (25, .iload_n 2, 0, 0, 0), (26, .iconst 3, 0, 0, 0), (27, .idiv, 0, 0, 0), (28, .iadd, 0, 0, 0), (29, .iconst 3, 0, 0, 0), (30, .irem, 0, 0, 0), (31, .imul, 0, 0, 0), (32, .iload_n 1, 0, 0, 0), (33, .iconst 3, 0, 0, 0), (34, .irem, 0, 0, 0), (35, .iload_n 2, 0, 0, 0), (36, .iconst 3, 0, 0, 0), (37, .irem, 0, 0, 0), (38, .iadd, 0, 0, 0), (39, .iconst 3, 0, 0, 0), (40, .irem, 0, 0, 0), (41, .iadd, 0, 0, 0), (42, .ireturn, 0, 0, 0), (43, .iload_n 1, 0, 0, 0), (44, .iload_n 2, 0, 0, 0), (45, .iadd, 0, 0, 0), (46, .aload_n 0, 0, 0, 0), (47, .getfield 19, 3, 0, 0), (50, .if_icmp .ge 9, 59, 0, 0), (53, .iload_n 1, 0, 0, 0), (54, .iload_n 2, 0, 0, 0), (55, .iadd, 0, 0, 0), (56, .goto 11, 67, 0, 0), (59, .iload_n 1, 0, 0, 0), (60, .iload_n 2, 0, 0, 0), (61, .iadd, 0, 0, 0), (62, .aload_n 0, 0, 0, 0), (63, .getfield 19, 3, 0, 0), (66, .isub, 0, 0, 0), (67, .ireturn, 0, 0, 0)]
def bd_16 : List BE := [(0, .aload_n 0, 0, 0, 0), (1, .getfield 19, 3, 0, 0), (4, .iconst 4, 0, 0, 0), (5, .if_icmp .ne 7, 12, 0, 0), (8, .iload_n 1, 0, 0, 0), (9, .iload_n 2, 0, 0, 0), (10, .ixor, 0, 0, 0), (11, .ireturn, 0, 0, 0), (12, .aload_n 0, 0, 0, 0), (13, .getfield 19, 3, 0, 0), (16, .bipush 9, 0, 0, 9), (18, .if_icmp .ne 29, 47, 0, 0), (21, .iconst 3, 0, 0, 0), (22, .iload_n 1, 0, 0, 0), (23, .iconst 3, 0, 0, 0), (24, .idiv, 0, 0, 0), (25, .iload_n 2, 0, 0, 0), (26, .iconst 3, 0, 0, 0), (27, .idiv, 0, 0, 0), (28, .isub, 0, 0, 0), (29, .iconst 3, 0, 0, 0), (30, .iadd, 0, 0, 0), (31, .iconst 3, 0, 0, 0), (32, .irem, 0, 0, 0), (33, .imul, 0, 0, 0), (34, .iload_n 1, 0, 0, 0), (35, .iconst 3, 0, 0, 0), (36, .irem, 0, 0, 0), (37, .iload_n 2, 0, 0, 0), (38, .iconst 3, 0, 0, 0), (39, .irem, 0, 0, 0), (40, .isub, 0, 0, 0), (41, .iconst 3, 0, 0, 0), (42, .iadd, 0, 0, 0), (43, .iconst 3, 0, 0, 0), (44, .irem, 0, 0, 0), (45, .iadd, 0, 0, 0), (46, .ireturn, 0, 0, 0), (47, .iload_n 1, 0, 0, 0), (48, .iload_n 2, 0, 0, 0), (49, .if_icmp .ge 14, 63, 0, 0), (52, .iload_n 1, 0, 0, 0), (53, .iload_n 2, 0, 0, 0), (54, .isub, 0, 0, 0), (55, .aload_n 0, 0, 0, 0), (56, .getfield 19, 3, 0, 0), (59, .iadd, 0, 0, 0), (60, .goto 6, 66, 0, 0), (63, .iload_n 1, 0, 0, 0), (64, .iload_n 2, 0, 0, 0), (65, .isub, 0, 0, 0), (66, .ireturn, 0, 0, 0)]
def bd_17 : List BE := [(0, .bipush 9, 0, 0, 9), (2, .iload_n 1, 0, 0, 0), (3, .imul, 0, 0, 0), (4, .iload_n 2, 0, 0, 0), (5, .iadd, 0, 0, 0), (6, .istore_n 3, 0, 0, 0), (7, .iload_n 3, 0, 0, 0), (8, .ifCond .lt 21, 29, 0, 0), (11, .iload_n 3, 0, 0, 0), (12, .aload_n 0, 0, 0, 0), (13, .getfield 9, 3, 1, 0), (16, .arraylength, 0, 0, 0), (17, .if_icmp .ge 12, 29, 0, 0), (20, .aload_n 0, 0, 0, 0), (21, .getfield 9, 3, 1, 0), (24, .iload_n 3, 0, 0, 0), (25, .iaload, 0, 0, 0), (26, .goto 4, 30, 0, 0), (29, .iconst 0, 0, 0, 0), (30, .ireturn, 0, 0, 0)]
def bd_18 : List BE := [(0, .iload_n 3, 0, 0, 0), (1, .ifCond .eq 12, 13, 0, 0), (4, .aload_n 0, 0, 0, 0), (5, .iload_n 1, 0, 0, 0), (6, .iload_n 2, 0, 0, 0), (7, .invokevirtual 23, 17, 0, 0), (10, .goto 9, 19, 0, 0), (13, .aload_n 0, 0, 0, 0), (14, .iload_n 2, 0, 0, 0), (15, .iload_n 1, 0, 0, 0), (16, .invokevirtual 23, 17, 0, 0), (19, .ireturn, 0, 0, 0)]
def bd_19 : List BE := [(0, .iconst 0, 0, 0, 0), (1, .istore 4, 0, 0, 0), (3, .iload 4, 0, 0, 0), (5, .aload_n 0, 0, 0, 0), (6, .getfield 19, 3, 0, 0), (9, .if_icmp .ge 24, 33, 0, 0), (12, .aload_n 0, 0, 0, 0), (13, .iload_n 1, 0, 0, 0), (14, .iload 4, 0, 0, 0), (16, .iload_n 3, 0, 0, 0), (17, .invokevirtual 27, 18, 0, 0), (20, .iload_n 2, 0, 0, 0), (21, .if_icmp .ne 6, 27, 0, 0), (24, .iload 4, 0, 0, 0), (26, .ireturn, 0, 0, 0), (27, .iinc 4 1, 0, 0, 0), (30, .goto (-27), 3, 0, 0), (33, .iconst (-1), 0, 0, 0), (34, .ireturn, 0, 0, 0)]
def bd_20 : List BE := [(0, .bipush 9, 0, 0, 9), (2, .iload_n 1, 0, 0, 0), (3, .imul, 0, 0, 0), (4, .iload_n 2, 0, 0, 0), (5, .iadd, 0, 0, 0), (6, .istore 4, 0, 0, 0), (8, .iload 4, 0, 0, 0), (10, .ifCond .lt 24, 34, 0, 0), (13, .iload 4, 0, 0, 0), (15, .aload_n 0, 0, 0, 0), (16, .getfield 9, 3, 1, 0), (19, .arraylength, 0, 0, 0), (20, .if_icmp .ge 14, 34, 0, 0), (23, .aload_n 0, 0, 0, 0), (24, .getfield 9, 3, 1, 0), (27, .iload 4, 0, 0, 0), (29, .iaload, 0, 0, 0), (30, .iload_n 3, 0, 0, 0), (31, .if_icmp .ne 5, 36, 0, 0), (34, .iconst 0, 0, 0, 0), (35, .ireturn, 0, 0, 0), (36, .aload_n 0, 0, 0, 0), (37, .getfield 9, 3, 1, 0), (40, .iload 4, 0, 0, 0), (42, .iload_n 3, 0, 0, 0), (43, .iastore, 0, 0, 0), (44, .iconst 1, 0, 0, 0), (45, .ireturn, 0, 0, 0)]
def bd_21 : List BE := [(0, .aload_n 0, 0, 0, 0), (1, .iload_n 1, 0, 0, 0), (2, .putfield 19, 3, 0, 0), (5, .iconst 0, 0, 0, 0), (6, .istore_n 2, 0, 0, 0), (7, .iload_n 2, 0, 0, 0), (8, .iload_n 1, 0, 0, 0), (9, .if_icmp .ge 35, 44, 0, 0), (12, .iconst 0, 0, 0, 0), (13, .istore_n 3, 0, 0, 0), (14, .iload_n 3, 0, 0, 0), (15, .iload_n 1, 0, 0, 0), (16, .if_icmp .ge 22, 38, 0, 0), (19, .aload_n 0, 0, 0, 0), (20, .iload_n 2, 0, 0, 0), (21, .iload_n 3, 0, 0, 0), (22, .iload_n 1, 0, 0, 0), (23, .iload_n 2, 0, 0, 0), (24, .iload_n 3, 0, 0, 0), (25, .invokestatic 31, 27, 0, 0), (28, .invokevirtual 35, 20, 0, 0), (31, .pop, 0, 0, 0), (32, .iinc 3 1, 0, 0, 0), (35, .goto (-21), 14, 0, 0), (38, .iinc 2 1, 0, 0, 0), (41, .goto (-34), 7, 0, 0), (44, .return_, 0, 0, 0)]
def bd_22 : List BE := [(0, .iconst 0, 0, 0, 0), (1, .istore_n 1, 0, 0, 0), (2, .iconst 0, 0, 0, 0), (3, .istore_n 2, 0, 0, 0), (4, .iload_n 2, 0, 0, 0), (5, .aload_n 0, 0, 0, 0), (6, .getfield 19, 3, 0, 0), (9, .if_icmp .ge 84, 93, 0, 0), (12, .aload_n 0, 0, 0, 0), (13, .iload_n 2, 0, 0, 0), (14, .invokevirtual 38, 26, 0, 0), (17, .istore_n 3, 0, 0, 0), (18, .iconst 0, 0, 0, 0), (19, .istore 4, 0, 0, 0), (21, .iload 4, 0, 0, 0), (23, .aload_n 0, 0, 0, 0), (24, .getfield 19, 3, 0, 0), (27, .if_icmp .ge 60, 87, 0, 0), (30, .aload_n 0, 0, 0, 0), (31, .getfield 19, 3, 0, 0), (34, .aload_n 0, 0, 0, 0), (35, .getfield 19, 3, 0, 0), (38, .iload 4, 0, 0, 0), (40, .iload 4, 0, 0, 0), (42, .invokestatic 31, 27, 0, 0), (45, .iload 4, 0, 0, 0), (47, .invokestatic 31, 27, 0, 0), (50, .istore 5, 0, 0, 0), (52, .iload_n 1, 0, 0, 0), (53, .aload_n 0, 0, 0, 0), (54, .iload 4, 0, 0, 0), (56, .iload_n 2, 0, 0, 0), (57, .aload_n 0, 0, 0, 0), (58, .getfield 19, 3, 0, 0), (61, .iload_n 3, 0, 0, 0), (62, .ifCond .eq 8, 70, 0, 0), (65, .iload 4, 0, 0, 0), (67, .goto 5, 72, 0, 0), (70, .iload 5, 0, 0, 0), (72, .iload_n 2, 0, 0, 0), (73, .invokestatic 31, 27, 0, 0), (76, .invokevirtual 35, 20, 0, 0), (79, .iadd, 0, 0, 0), (80, .istore_n 1, 0, 0, 0), (81, .iinc 4 1, 0, 0, 0), (84, .goto (-63), 21, 0, 0), (87, .iinc 2 1, 0, 0, 0), (90, .goto (-86), 4, 0, 0), (93, .iload_n 1, 0, 0, 0), (94, .ireturn, 0, 0, 0)]
def bd_23 : List BE := [(0, .iconst 0, 0, 0, 0), (1, .istore_n 1, 0, 0, 0), (2, .iconst 1, 0, 0, 0), (3, .istore_n 2, 0, 0, 0), (4, .iload_n 2, 0, 0, 0), (5, .aload_n 0, 0, 0, 0), (6, .getfield 19, 3, 0, 0), (9, .if_icmp .ge 56, 65, 0, 0), (12, .iconst 0, 0, 0, 0), (13, .istore_n 3, 0, 0, 0), (14, .iload_n 3, 0, 0, 0), (15, .iload_n 2, 0, 0, 0), (16, .if_icmp .ge 43, 59, 0, 0), (19, .aload_n 0, 0, 0, 0), (20, .iload_n 2, 0, 0, 0), (21, .iload_n 3, 0, 0, 0), (22, .invokevirtual 23, 17, 0, 0), (25, .istore 4, 0, 0, 0), (27, .iload_n 1, 0, 0, 0), (28, .aload_n 0, 0, 0, 0), (29, .iload_n 2, 0, 0, 0), (30, .iload_n 3, 0, 0, 0), (31, .aload_n 0, 0, 0, 0), (32, .iload_n 3, 0, 0, 0), (33, .iload_n 2, 0, 0, 0), (34, .invokevirtual 23, 17, 0, 0), (37, .invokevirtual 35, 20, 0, 0), (40, .iadd, 0, 0, 0), (41, .istore_n 1, 0, 0, 0), (42, .iload_n 1, 0, 0, 0), (43, .aload_n 0, 0, 0, 0), (44, .iload_n 3, 0, 0, 0), (45, .iload_n 2, 0, 0, 0), (46, .iload 4, 0, 0, 0), (48, .invokevirtual 35, 20, 0, 0), (51, .iadd, 0, 0, 0), (52, .istore_n 1, 0, 0, 0), (53, .iinc 3 1, 0, 0, 0), (56, .goto (-42), 14, 0, 0), (59, .iinc 2 1, 0, 0, 0), (62, .goto (-58), 4, 0, 0), (65, .iload_n 1, 0, 0, 0), (66, .ireturn, 0, 0, 0)]
def bd_24 : List BE := [(0, .iconst 0, 0, 0, 0), (1, .istore_n 1, 0, 0, 0), (2, .iconst 0, 0, 0, 0), (3, .istore_n 2, 0, 0, 0), (4, .iload_n 2, 0, 0, 0), (5, .aload_n 0, 0, 0, 0), (6, .getfield 19, 3, 0, 0), (9, .if_icmp .ge 46, 55, 0, 0), (12, .iconst 0, 0, 0, 0), (13, .istore_n 3, 0, 0, 0), (14, .iload_n 3, 0, 0, 0), (15, .aload_n 0, 0, 0, 0), (16, .getfield 19, 3, 0, 0), (19, .if_icmp .ge 30, 49, 0, 0), (22, .aload_n 0, 0, 0, 0), (23, .iload_n 2, 0, 0, 0), (24, .iload_n 3, 0, 0, 0), (25, .invokevirtual 23, 17, 0, 0), (28, .aload_n 0, 0, 0, 0), (29, .getfield 19, 3, 0, 0), (32, .iload_n 2, 0, 0, 0), (33, .iload_n 3, 0, 0, 0), (34, .invokestatic 31, 27, 0, 0), (37, .if_icmp .eq 6, 43, 0, 0), (40, .iinc 1 1, 0, 0, 0), (43, .iinc 3 1, 0, 0, 0), (46, .goto (-32), 14, 0, 0), (49, .iinc 2 1, 0, 0, 0), (52, .goto (-48), 4, 0, 0), (55, .iload_n 1, 0, 0, 0), (56, .ireturn, 0, 0, 0)]
def bd_25 : List BE := [(0, .iconst 0, 0, 0, 0), (1, .istore_n 1, 0, 0, 0), (2, .iconst 0, 0, 0, 0), (3, .istore_n 2, 0, 0, 0), (4, .iload_n 2, 0, 0, 0), (5, .aload_n 0, 0, 0, 0), (6, .getfield 19, 3, 0, 0), (9, .if_icmp .ge 37, 46, 0, 0), (12, .iconst 0, 0, 0, 0), (13, .istore_n 3, 0, 0, 0), (14, .iload_n 3, 0, 0, 0), (15, .aload_n 0, 0, 0, 0), (16, .getfield 19, 3, 0, 0), (19, .if_icmp .ge 21, 40, 0, 0), (22, .aload_n 0, 0, 0, 0), (23, .iload_n 2, 0, 0, 0), (24, .iload_n 3, 0, 0, 0), (25, .invokevirtual 23, 17, 0, 0), (28, .ifCond .ne 6, 34, 0, 0), (31, .iinc 1 1, 0, 0, 0), (34, .iinc 3 1, 0, 0, 0), (37, .goto (-23), 14, 0, 0), (40, .iinc 2 1, 0, 0, 0), (43, .goto (-39), 4, 0, 0), (46, .iload_n 1, 0, 0, 0), (47, .ireturn, 0, 0, 0)]
def bd_26 : List BE := [(0, .iconst 0, 0, 0, 0), (1, .istore_n 2, 0, 0, 0), (2, .iload_n 2, 0, 0, 0), (3, .aload_n 0, 0, 0, 0), (4, .getfield 19, 3, 0, 0), (7, .if_icmp .ge 24, 31, 0, 0), (10, .aload_n 0, 0, 0, 0), (11, .getfield 19, 3, 0, 0), (14, .iload_n 2, 0, 0, 0), (15, .iload_n 2, 0, 0, 0), (16, .invokestatic 31, 27, 0, 0), (19, .iload_n 1, 0, 0, 0), (20, .if_icmp .ne 5, 25, 0, 0), (23, .iconst 1, 0, 0, 0), (24, .ireturn, 0, 0, 0), (25, .iinc 2 1, 0, 0, 0), (28, .goto (-26), 2, 0, 0), (31, .iconst 0, 0, 0, 0), (32, .ireturn, 0, 0, 0)]
def bd_27 : List BE := [(0, .iload_n 0, 0, 0, 0), (1, .iconst 4, 0, 0, 0), (2, .if_icmp .ne 25, 27, 0, 0), (5, .iload_n 1, 0, 0, 0), (6, .ifCond .eq 7, 13, 0, 0), (9, .iload_n 2, 0, 0, 0), (10, .ifCond .ne 7, 17, 0, 0), (13, .iconst 0, 0, 0, 0), (14, .goto 12, 26, 0, 0), (17, .iconst 1, 0, 0, 0), (18, .iload_n 1, 0, 0, 0), (19, .iload_n 2, 0, 0, 0), (20, .iadd, 0, 0, 0), (21, .iconst 2, 0, 0, 0), (22, .isub, 0, 0, 0), (23, .iconst 3, 0, 0, 0), (24, .irem, 0, 0, 0), (25, .iadd, 0, 0, 0), (26, .ireturn, 0, 0, 0), (27, .iload_n 0, 0, 0, 0), (28, .bipush 9, 0, 0, 9), (30, .if_icmp .ne 53, 83, 0, 0), (33, .iload_n 1, 0, 0, 0), (34, .iconst 3, 0, 0, 0), (35, .idiv, 0, 0, 0), (36, .istore_n 3, 0, 0, 0), (37, .iload_n 1, 0, 0, 0), (38, .iconst 3, 0, 0, 0), (39, .irem, 0, 0, 0), (40, .istore 4, 0, 0, 0), (42, .iload_n 2, 0, 0, 0), (43, .iconst 3, 0, 0, 0), (44, .idiv, 0, 0, 0), (45, .istore 5, 0, 0, 0), (47, .iload_n 2, 0, 0, 0), (48, .iconst 3, 0, 0, 0), (49, .irem, 0, 0, 0), (50, .istore 6, 0, 0, 0), (52, .iconst 3, 0, 0, 0), (53, .iload_n 3, 0, 0, 0), (54, .iload 6, 0, 0, 0), (56, .imul, 0, 0, 0), (57, .iload 4, 0, 0, 0), (59, .iload 5, 0, 0, 0), (61, .imul, 0, 0, 0), (62, .iadd, 0, 0, 0), (63, .iconst 3, 0, 0, 0), (64, .irem, 0, 0, 0), (65, .imul, 0, 0, 0), (66, .iload 4, 0, 0, 0), (68, .iload 6, 0, 0, 0), (70, .imul, 0, 0, 0), (71, .iload_n 3, 0, 0, 0), (72, .iload 5, 0, 0, 0), (74, .imul, 0, 0, 0), (75, .isub, 0, 0, 0), (76, .bipush 6, 0, 0, 6), (78, .iadd, 0, 0, 0), (79, .iconst 3, 0, 0, 0), (80, .irem, 0, 0, 0), (81, .iadd, 0, 0, 0), (82, .ireturn, 0, 0, 0), (83, .iload_n 0, 0, 0, 0), (84, .ifCond .le 11, 95, 0, 0), (87, .iload_n 1, 0, 0, 0), (88, .iload_n 2, 0, 0, 0), (89, .imul, 0, 0, 0), (90, .iload_n 0, 0, 0, 0), (91, .irem, 0, 0, 0), (92, .goto 4, 96, 0, 0), (95, .iconst 0, 0, 0, 0), (96, .ireturn, 0, 0, 0)]
def bd_28 : List BE := [(0, .aload_n 0, 0, 0, 0), (1, .invokespecial 3, 1000, 0, 0), (4, .aload_n 0, 0, 0, 0), (5, .bipush 60, 0, 0, 60), (7, .newarray .char, 1, 0, 0), (9, .putfield 9, 4, 0, 1), (12, .return_, 0, 0, 0)]
def bd_29 : List BE := [(0, .aload_n 0, 0, 0, 0), (1, .invokespecial 3, 1000, 0, 0), (4, .aload_n 0, 0, 0, 0), (5, .new 9, 2, 0, 0), (8, .dup, 0, 0, 0), (9, .invokespecial 11, 11, 0, 0), (12, .putfield 12, 5, 0, 1), (15, .aload_n 0, 0, 0, 0), (16, .aload_n 0, 0, 0, 0), (17, .getfield 12, 5, 0, 0), (20, .getfield 16, 2, 0, 0), (23, .putfield 20, 5, 1, 1), (26, .aload_n 0, 0, 0, 0), (27, .new 21, 0, 0, 0), (30, .dup, 0, 0, 0), (31, .invokespecial 23, 1, 0, 0), (34, .putfield 24, 5, 2, 1), (37, .aload_n 0, 0, 0, 0), (38, .new 28, 4, 0, 0), (41, .dup, 0, 0, 0), (42, .invokespecial 30, 28, 0, 0), (45, .putfield 31, 5, 3, 1), (48, .aload_n 0, 0, 0, 0), (49, .new 35, 1, 0, 0), (52, .dup, 0, 0, 0), (53, .invokespecial 37, 10, 0, 0), (56, .putfield 38, 5, 4, 1), (59, .return_, 0, 0, 0)]
def bd_30 : List BE := [(0, .iload_n 1, 0, 0, 0), (1, .invokestatic 42, 39, 0, 0), (4, .ifCond .ne 6, 10, 0, 0), (7, .ldc 46, 0, 0, (-1000001)), (9, .ireturn, 0, 0, 0), (10, .aload_n 0, 0, 0, 0), (11, .getfield 24, 5, 2, 0), (14, .aload_n 0, 0, 0, 0), (15, .getfield 20, 5, 1, 0), (18, .invokevirtual 47, 2, 0, 0), (21, .aload_n 0, 0, 0, 0), (22, .getfield 20, 5, 1, 0), (25, .getfield 51, 3, 0, 0), (28, .istore_n 2, 0, 0, 0), (29, .aload_n 0, 0, 0, 0), (30, .getfield 20, 5, 1, 0), (33, .iload_n 1, 0, 0, 0), (34, .invokevirtual 57, 21, 0, 0), (37, .iload_n 2, 0, 0, 0), (38, .ireturn, 0, 0, 0)]
def bd_31 : List BE := [(0, .aload_n 0, 0, 0, 0), (1, .getfield 20, 5, 1, 0), (4, .getfield 51, 3, 0, 0), (7, .bipush 9, 0, 0, 9), (9, .if_icmp .eq 6, 15, 0, 0), (12, .ldc 61, 0, 0, (-1000002)), (14, .ireturn, 0, 0, 0), (15, .aload_n 0, 0, 0, 0), (16, .getfield 24, 5, 2, 0), (19, .aload_n 0, 0, 0, 0), (20, .getfield 20, 5, 1, 0), (23, .invokevirtual 47, 2, 0, 0), (26, .aload_n 0, 0, 0, 0), (27, .getfield 20, 5, 1, 0), (30, .invokevirtual 62, 22, 0, 0), (33, .ireturn, 0, 0, 0)]
def bd_32 : List BE := [(0, .aload_n 0, 0, 0, 0), (1, .getfield 20, 5, 1, 0), (4, .iload_n 1, 0, 0, 0), (5, .invokevirtual 66, 14, 0, 0), (8, .ifCond .eq 25, 33, 0, 0), (11, .aload_n 0, 0, 0, 0), (12, .getfield 20, 5, 1, 0), (15, .iload_n 2, 0, 0, 0), (16, .invokevirtual 66, 14, 0, 0), (19, .ifCond .eq 14, 33, 0, 0), (22, .aload_n 0, 0, 0, 0), (23, .getfield 20, 5, 1, 0), (26, .iload_n 3, 0, 0, 0), (27, .invokevirtual 66, 14, 0, 0), (30, .ifCond .ne 6, 36, 0, 0), (33, .ldc 46, 0, 0, (-1000001)), (35, .ireturn, 0, 0, 0), (36, .aload_n 0, 0, 0, 0), (37, .getfield 24, 5, 2, 0), (40, .aload_n 0, 0, 0, 0), (41, .getfield 20, 5, 1, 0), (44, .invokevirtual 47, 2, 0, 0), (47, .aload_n 0, 0, 0, 0), (48, .getfield 20, 5, 1, 0), (51, .iload_n 1, 0, 0, 0), (52, .iload_n 2, 0, 0, 0), (53, .invokevirtual 69, 17, 0, 0), (56, .istore 4, 0, 0, 0), (58, .aload_n 0, 0, 0, 0), (59, .getfield 20, 5, 1, 0), (62, .iload_n 1, 0, 0, 0), (63, .iload_n 2, 0, 0, 0), (64, .iload_n 3, 0, 0, 0), (65, .invokevirtual 73, 20, 0, 0), (68, .pop, 0, 0, 0), (69, .iload 4, 0, 0, 0), (71, .ireturn, 0, 0, 0)]
def bd_33 : List BE := [(0, .aload_n 0, 0, 0, 0), (1, .getfield 24, 5, 2, 0), (4, .aload_n 0, 0, 0, 0), (5, .getfield 20, 5, 1, 0), (8, .invokevirtual 47, 2, 0, 0), (11, .aload_n 0, 0, 0, 0), (12, .getfield 20, 5, 1, 0), (15, .invokevirtual 77, 23, 0, 0), (18, .ireturn, 0, 0, 0)]
def bd_34 : List BE := [(0, .aload_n 0, 0, 0, 0), (1, .getfield 20, 5, 1, 0), (4, .iload_n 1, 0, 0, 0), (5, .invokevirtual 66, 14, 0, 0), (8, .ifCond .eq 14, 22, 0, 0), (11, .aload_n 0, 0, 0, 0), (12, .getfield 20, 5, 1, 0), (15, .iload_n 2, 0, 0, 0), (16, .invokevirtual 66, 14, 0, 0), (19, .ifCond .ne 6, 25, 0, 0), (22, .ldc 46, 0, 0, (-1000001)), (24, .ireturn, 0, 0, 0), (25, .iload_n 3, 0, 0, 0), (26, .tableswitch 92 0 4 #[34, 44, 54, 64, 78], 0, 0, 0), (60, .aload_n 0, 0, 0, 0), (61, .getfield 20, 5, 1, 0), (64, .iload_n 1, 0, 0, 0), (65, .iload_n 2, 0, 0, 0), (66, .invokevirtual 80, 15, 0, 0), (69, .ireturn, 0, 0, 0), (70, .aload_n 0, 0, 0, 0), (71, .getfield 20, 5, 1, 0), (74, .iload_n 1, 0, 0, 0), (75, .iload_n 2, 0, 0, 0), (76, .invokevirtual 83, 16, 0, 0), (79, .ireturn, 0, 0, 0), (80, .aload_n 0, 0, 0, 0), (81, .getfield 20, 5, 1, 0), (84, .iload_n 1, 0, 0, 0), (85, .iload_n 2, 0, 0, 0), (86, .invokevirtual 69, 17, 0, 0), (89, .ireturn, 0, 0, 0), (90, .aload_n 0, 0, 0, 0), (91, .getfield 20, 5, 1, 0), (94, .iload_n 1, 0, 0, 0), (95, .iload_n 2, 0, 0, 0), (96, .iconst 1, 0, 0, 0), (97, .invokevirtual 86, 19, 0, 0), (100, .invokestatic 90, 40, 0, 0), (103, .ireturn, 0, 0, 0), (104, .aload_n 0, 0, 0, 0), (105, .getfield 20, 5, 1, 0), (108, .iload_n 1, 0, 0, 0), (109, .iload_n 2, 0, 0, 0), (110, .iconst 0, 0, 0, 0), (111, .invokevirtual 86, 19, 0, 0), (114, .invokestatic 90, 40, 0, 0), (117, .ireturn, 0, 0, 0), (118, .ldc 46, 0, 0, (-1000001)), (120, .ireturn, 0, 0, 0)]
def bd_35 : List BE := [(0, .iload_n 1, 0, 0, 0), (1, .ifCond .lt 18, 19, 0, 0), (4, .iload_n 1, 0, 0, 0), (5, .bipush 8, 0, 0, 8), (7, .if_icmp .ge 12, 19, 0, 0), (10, .iload_n 2, 0, 0, 0), (11, .ifCond .lt 8, 19, 0, 0), (14, .iload_n 2, 0, 0, 0), (15, .iconst 3, 0, 0, 0), (16, .if_icmp .le 6, 22, 0, 0), (19, .ldc 46, 0, 0, (-1000001)), (21, .ireturn, 0, 0, 0), (22, .aload_n 0, 0, 0, 0), (23, .getfield 20, 5, 1, 0), (26, .iload_n 1, 0, 0, 0), (27, .invokestatic 94, 4, 0, 0), (30, .istore_n 3, 0, 0, 0), (31, .iload_n 2, 0, 0, 0), (32, .ifCond .ne 14, 46, 0, 0), (35, .iload_n 3, 0, 0, 0), (36, .iconst (-1), 0, 0, 0), (37, .if_icmp .ne 7, 44, 0, 0), (40, .iconst 1, 0, 0, 0), (41, .goto 4, 45, 0, 0), (44, .iconst 0, 0, 0, 0), (45, .ireturn, 0, 0, 0), (46, .iload_n 3, 0, 0, 0), (47, .iconst (-1), 0, 0, 0), (48, .if_icmp .ne 8, 56, 0, 0), (51, .ldc 100, 0, 0, (-1000004)), (53, .goto 8, 61, 0, 0), (56, .iload_n 3, 0, 0, 0), (57, .iload_n 2, 0, 0, 0), (58, .invokestatic 101, 5, 0, 0), (61, .ireturn, 0, 0, 0)]
def bd_36 : List BE := [(0, .iload_n 1, 0, 0, 0), (1, .ifCond .lt 8, 9, 0, 0), (4, .iload_n 1, 0, 0, 0), (5, .iconst 2, 0, 0, 0), (6, .if_icmp .le 6, 12, 0, 0), (9, .ldc 46, 0, 0, (-1000001)), (11, .ireturn, 0, 0, 0), (12, .iconst 0, 0, 0, 0), (13, .istore_n 2, 0, 0, 0), (14, .iconst 0, 0, 0, 0), (15, .istore_n 3, 0, 0, 0), (16, .iload_n 3, 0, 0, 0), (17, .aload_n 0, 0, 0, 0), (18, .getfield 20, 5, 1, 0), (21, .getfield 51, 3, 0, 0), (24, .if_icmp .ge 27, 51, 0, 0), (27, .aload_n 0, 0, 0, 0), (28, .getfield 20, 5, 1, 0), (31, .iload_n 1, 0, 0, 0), (32, .iload_n 3, 0, 0, 0), (33, .invokestatic 104, 7, 0, 0), (36, .ifCond .eq 9, 45, 0, 0), (39, .iload_n 2, 0, 0, 0), (40, .iconst 1, 0, 0, 0), (41, .iload_n 3, 0, 0, 0), (42, .ishl, 0, 0, 0), (43, .ior, 0, 0, 0), (44, .istore_n 2, 0, 0, 0), (45, .iinc 3 1, 0, 0, 0), (48, .goto (-32), 16, 0, 0), (51, .iload_n 2, 0, 0, 0), (52, .ireturn, 0, 0, 0)]
def bd_37 : List BE := [(0, .iconst 0, 0, 0, 0), (1, .istore_n 1, 0, 0, 0), (2, .iconst 0, 0, 0, 0), (3, .istore_n 2, 0, 0, 0), (4, .iload_n 2, 0, 0, 0), (5, .bipush 8, 0, 0, 8), (7, .if_icmp .ge 24, 31, 0, 0), (10, .aload_n 0, 0, 0, 0), (11, .getfield 20, 5, 1, 0), (14, .iload_n 2, 0, 0, 0), (15, .invokestatic 94, 4, 0, 0), (18, .iconst (-1), 0, 0, 0), (19, .if_icmp .ne 6, 25, 0, 0), (22, .iinc 1 1, 0, 0, 0), (25, .iinc 2 1, 0, 0, 0), (28, .goto (-24), 4, 0, 0), (31, .iload_n 1, 0, 0, 0), (32, .i2f, 0, 0, 0), (33, .ldc 147, 0, 1, 1090519040), (35, .fdiv, 0, 0, 0), (36, .invokestatic 148, 41, 0, 0), (39, .ireturn, 0, 0, 0)]
def bd_38 : List BE := [(0, .iload_n 1, 0, 0, 0), (1, .tableswitch 87 0 5 #[39, 47, 55, 63, 71, 79], 0, 0, 0), (40, .aload_n 0, 0, 0, 0), (41, .getfield 20, 5, 1, 0), (44, .getfield 51, 3, 0, 0), (47, .ireturn, 0, 0, 0), (48, .aload_n 0, 0, 0, 0), (49, .getfield 12, 5, 0, 0), (52, .invokevirtual 152, 12, 0, 0), (55, .ireturn, 0, 0, 0), (56, .aload_n 0, 0, 0, 0), (57, .getfield 20, 5, 1, 0), (60, .invokevirtual 155, 24, 0, 0), (63, .ireturn, 0, 0, 0), (64, .aload_n 0, 0, 0, 0), (65, .getfield 20, 5, 1, 0), (68, .invokevirtual 158, 25, 0, 0), (71, .ireturn, 0, 0, 0), (72, .aload_n 0, 0, 0, 0), (73, .getfield 24, 5, 2, 0), (76, .getfield 161, 0, 2, 0), (79, .ireturn, 0, 0, 0), (80, .aload_n 0, 0, 0, 0), (81, .getfield 31, 5, 3, 0), (84, .getfield 164, 4, 1, 0), (87, .ireturn, 0, 0, 0), (88, .ldc 46, 0, 0, (-1000001)), (90, .ireturn, 0, 0, 0)]
def bd_39 : List BE := [(0, .iload_n 0, 0, 0, 0), (1, .iconst 2, 0, 0, 0), (2, .if_icmp .eq 30, 32, 0, 0), (5, .iload_n 0, 0, 0, 0), (6, .iconst 3, 0, 0, 0), (7, .if_icmp .eq 25, 32, 0, 0), (10, .iload_n 0, 0, 0, 0), (11, .iconst 4, 0, 0, 0), (12, .if_icmp .eq 20, 32, 0, 0), (15, .iload_n 0, 0, 0, 0), (16, .iconst 5, 0, 0, 0), (17, .if_icmp .eq 15, 32, 0, 0), (20, .iload_n 0, 0, 0, 0), (21, .bipush 7, 0, 0, 7), (23, .if_icmp .eq 9, 32, 0, 0), (26, .iload_n 0, 0, 0, 0), (27, .bipush 9, 0, 0, 9), (29, .if_icmp .ne 7, 36, 0, 0), (32, .iconst 1, 0, 0, 0), (33, .goto 4, 37, 0, 0), (36, .iconst 0, 0, 0, 0), (37, .ireturn, 0, 0, 0)]
def bd_40 : List BE := [(0, .iload_n 0, 0, 0, 0), (1, .iconst (-1), 0, 0, 0), (2, .if_icmp .ne 8, 10, 0, 0), (5, .ldc 100, 0, 0, (-1000004)), (7, .goto 4, 11, 0, 0), (10, .iload_n 0, 0, 0, 0), (11, .ireturn, 0, 0, 0)]
def bd_41 : List BE := [(0, .fload_n 0, 0, 0, 0), (1, .fconst 0, 0, 0, 0), (2, .fcmp .g, 0, 0, 0), (3, .ifCond .gt 5, 8, 0, 0), (6, .iconst 0, 0, 0, 0), (7, .ireturn, 0, 0, 0), (8, .fload_n 0, 0, 0, 0), (9, .fstore_n 1, 0, 0, 0), (10, .bipush 127, 0, 0, 127), (12, .istore_n 2, 0, 0, 0), (13, .iconst 0, 0, 0, 0), (14, .istore_n 3, 0, 0, 0), (15, .iload_n 3, 0, 0, 0), (16, .bipush 126, 0, 0, 126), (18, .if_icmp .ge 22, 40, 0, 0), (21, .fload_n 1, 0, 0, 0), (22, .fconst 1, 0, 0, 0), (23, .fcmp .g, 0, 0, 0), (24, .ifCond .ge 16, 40, 0, 0), (27, .fload_n 1, 0, 0, 0), (28, .fconst 2, 0, 0, 0), (29, .fmul, 0, 0, 0), (30, .fstore_n 1, 0, 0, 0), (31, .iinc 2 (-1), 0, 0, 0), (34, .iinc 3 1, 0, 0, 0), (37, .goto (-22), 15, 0, 0), (40, .iload_n 2, 0, 0, 0), (41, .bipush 23, 0, 0, 23), (43, .ishl, 0, 0, 0), (44, .fload_n 1, 0, 0, 0), (45, .fconst 1, 0, 0, 0), (46, .fsub, 0, 0, 0), (47, .ldc 186, 0, 1, 1258291200), (49, .fmul, 0, 0, 0), (50, .f2i, 0, 0, 0), (51, .iadd, 0, 0, 0), (52, .ireturn, 0, 0, 0)]
def bd_42 : List BE := [(0, .iload_n 0, 0, 0, 0), (1, .iload_n 0, 0, 0, 0), (2, .iconst 1, 0, 0, 0), (3, .iushr, 0, 0, 0), (4, .ldc_w 265, 0, 0, 1431655765), (7, .iand, 0, 0, 0), (8, .isub, 0, 0, 0), (9, .istore_n 0, 0, 0, 0), (10, .iload_n 0, 0, 0, 0), (11, .ldc_w 266, 0, 0, 858993459), (14, .iand, 0, 0, 0), (15, .iload_n 0, 0, 0, 0), (16, .iconst 2, 0, 0, 0), (17, .iushr, 0, 0, 0), (18, .ldc_w 266, 0, 0, 858993459), (21, .iand, 0, 0, 0), (22, .iadd, 0, 0, 0), (23, .istore_n 0, 0, 0, 0), (24, .iload_n 0, 0, 0, 0), (25, .iload_n 0, 0, 0, 0), (26, .iconst 4, 0, 0, 0), (27, .iushr, 0, 0, 0), (28, .iadd, 0, 0, 0), (29, .ldc_w 267, 0, 0, 252645135), (32, .iand, 0, 0, 0), (33, .istore_n 0, 0, 0, 0), (34, .iload_n 0, 0, 0, 0), (35, .iload_n 0, 0, 0, 0), (36, .bipush 8, 0, 0, 8), (38, .iushr, 0, 0, 0), (39, .iadd, 0, 0, 0), (40, .istore_n 0, 0, 0, 0), (41, .iload_n 0, 0, 0, 0), (42, .iload_n 0, 0, 0, 0), (43, .bipush 16, 0, 0, 16), (45, .iushr, 0, 0, 0), (46, .iadd, 0, 0, 0), (47, .istore_n 0, 0, 0, 0), (48, .iload_n 0, 0, 0, 0), (49, .bipush 63, 0, 0, 63), (51, .iand, 0, 0, 0), (52, .ireturn, 0, 0, 0)]
def bd_43 : List BE := [(0, .iload_n 1, 0, 0, 0), (1, .aload_n 0, 0, 0, 0), (2, .arraylength, 0, 0, 0), (3, .if_icmp .ge 9, 12, 0, 0), (6, .aload_n 0, 0, 0, 0), (7, .iload_n 1, 0, 0, 0), (8, .iaload, 0, 0, 0), (9, .goto 9, 18, 0, 0), (12, .ldc 7, 0, 0, 40503), (14, .iload_n 1, 0, 0, 0), (15, .iconst 3, 0, 0, 0), (16, .iadd, 0, 0, 0), (17, .imul, 0, 0, 0), (18, .ireturn, 0, 0, 0)]
def bd_44 : List BE := [(0, .iload_n 0, 0, 0, 0), (1, .ldc 8, 0, 0, 2147483647), (3, .iand, 0, 0, 0), (4, .iload_n 1, 0, 0, 0), (5, .irem, 0, 0, 0), (6, .ireturn, 0, 0, 0)]
def bd_45 : List BE := [(0, .aload_n 0, 0, 0, 0), (1, .iconst 0, 0, 0, 0), (2, .iaload, 0, 0, 0), (3, .istore_n 3, 0, 0, 0), (4, .iload_n 3, 0, 0, 0), (5, .bipush 9, 0, 0, 9), (7, .if_icmp .ne 25, 32, 0, 0), (10, .iload_n 1, 0, 0, 0), (11, .iconst 3, 0, 0, 0), (12, .idiv, 0, 0, 0), (13, .iload_n 2, 0, 0, 0), (14, .iconst 3, 0, 0, 0), (15, .idiv, 0, 0, 0), (16, .iadd, 0, 0, 0), (17, .iconst 3, 0, 0, 0), (18, .irem, 0, 0, 0), (19, .iconst 3, 0, 0, 0), (20, .imul, 0, 0, 0), (21, .iload_n 1, 0, 0, 0), (22, .iconst 3, 0, 0, 0), (23, .irem, 0, 0, 0), (24, .iload_n 2, 0, 0, 0), (25, .iconst 3, 0, 0, 0), (26, .irem, 0, 0, 0), (27, .iadd, 0, 0, 0), (28, .iconst 3, 0, 0, 0), (29, .irem, 0, 0, 0), (30, .iadd, 0, 0, 0), (31, .ireturn, 0, 0, 0), (32, .iload_n 3, 0, 0, 0), (33, .iconst 4, 0, 0, 0), (34, .if_icmp .ne 9, 43, 0, 0), (37, .iload_n 1, 0, 0, 0), (38, .iload_n 2, 0, 0, 0), (39, .ixor, 0, 0, 0), (40, .goto 8, 48, 0, 0), (43, .iload_n 1, 0, 0, 0), (44, .iload_n 2, 0, 0, 0), (45, .iadd, 0, 0, 0), (46, .iload_n 3, 0, 0, 0), (47, .irem, 0, 0, 0), (48, .ireturn, 0, 0, 0)]
def bd_46 : List BE := [(0, .aload_n 0, 0, 0, 0), (1, .iconst 0, 0, 0, 0), (2, .iaload, 0, 0, 0), (3, .istore_n 3, 0, 0, 0), (4, .iload_n 3, 0, 0, 0), (5, .bipush 9, 0, 0, 9), (7, .if_icmp .ne 29, 36, 0, 0), (10, .iload_n 1, 0, 0, 0), (11, .iconst 3, 0, 0, 0), (12, .idiv, 0, 0, 0), (13, .iconst 3, 0, 0, 0), (14, .iadd, 0, 0, 0), (15, .iload_n 2, 0, 0, 0), (16, .iconst 3, 0, 0, 0), (17, .idiv, 0, 0, 0), (18, .isub, 0, 0, 0), (19, .iconst 3, 0, 0, 0), (20, .irem, 0, 0, 0), (21, .iconst 3, 0, 0, 0), (22, .imul, 0, 0, 0), (23, .iload_n 1, 0, 0, 0), (24, .iconst 3, 0, 0, 0), (25, .irem, 0, 0, 0), (26, .iconst 3, 0, 0, 0), (27, .iadd, 0, 0, 0), (28, .iload_n 2, 0, 0, 0), (29, .iconst 3, 0, 0, 0), (30, .irem, 0, 0, 0), (31, .isub, 0, 0, 0), (32, .iconst 3, 0, 0, 0), (33, .irem, 0, 0, 0), (34, .iadd, 0, 0, 0), (35, .ireturn, 0, 0, 0), (36, .iload_n 3, 0, 0, 0), (37, .iconst 4, 0, 0, 0), (38, .if_icmp .ne 9, 47, 0, 0), (41, .iload_n 1, 0, 0, 0), (42, .iload_n 2, 0, 0, 0), (43, .ixor, 0, 0, 0), (44, .goto 10, 54, 0, 0), (47, .iload_n 1, 0, 0, 0), (48, .iload_n 3, 0, 0, 0), (49, .iadd, 0, 0, 0), (50, .iload_n 2, 0, 0, 0), (51, .isub, 0, 0, 0), (52, .iload_n 3, 0, 0, 0), (53, .irem, 0, 0, 0), (54, .ireturn, 0, 0, 0)]
def bd_47 : List BE := [(0, .aload_n 0, 0, 0, 0), (1, .iload_n 1, 0, 0, 0), (2, .laload, 0, 0, 0), (3, .iconst 4, 0, 0, 0), (4, .iload_n 2, 0, 0, 0), (5, .imul, 0, 0, 0), (6, .lshr, 0, 0, 0), (7, .ldc2_w 9, 0, 0, 15), (10, .land, 0, 0, 0), (11, .l2i, 0, 0, 0), (12, .ireturn, 0, 0, 0)]
def bd_48 : List BE := [(0, .aload_n 0, 0, 0, 0), (1, .iload_n 1, 0, 0, 0), (2, .aload_n 0, 0, 0, 0), (3, .iload_n 1, 0, 0, 0), (4, .laload, 0, 0, 0), (5, .ldc2_w 9, 0, 0, 15), (8, .iconst 4, 0, 0, 0), (9, .iload_n 2, 0, 0, 0), (10, .imul, 0, 0, 0), (11, .lshl, 0, 0, 0), (12, .ldc2_w 11, 0, 0, (-1)), (15, .lxor, 0, 0, 0), (16, .land, 0, 0, 0), (17, .iload_n 3, 0, 0, 0), (18, .i2l, 0, 0, 0), (19, .iconst 4, 0, 0, 0), (20, .iload_n 2, 0, 0, 0), (21, .imul, 0, 0, 0), (22, .lshl, 0, 0, 0), (23, .lor, 0, 0, 0), (24, .lastore, 0, 0, 0), (25, .return_, 0, 0, 0)]
def bd_49 : List BE := [(0, .aload_n 0, 0, 0, 0), (1, .iconst 0, 0, 0, 0), (2, .iaload, 0, 0, 0), (3, .iconst 4, 0, 0, 0), (4, .if_icmp .ne 27, 31, 0, 0), (7, .iload_n 1, 0, 0, 0), (8, .ifCond .eq 7, 15, 0, 0), (11, .iload_n 2, 0, 0, 0), (12, .ifCond .ne 7, 19, 0, 0), (15, .iconst 0, 0, 0, 0), (16, .goto 14, 30, 0, 0), (19, .iload_n 1, 0, 0, 0), (20, .iconst 1, 0, 0, 0), (21, .isub, 0, 0, 0), (22, .iload_n 2, 0, 0, 0), (23, .iadd, 0, 0, 0), (24, .iconst 1, 0, 0, 0), (25, .isub, 0, 0, 0), (26, .iconst 3, 0, 0, 0), (27, .irem, 0, 0, 0), (28, .iconst 1, 0, 0, 0), (29, .iadd, 0, 0, 0), (30, .ireturn, 0, 0, 0), (31, .aload_n 0, 0, 0, 0), (32, .iconst 0, 0, 0, 0), (33, .iaload, 0, 0, 0), (34, .bipush 9, 0, 0, 9), (36, .if_icmp .ne 42, 78, 0, 0), (39, .iload_n 1, 0, 0, 0), (40, .iconst 3, 0, 0, 0), (41, .idiv, 0, 0, 0), (42, .iload_n 2, 0, 0, 0), (43, .imul, 0, 0, 0), (44, .iload_n 2, 0, 0, 0), (45, .iconst 3, 0, 0, 0), (46, .idiv, 0, 0, 0), (47, .iload_n 1, 0, 0, 0), (48, .imul, 0, 0, 0), (49, .iadd, 0, 0, 0), (50, .iconst 3, 0, 0, 0), (51, .irem, 0, 0, 0), (52, .istore_n 3, 0, 0, 0), (53, .iload_n 1, 0, 0, 0), (54, .iload_n 2, 0, 0, 0), (55, .imul, 0, 0, 0), (56, .bipush 6, 0, 0, 6), (58, .iadd, 0, 0, 0), (59, .iload_n 1, 0, 0, 0), (60, .iconst 3, 0, 0, 0), (61, .idiv, 0, 0, 0), (62, .iload_n 2, 0, 0, 0), (63, .iconst 3, 0, 0, 0), (64, .idiv, 0, 0, 0), (65, .imul, 0, 0, 0), (66, .isub, 0, 0, 0), (67, .iconst 3, 0, 0, 0), (68, .irem, 0, 0, 0), (69, .istore 4, 0, 0, 0), (71, .iconst 3, 0, 0, 0), (72, .iload_n 3, 0, 0, 0), (73, .imul, 0, 0, 0), (74, .iload 4, 0, 0, 0), (76, .iadd, 0, 0, 0), (77, .ireturn, 0, 0, 0), (78, .iload_n 1, 0, 0, 0), (79, .iload_n 2, 0, 0, 0), (80, .imul, 0, 0, 0), (81, .aload_n 0, 0, 0, 0), (82, .iconst 0, 0, 0, 0), (83, .iaload, 0, 0, 0), (84, .irem, 0, 0, 0), (85, .ireturn, 0, 0, 0)]
def bd_50 : List BE := [(0, .iconst 0, 0, 0, 0), (1, .istore_n 2, 0, 0, 0), (2, .iconst 0, 0, 0, 0), (3, .istore_n 3, 0, 0, 0), (4, .iload_n 3, 0, 0, 0), (5, .aload_n 0, 0, 0, 0), (6, .iconst 0, 0, 0, 0), (7, .iaload, 0, 0, 0), (8, .if_icmp .ge 51, 59, 0, 0), (11, .iconst 0, 0, 0, 0), (12, .istore 4, 0, 0, 0), (14, .iload 4, 0, 0, 0), (16, .aload_n 0, 0, 0, 0), (17, .iconst 0, 0, 0, 0), (18, .iaload, 0, 0, 0), (19, .if_icmp .ge 34, 53, 0, 0), (22, .iload_n 2, 0, 0, 0), (23, .aload_n 1, 0, 0, 0), (24, .iload_n 3, 0, 0, 0), (25, .iload 4, 0, 0, 0), (27, .invokestatic 13, 47, 0, 0), (30, .aload_n 0, 0, 0, 0), (31, .iload_n 3, 0, 0, 0), (32, .iload 4, 0, 0, 0), (34, .invokestatic 19, 49, 0, 0), (37, .if_icmp .ne 7, 44, 0, 0), (40, .iconst 0, 0, 0, 0), (41, .goto 4, 45, 0, 0), (44, .iconst 1, 0, 0, 0), (45, .iadd, 0, 0, 0), (46, .istore_n 2, 0, 0, 0), (47, .iinc 4 1, 0, 0, 0), (50, .goto (-36), 14, 0, 0), (53, .iinc 3 1, 0, 0, 0), (56, .goto (-52), 4, 0, 0), (59, .iload_n 2, 0, 0, 0), (60, .ireturn, 0, 0, 0)]
def bd_51 : List BE := [(0, .aload_n 0, 0, 0, 0), (1, .iconst 0, 0, 0, 0), (2, .iload_n 2, 0, 0, 0), (3, .iastore, 0, 0, 0), (4, .iconst 0, 0, 0, 0), (5, .istore_n 3, 0, 0, 0), (6, .iload_n 3, 0, 0, 0), (7, .iload_n 2, 0, 0, 0), (8, .if_icmp .ge 42, 50, 0, 0), (11, .aload_n 1, 0, 0, 0), (12, .iload_n 3, 0, 0, 0), (13, .lconst 0, 0, 0, 0), (14, .lastore, 0, 0, 0), (15, .iconst 0, 0, 0, 0), (16, .istore 4, 0, 0, 0), (18, .iload 4, 0, 0, 0), (20, .iload_n 2, 0, 0, 0), (21, .if_icmp .ge 23, 44, 0, 0), (24, .aload_n 1, 0, 0, 0), (25, .iload_n 3, 0, 0, 0), (26, .iload 4, 0, 0, 0), (28, .aload_n 0, 0, 0, 0), (29, .iload_n 3, 0, 0, 0), (30, .iload 4, 0, 0, 0), (32, .invokestatic 19, 49, 0, 0), (35, .invokestatic 23, 48, 0, 0), (38, .iinc 4 1, 0, 0, 0), (41, .goto (-23), 18, 0, 0), (44, .iinc 3 1, 0, 0, 0), (47, .goto (-41), 6, 0, 0), (50, .return_, 0, 0, 0)]
def bd_52 : List BE := [(0, .iload_n 0, 0, 0, 0), (1, .bipush 6, 0, 0, 6), (3, .irem, 0, 0, 0), (4, .ifCond .ne 7, 11, 0, 0), (7, .iconst 2, 0, 0, 0), (8, .goto 54, 62, 0, 0), (11, .iload_n 0, 0, 0, 0), (12, .bipush 6, 0, 0, 6), (14, .irem, 0, 0, 0), (15, .iconst 1, 0, 0, 0), (16, .if_icmp .ne 7, 23, 0, 0), (19, .iconst 3, 0, 0, 0), (20, .goto 42, 62, 0, 0), (23, .iload_n 0, 0, 0, 0), (24, .bipush 6, 0, 0, 6), (26, .irem, 0, 0, 0), (27, .iconst 2, 0, 0, 0), (28, .if_icmp .ne 7, 35, 0, 0), (31, .iconst 4, 0, 0, 0), (32, .goto 30, 62, 0, 0), (35, .iload_n 0, 0, 0, 0), (36, .bipush 6, 0, 0, 6), (38, .irem, 0, 0, 0), (39, .iconst 3, 0, 0, 0), (40, .if_icmp .ne 7, 47, 0, 0), (43, .iconst 5, 0, 0, 0), (44, .goto 18, 62, 0, 0), (47, .iload_n 0, 0, 0, 0), (48, .bipush 6, 0, 0, 6), (50, .irem, 0, 0, 0), (51, .iconst 4, 0, 0, 0), (52, .if_icmp .ne 8, 60, 0, 0), (55, .bipush 7, 0, 0, 7), (57, .goto 5, 62, 0, 0), (60, .bipush 9, 0, 0, 9), (62, .ireturn, 0, 0, 0)]
def bd_53 : List BE := [(0, .iload_n 3, 0, 0, 0), (1, .iconst 4, 0, 0, 0), (2, .ishr, 0, 0, 0), (3, .ldc 27, 0, 0, 10000000), (5, .invokestatic 28, 44, 0, 0), (8, .istore 4, 0, 0, 0), (10, .iload_n 3, 0, 0, 0), (11, .bipush 16, 0, 0, 16), (13, .invokestatic 28, 44, 0, 0), (16, .istore 5, 0, 0, 0), (18, .aload_n 1, 0, 0, 0), (19, .iconst 0, 0, 0, 0), (20, .iaload, 0, 0, 0), (21, .istore 6, 0, 0, 0), (23, .iload 5, 0, 0, 0), (25, .bipush 6, 0, 0, 6), (27, .if_icmp .ge 31, 58, 0, 0), (30, .aload_n 1, 0, 0, 0), (31, .aload_n 2, 0, 0, 0), (32, .iload 4, 0, 0, 0), (34, .invokestatic 32, 52, 0, 0), (37, .invokestatic 36, 51, 0, 0), (40, .aload_n 0, 0, 0, 0), (41, .aload_n 1, 0, 0, 0), (42, .iconst 0, 0, 0, 0), (43, .iaload, 0, 0, 0), (44, .invokevirtual 40, 30, 0, 0), (47, .iload 6, 0, 0, 0), (49, .if_icmp .ne 7, 56, 0, 0), (52, .iconst 1, 0, 0, 0), (53, .goto 4, 57, 0, 0), (56, .iconst 0, 0, 0, 0), (57, .ireturn, 0, 0, 0), (58, .iload 5, 0, 0, 0), (60, .bipush 9, 0, 0, 9), (62, .if_icmp .ge 184, 246, 0, 0), (65, .iload 6, 0, 0, 0), (67, .bipush 9, 0, 0, 9), (69, .if_icmp .eq 18, 87, 0, 0), (72, .aload_n 0, 0, 0, 0), (73, .invokevirtual 45, 31, 0, 0), (76, .ldc 49, 0, 0, (-1000002)), (78, .if_icmp .ne 7, 85, 0, 0), (81, .iconst 1, 0, 0, 0), (82, .goto 4, 86, 0, 0), (85, .iconst 0, 0, 0, 0), (86, .ireturn, 0, 0, 0), (87, .iconst 0, 0, 0, 0), (88, .istore 7, 0, 0, 0), (90, .iconst 0, 0, 0, 0), (91, .istore 8, 0, 0, 0), (93, .iconst 0, 0, 0, 0), (94, .istore 9, 0, 0, 0), (96, .iload 9, 0, 0, 0), (98, .bipush 9, 0, 0, 9), (100, .if_icmp .ge 24, 124, 0, 0), (103, .iload 8, 0, 0, 0), (105, .iconst 1, 0, 0, 0), (106, .aload_n 1, 0, 0, 0), (107, .iload 9, 0, 0, 0), (109, .iload 9, 0, 0, 0), (111, .invokestatic 19, 49, 0, 0), (114, .ishl, 0, 0, 0), (115, .ior, 0, 0, 0), (116, .istore 8, 0, 0, 0), (118, .iinc 9 1, 0, 0, 0), (121, .goto (-25), 96, 0, 0), (124, .iconst 0, 0, 0, 0), (125, .istore 9, 0, 0, 0), (127, .iload 9, 0, 0, 0), (129, .bipush 9, 0, 0, 9), (131, .if_icmp .ge 100, 231, 0, 0), (134, .aload_n 1, 0, 0, 0), (135, .iload 9, 0, 0, 0), (137, .aload_n 1, 0, 0, 0), (138, .iload 9, 0, 0, 0), (140, .iload 9, 0, 0, 0), (142, .invokestatic 19, 49, 0, 0), (145, .invokestatic 19, 49, 0, 0), (148, .istore 10, 0, 0, 0), (150, .iconst 0, 0, 0, 0), (151, .istore 11, 0, 0, 0), (153, .iload 11, 0, 0, 0), (155, .bipush 9, 0, 0, 9), (157, .if_icmp .ge 68, 225, 0, 0), (160, .aload_n 1, 0, 0, 0), (161, .iload 8, 0, 0, 0), (163, .iload 11, 0, 0, 0), (165, .ishr, 0, 0, 0), (166, .iconst 1, 0, 0, 0), (167, .iand, 0, 0, 0), (168, .iconst 1, 0, 0, 0), (169, .if_icmp .ne 8, 177, 0, 0), (172, .iload 9, 0, 0, 0), (174, .goto 5, 179, 0, 0), (177, .iload 10, 0, 0, 0), (179, .iload 11, 0, 0, 0), (181, .invokestatic 19, 49, 0, 0), (184, .istore 12, 0, 0, 0), (186, .iload 7, 0, 0, 0), (188, .iload 12, 0, 0, 0), (190, .aload_n 2, 0, 0, 0), (191, .iload 9, 0, 0, 0), (193, .iload 11, 0, 0, 0), (195, .invokestatic 13, 47, 0, 0), (198, .if_icmp .eq 7, 205, 0, 0), (201, .iconst 1, 0, 0, 0), (202, .goto 4, 206, 0, 0), (205, .iconst 0, 0, 0, 0), (206, .iadd, 0, 0, 0), (207, .istore 7, 0, 0, 0), (209, .aload_n 2, 0, 0, 0), (210, .iload 9, 0, 0, 0), (212, .iload 11, 0, 0, 0), (214, .iload 12, 0, 0, 0), (216, .invokestatic 23, 48, 0, 0), (219, .iinc 11 1, 0, 0, 0), (222, .goto (-69), 153, 0, 0), (225, .iinc 9 1, 0, 0, 0), (228, .goto (-101), 127, 0, 0), (231, .aload_n 0, 0, 0, 0), (232, .invokevirtual 45, 31, 0, 0), (235, .iload 7, 0, 0, 0), (237, .if_icmp .ne 7, 244, 0, 0), (240, .iconst 1, 0, 0, 0), (241, .goto 4, 245, 0, 0), (244, .iconst 0, 0, 0, 0), (245, .ireturn, 0, 0, 0), (246, .iload 5, 0, 0, 0), (248, .bipush 12, 0, 0, 12), (250, .if_icmp .ge 130, 380, 0, 0), (253, .iconst 0, 0, 0, 0), (254, .istore 7, 0, 0, 0), (256, .bipush 9, 0, 0, 9), (258, .newarray .long, 2, 0, 0), (260, .astore 8, 0, 0, 0), (262, .iconst 0, 0, 0, 0), (263, .istore 9, 0, 0, 0), (265, .iload 9, 0, 0, 0), (267, .iload 6, 0, 0, 0), (269, .if_icmp .ge 71, 340, 0, 0), (272, .iconst 0, 0, 0, 0), (273, .istore 10, 0, 0, 0), (275, .iload 10, 0, 0, 0), (277, .iload 6, 0, 0, 0), (279, .if_icmp .ge 55, 334, 0, 0), (282, .aload 8, 0, 0, 0), (284, .iload 9, 0, 0, 0), (286, .iload 10, 0, 0, 0), (288, .aload_n 2, 0, 0, 0), (289, .iload 10, 0, 0, 0), (291, .iload 9, 0, 0, 0), (293, .invokestatic 13, 47, 0, 0), (296, .invokestatic 23, 48, 0, 0), (299, .iload 7, 0, 0, 0), (301, .aload_n 2, 0, 0, 0), (302, .iload 9, 0, 0, 0), (304, .iload 10, 0, 0, 0), (306, .invokestatic 13, 47, 0, 0), (309, .aload_n 2, 0, 0, 0), (310, .iload 10, 0, 0, 0), (312, .iload 9, 0, 0, 0), (314, .invokestatic 13, 47, 0, 0), (317, .if_icmp .eq 7, 324, 0, 0), (320, .iconst 1, 0, 0, 0), (321, .goto 4, 325, 0, 0), (324, .iconst 0, 0, 0, 0), (325, .iadd, 0, 0, 0), (326, .istore 7, 0, 0, 0), (328, .iinc 10 1, 0, 0, 0), (331, .goto (-56), 275, 0, 0), (334, .iinc 9 1, 0, 0, 0), (337, .goto (-72), 265, 0, 0), (340, .iconst 0, 0, 0, 0), (341, .istore 9, 0, 0, 0), (343, .iload 9, 0, 0, 0), (345, .iload 6, 0, 0, 0), (347, .if_icmp .ge 18, 365, 0, 0), (350, .aload_n 2, 0, 0, 0), (351, .iload 9, 0, 0, 0), (353, .aload 8, 0, 0, 0), (355, .iload 9, 0, 0, 0), (357, .laload, 0, 0, 0), (358, .lastore, 0, 0, 0), (359, .iinc 9 1, 0, 0, 0), (362, .goto (-19), 343, 0, 0), (365, .aload_n 0, 0, 0, 0), (366, .invokevirtual 50, 33, 0, 0), (369, .iload 7, 0, 0, 0), (371, .if_icmp .ne 7, 378, 0, 0), (374, .iconst 1, 0, 0, 0), (375, .goto 4, 379, 0, 0), (378, .iconst 0, 0, 0, 0), (379, .ireturn, 0, 0, 0), (380, .iload 4, 0, 0, 0), (382, .iload 6, 0, 0, 0), (384, .irem, 0, 0, 0), (385, .istore 7, 0, 0, 0), (387, .iload 4, 0, 0, 0), (389, .bipush 9, 0, 0, 9), (391, .idiv, 0, 0, 0), (392, .iload 6, 0, 0, 0), (394, .irem, 0, 0, 0), (395, .istore 8, 0, 0, 0), (397, .aload_n 2, 0, 0, 0), (398, .iload 7, 0, 0, 0), (400, .iload 8, 0, 0, 0), (402, .invokestatic 13, 47, 0, 0), (405, .istore 9, 0, 0, 0), (407, .aload_n 2, 0, 0, 0), (408, .iload 7, 0, 0, 0), (410, .iload 8, 0, 0, 0), (412, .iload 4, 0, 0, 0), (414, .bipush 81, 0, 0, 81), (416, .idiv, 0, 0, 0), (417, .iload 6, 0, 0, 0), (419, .irem, 0, 0, 0), (420, .invokestatic 23, 48, 0, 0), (423, .aload_n 0, 0, 0, 0), (424, .iload 7, 0, 0, 0), (426, .iload 8, 0, 0, 0), (428, .iload 4, 0, 0, 0), (430, .bipush 81, 0, 0, 81), (432, .idiv, 0, 0, 0), (433, .iload 6, 0, 0, 0), (435, .irem, 0, 0, 0), (436, .invokevirtual 53, 32, 0, 0), (439, .iload 9, 0, 0, 0), (441, .if_icmp .ne 7, 448, 0, 0), (444, .iconst 1, 0, 0, 0), (445, .goto 4, 449, 0, 0), (448, .iconst 0, 0, 0, 0), (449, .ireturn, 0, 0, 0)]
def bd_54 : List BE := [(0, .iload_n 0, 0, 0, 0), (1, .ifCond .ne 7, 8, 0, 0), (4, .iconst 0, 0, 0, 0), (5, .goto 36, 41, 0, 0), (8, .iload_n 0, 0, 0, 0), (9, .iconst 2, 0, 0, 0), (10, .if_icmp .ge 8, 18, 0, 0), (13, .bipush 124, 0, 0, 124), (15, .goto 26, 41, 0, 0), (18, .iload_n 0, 0, 0, 0), (19, .iconst 4, 0, 0, 0), (20, .if_icmp .ge 8, 28, 0, 0), (23, .bipush 125, 0, 0, 125), (25, .goto 16, 41, 0, 0), (28, .iload_n 0, 0, 0, 0), (29, .bipush 8, 0, 0, 8), (31, .if_icmp .ge 8, 39, 0, 0), (34, .bipush 126, 0, 0, 126), (36, .goto 5, 41, 0, 0), (39, .bipush 127, 0, 0, 127), (41, .istore_n 1, 0, 0, 0), (42, .iload_n 0, 0, 0, 0), (43, .iconst 2, 0, 0, 0), (44, .if_icmp .ge 7, 51, 0, 0), (47, .iconst 1, 0, 0, 0), (48, .goto 24, 72, 0, 0), (51, .iload_n 0, 0, 0, 0), (52, .iconst 4, 0, 0, 0), (53, .if_icmp .ge 7, 60, 0, 0), (56, .iconst 2, 0, 0, 0), (57, .goto 15, 72, 0, 0), (60, .iload_n 0, 0, 0, 0), (61, .bipush 8, 0, 0, 8), (63, .if_icmp .ge 7, 70, 0, 0), (66, .iconst 4, 0, 0, 0), (67, .goto 5, 72, 0, 0), (70, .bipush 8, 0, 0, 8), (72, .istore_n 2, 0, 0, 0), (73, .iload_n 0, 0, 0, 0), (74, .ifCond .ne 7, 81, 0, 0), (77, .iconst 0, 0, 0, 0), (78, .goto 16, 94, 0, 0), (81, .iload_n 1, 0, 0, 0), (82, .bipush 23, 0, 0, 23), (84, .ishl, 0, 0, 0), (85, .iload_n 0, 0, 0, 0), (86, .iload_n 2, 0, 0, 0), (87, .isub, 0, 0, 0), (88, .ldc 57, 0, 0, 8388608), (90, .iload_n 2, 0, 0, 0), (91, .idiv, 0, 0, 0), (92, .imul, 0, 0, 0), (93, .iadd, 0, 0, 0), (94, .ireturn, 0, 0, 0)]
def bd_55 : List BE := [(0, .iconst 0, 0, 0, 0), (1, .istore 5, 0, 0, 0), (3, .iconst 0, 0, 0, 0), (4, .istore 6, 0, 0, 0), (6, .iconst 0, 0, 0, 0), (7, .istore 7, 0, 0, 0), (9, .iload 7, 0, 0, 0), (11, .aload_n 0, 0, 0, 0), (12, .iconst 0, 0, 0, 0), (13, .iaload, 0, 0, 0), (14, .if_icmp .ge 60, 74, 0, 0), (17, .iload 5, 0, 0, 0), (19, .iconst 1, 0, 0, 0), (20, .iload 4, 0, 0, 0), (22, .ifCond .eq 24, 46, 0, 0), (25, .aload_n 0, 0, 0, 0), (26, .aload_n 1, 0, 0, 0), (27, .iload_n 2, 0, 0, 0), (28, .iload 7, 0, 0, 0), (30, .invokestatic 13, 47, 0, 0), (33, .aload_n 1, 0, 0, 0), (34, .iload_n 3, 0, 0, 0), (35, .iload 7, 0, 0, 0), (37, .invokestatic 13, 47, 0, 0), (40, .invokestatic 58, 46, 0, 0), (43, .goto 21, 64, 0, 0), (46, .aload_n 0, 0, 0, 0), (47, .aload_n 1, 0, 0, 0), (48, .iload 7, 0, 0, 0), (50, .iload_n 2, 0, 0, 0), (51, .invokestatic 13, 47, 0, 0), (54, .aload_n 1, 0, 0, 0), (55, .iload 7, 0, 0, 0), (57, .iload_n 3, 0, 0, 0), (58, .invokestatic 13, 47, 0, 0), (61, .invokestatic 58, 46, 0, 0), (64, .ishl, 0, 0, 0), (65, .ior, 0, 0, 0), (66, .istore 5, 0, 0, 0), (68, .iinc 7 1, 0, 0, 0), (71, .goto (-62), 9, 0, 0), (74, .iconst 0, 0, 0, 0), (75, .istore 7, 0, 0, 0), (77, .iload 7, 0, 0, 0), (79, .bipush 9, 0, 0, 9), (81, .if_icmp .ge 21, 102, 0, 0), (84, .iload 6, 0, 0, 0), (86, .iload 5, 0, 0, 0), (88, .iload 7, 0, 0, 0), (90, .ishr, 0, 0, 0), (91, .iconst 1, 0, 0, 0), (92, .iand, 0, 0, 0), (93, .iadd, 0, 0, 0), (94, .istore 6, 0, 0, 0), (96, .iinc 7 1, 0, 0, 0), (99, .goto (-22), 77, 0, 0), (102, .iload 6, 0, 0, 0), (104, .aload_n 0, 0, 0, 0), (105, .iconst 0, 0, 0, 0), (106, .iaload, 0, 0, 0), (107, .if_icmp .ne 7, 114, 0, 0), (110, .iconst 1, 0, 0, 0), (111, .goto 4, 115, 0, 0), (114, .iconst 0, 0, 0, 0), (115, .ireturn, 0, 0, 0)]
def bd_56 : List BE := [(0, .iload_n 2, 0, 0, 0), (1, .ifCond .ne 25, 26, 0, 0), (4, .aload_n 1, 0, 0, 0), (5, .iconst 0, 0, 0, 0), (6, .iload_n 3, 0, 0, 0), (7, .invokestatic 13, 47, 0, 0), (10, .aload_n 1, 0, 0, 0), (11, .iload_n 3, 0, 0, 0), (12, .iconst 0, 0, 0, 0), (13, .invokestatic 13, 47, 0, 0), (16, .iadd, 0, 0, 0), (17, .ifCond .ne 7, 24, 0, 0), (20, .iconst 1, 0, 0, 0), (21, .goto 4, 25, 0, 0), (24, .iconst 0, 0, 0, 0), (25, .ireturn, 0, 0, 0), (26, .iload_n 2, 0, 0, 0), (27, .iconst 1, 0, 0, 0), (28, .if_icmp .ne 29, 57, 0, 0), (31, .aload_n 1, 0, 0, 0), (32, .iconst 1, 0, 0, 0), (33, .iload_n 3, 0, 0, 0), (34, .invokestatic 13, 47, 0, 0), (37, .iload_n 3, 0, 0, 0), (38, .if_icmp .ne 17, 55, 0, 0), (41, .aload_n 1, 0, 0, 0), (42, .iload_n 3, 0, 0, 0), (43, .iconst 1, 0, 0, 0), (44, .invokestatic 13, 47, 0, 0), (47, .iload_n 3, 0, 0, 0), (48, .if_icmp .ne 7, 55, 0, 0), (51, .iconst 1, 0, 0, 0), (52, .goto 4, 56, 0, 0), (55, .iconst 0, 0, 0, 0), (56, .ireturn, 0, 0, 0), (57, .iload_n 2, 0, 0, 0), (58, .iconst 2, 0, 0, 0), (59, .if_icmp .ne 43, 102, 0, 0), (62, .aload_n 0, 0, 0, 0), (63, .aload_n 1, 0, 0, 0), (64, .iload_n 3, 0, 0, 0), (65, .aload_n 0, 0, 0, 0), (66, .iload 4, 0, 0, 0), (68, .iload 5, 0, 0, 0), (70, .invokestatic 61, 45, 0, 0), (73, .invokestatic 13, 47, 0, 0), (76, .aload_n 1, 0, 0, 0), (77, .iload_n 3, 0, 0, 0), (78, .iload 4, 0, 0, 0), (80, .invokestatic 13, 47, 0, 0), (83, .invokestatic 58, 46, 0, 0), (86, .aload_n 1, 0, 0, 0), (87, .iload_n 3, 0, 0, 0), (88, .iload 5, 0, 0, 0), (90, .invokestatic 13, 47, 0, 0), (93, .if_icmp .ne 7, 100, 0, 0), (96, .iconst 1, 0, 0, 0), (97, .goto 4, 101, 0, 0), (100, .iconst 0, 0, 0, 0), (101, .ireturn, 0, 0, 0), (102, .iload_n 2, 0, 0, 0), (103, .iconst 3, 0, 0, 0), (104, .if_icmp .ne 44, 148, 0, 0), (107, .aload_n 0, 0, 0, 0), (108, .aload_n 1, 0, 0, 0), (109, .aload_n 0, 0, 0, 0), (110, .iload_n 3, 0, 0, 0), (111, .iload 4, 0, 0, 0), (113, .invokestatic 61, 45, 0, 0), (116, .iload 5, 0, 0, 0), (118, .invokestatic 13, 47, 0, 0), (121, .aload_n 1, 0, 0, 0), (122, .iload_n 3, 0, 0, 0), (123, .iload 5, 0, 0, 0), (125, .invokestatic 13, 47, 0, 0), (128, .invokestatic 58, 46, 0, 0), (131, .aload_n 1, 0, 0, 0), (132, .iload 4, 0, 0, 0), (134, .iload 5, 0, 0, 0), (136, .invokestatic 13, 47, 0, 0), (139, .if_icmp .ne 7, 146, 0, 0), (142, .iconst 1, 0, 0, 0), (143, .goto 4, 147, 0, 0), (146, .iconst 0, 0, 0, 0), (147, .ireturn, 0, 0, 0), (148, .iload_n 2, 0, 0, 0), (149, .iconst 4, 0, 0, 0), (150, .if_icmp .ne 38, 188, 0, 0), (153, .aload_n 1, 0, 0, 0), (154, .iload_n 3, 0, 0, 0), (155, .aload_n 1, 0, 0, 0), (156, .iload 4, 0, 0, 0), (158, .iload 5, 0, 0, 0), (160, .invokestatic 13, 47, 0, 0), (163, .invokestatic 13, 47, 0, 0), (166, .aload_n 1, 0, 0, 0), (167, .aload_n 1, 0, 0, 0), (168, .iload_n 3, 0, 0, 0), (169, .iload 4, 0, 0, 0), (171, .invokestatic 13, 47, 0, 0), (174, .iload 5, 0, 0, 0), (176, .invokestatic 13, 47, 0, 0), (179, .if_icmp .ne 7, 186, 0, 0), (182, .iconst 1, 0, 0, 0), (183, .goto 4, 187, 0, 0), (186, .iconst 0, 0, 0, 0), (187, .ireturn, 0, 0, 0), (188, .iload_n 2, 0, 0, 0), (189, .iconst 5, 0, 0, 0), (190, .if_icmp .ne 28, 218, 0, 0), (193, .aload_n 1, 0, 0, 0), (194, .iload_n 3, 0, 0, 0), (195, .iload 4, 0, 0, 0), (197, .invokestatic 13, 47, 0, 0), (200, .aload_n 1, 0, 0, 0), (201, .iload 4, 0, 0, 0), (203, .iload_n 3, 0, 0, 0), (204, .invokestatic 13, 47, 0, 0), (207, .if_icmp .ne 7, 214, 0, 0), (210, .iconst 1, 0, 0, 0), (211, .goto 40, 251, 0, 0), (214, .iconst 0, 0, 0, 0), (215, .goto 36, 251, 0, 0), (218, .iload_n 3, 0, 0, 0), (219, .iload 4, 0, 0, 0), (221, .if_icmp .eq 25, 246, 0, 0), (224, .aload_n 0, 0, 0, 0), (225, .aload_n 1, 0, 0, 0), (226, .iload_n 3, 0, 0, 0), (227, .iload 4, 0, 0, 0), (229, .iload_n 2, 0, 0, 0), (230, .bipush 6, 0, 0, 6), (232, .if_icmp .ne 7, 239, 0, 0), (235, .iconst 1, 0, 0, 0), (236, .goto 4, 240, 0, 0), (239, .iconst 0, 0, 0, 0), (240, .invokestatic 64, 55, 0, 0), (243, .ifCond .eq 7, 250, 0, 0), (246, .iconst 1, 0, 0, 0), (247, .goto 4, 251, 0, 0), (250, .iconst 0, 0, 0, 0), (251, .ireturn, 0, 0, 0)]
def bd_57 : List BE := [(0, .aload_n 0, 0, 0, 0), (1, .iconst 0, 0, 0, 0), (2, .iaload, 0, 0, 0), (3, .istore_n 3, 0, 0, 0), (4, .iconst 0, 0, 0, 0), (5, .istore 4, 0, 0, 0), (7, .iload 4, 0, 0, 0), (9, .iload_n 3, 0, 0, 0), (10, .iload_n 3, 0, 0, 0), (11, .imul, 0, 0, 0), (12, .iload_n 3, 0, 0, 0), (13, .imul, 0, 0, 0), (14, .if_icmp .ge 98, 112, 0, 0), (17, .iload 4, 0, 0, 0), (19, .iload_n 3, 0, 0, 0), (20, .idiv, 0, 0, 0), (21, .iload_n 3, 0, 0, 0), (22, .idiv, 0, 0, 0), (23, .istore 5, 0, 0, 0), (25, .iload 4, 0, 0, 0), (27, .iload_n 3, 0, 0, 0), (28, .idiv, 0, 0, 0), (29, .iload_n 3, 0, 0, 0), (30, .irem, 0, 0, 0), (31, .istore 6, 0, 0, 0), (33, .iload 4, 0, 0, 0), (35, .iload_n 3, 0, 0, 0), (36, .irem, 0, 0, 0), (37, .istore 7, 0, 0, 0), (39, .iload_n 2, 0, 0, 0), (40, .iconst 1, 0, 0, 0), (41, .if_icmp .gt 8, 49, 0, 0), (44, .iload 6, 0, 0, 0), (46, .ifCond .ne 22, 68, 0, 0), (49, .iload_n 2, 0, 0, 0), (50, .iconst 1, 0, 0, 0), (51, .if_icmp .le 8, 59, 0, 0), (54, .iload_n 2, 0, 0, 0), (55, .iconst 5, 0, 0, 0), (56, .if_icmp .lt 8, 64, 0, 0), (59, .iload 7, 0, 0, 0), (61, .ifCond .ne 7, 68, 0, 0), (64, .iconst 1, 0, 0, 0), (65, .goto 4, 69, 0, 0), (68, .iconst 0, 0, 0, 0), (69, .istore 8, 0, 0, 0), (71, .iload 8, 0, 0, 0), (73, .ifCond .eq 33, 106, 0, 0), (76, .aload_n 0, 0, 0, 0), (77, .aload_n 1, 0, 0, 0), (78, .iload_n 2, 0, 0, 0), (79, .iload 5, 0, 0, 0), (81, .iload 6, 0, 0, 0), (83, .iload 7, 0, 0, 0), (85, .invokestatic 68, 56, 0, 0), (88, .ifCond .ne 18, 106, 0, 0), (91, .bipush 100, 0, 0, 100), (93, .iload 5, 0, 0, 0), (95, .imul, 0, 0, 0), (96, .bipush 10, 0, 0, 10), (98, .iload 6, 0, 0, 0), (100, .imul, 0, 0, 0), (101, .iadd, 0, 0, 0), (102, .iload 7, 0, 0, 0), (104, .iadd, 0, 0, 0), (105, .ireturn, 0, 0, 0), (106, .iinc 4 1, 0, 0, 0), (109, .goto (-102), 7, 0, 0), (112, .iconst (-1), 0, 0, 0), (113, .ireturn, 0, 0, 0)]
def bd_58 : List BE := [(0, .iconst 0, 0, 0, 0), (1, .istore_n 3, 0, 0, 0), (2, .iconst 1, 0, 0, 0), (3, .istore 4, 0, 0, 0), (5, .iconst 0, 0, 0, 0), (6, .istore 5, 0, 0, 0), (8, .iload 5, 0, 0, 0), (10, .bipush 8, 0, 0, 8), (12, .if_icmp .ge 141, 153, 0, 0), (15, .iload 4, 0, 0, 0), (17, .ifCond .eq 136, 153, 0, 0), (20, .aload_n 1, 0, 0, 0), (21, .aload_n 2, 0, 0, 0), (22, .iload 5, 0, 0, 0), (24, .invokestatic 72, 57, 0, 0), (27, .istore 6, 0, 0, 0), (29, .iload_n 3, 0, 0, 0), (30, .iload 6, 0, 0, 0), (32, .ifCond .ge 7, 39, 0, 0), (35, .iconst 1, 0, 0, 0), (36, .goto 4, 40, 0, 0), (39, .iconst 0, 0, 0, 0), (40, .iadd, 0, 0, 0), (41, .istore_n 3, 0, 0, 0), (42, .aload_n 0, 0, 0, 0), (43, .iload 5, 0, 0, 0), (45, .iconst 0, 0, 0, 0), (46, .invokevirtual 76, 35, 0, 0), (49, .iload 6, 0, 0, 0), (51, .ifCond .ge 7, 58, 0, 0), (54, .iconst 1, 0, 0, 0), (55, .goto 4, 59, 0, 0), (58, .iconst 0, 0, 0, 0), (59, .if_icmp .ne 85, 144, 0, 0), (62, .aload_n 0, 0, 0, 0), (63, .iload 5, 0, 0, 0), (65, .iconst 1, 0, 0, 0), (66, .invokevirtual 76, 35, 0, 0), (69, .iload 6, 0, 0, 0), (71, .ifCond .ge 8, 79, 0, 0), (74, .ldc 79, 0, 0, (-1000004)), (76, .goto 8, 84, 0, 0), (79, .iload 6, 0, 0, 0), (81, .bipush 100, 0, 0, 100), (83, .idiv, 0, 0, 0), (84, .if_icmp .ne 60, 144, 0, 0), (87, .aload_n 0, 0, 0, 0), (88, .iload 5, 0, 0, 0), (90, .iconst 2, 0, 0, 0), (91, .invokevirtual 76, 35, 0, 0), (94, .iload 6, 0, 0, 0), (96, .ifCond .ge 8, 104, 0, 0), (99, .ldc 79, 0, 0, (-1000004)), (101, .goto 11, 112, 0, 0), (104, .iload 6, 0, 0, 0), (106, .bipush 10, 0, 0, 10), (108, .idiv, 0, 0, 0), (109, .bipush 10, 0, 0, 10), (111, .irem, 0, 0, 0), (112, .if_icmp .ne 32, 144, 0, 0), (115, .aload_n 0, 0, 0, 0), (116, .iload 5, 0, 0, 0), (118, .iconst 3, 0, 0, 0), (119, .invokevirtual 76, 35, 0, 0), (122, .iload 6, 0, 0, 0), (124, .ifCond .ge 8, 132, 0, 0), (127, .ldc 79, 0, 0, (-1000004)), (129, .goto 8, 137, 0, 0), (132, .iload 6, 0, 0, 0), (134, .bipush 10, 0, 0, 10), (136, .irem, 0, 0, 0), (137, .if_icmp .ne 7, 144, 0, 0), (140, .iconst 1, 0, 0, 0), (141, .goto 4, 145, 0, 0), (144, .iconst 0, 0, 0, 0), (145, .istore 4, 0, 0, 0), (147, .iinc 5 1, 0, 0, 0), (150, .goto (-142), 8, 0, 0), (153, .iload 4, 0, 0, 0), (155, .ifCond .eq 41, 196, 0, 0), (158, .aload_n 0, 0, 0, 0), (159, .invokevirtual 80, 37, 0, 0), (162, .iload_n 3, 0, 0, 0), (163, .invokestatic 83, 54, 0, 0), (166, .if_icmp .ne 30, 196, 0, 0), (169, .aload_n 0, 0, 0, 0), (170, .bipush 8, 0, 0, 8), (172, .iconst 0, 0, 0, 0), (173, .invokevirtual 76, 35, 0, 0), (176, .ldc 86, 0, 0, (-1000001)), (178, .if_icmp .ne 18, 196, 0, 0), (181, .aload_n 0, 0, 0, 0), (182, .iconst 0, 0, 0, 0), (183, .iconst 4, 0, 0, 0), (184, .invokevirtual 76, 35, 0, 0), (187, .ldc 86, 0, 0, (-1000001)), (189, .if_icmp .ne 7, 196, 0, 0), (192, .iconst 1, 0, 0, 0), (193, .goto 4, 197, 0, 0), (196, .iconst 0, 0, 0, 0), (197, .ireturn, 0, 0, 0)]
def bd_59 : List BE := [(0, .aload_n 1, 0, 0, 0), (1, .iconst 0, 0, 0, 0), (2, .iaload, 0, 0, 0), (3, .istore_n 3, 0, 0, 0), (4, .iconst 0, 0, 0, 0), (5, .istore 4, 0, 0, 0), (7, .iconst 0, 0, 0, 0), (8, .istore 5, 0, 0, 0), (10, .iconst 0, 0, 0, 0), (11, .istore 6, 0, 0, 0), (13, .iconst 0, 0, 0, 0), (14, .istore 7, 0, 0, 0), (16, .iload 7, 0, 0, 0), (18, .iload_n 3, 0, 0, 0), (19, .if_icmp .ge 182, 201, 0, 0), (22, .iconst 1, 0, 0, 0), (23, .istore 8, 0, 0, 0), (25, .iconst 1, 0, 0, 0), (26, .istore 9, 0, 0, 0), (28, .iconst 1, 0, 0, 0), (29, .istore 10, 0, 0, 0), (31, .iconst 0, 0, 0, 0), (32, .istore 11, 0, 0, 0), (34, .iload 11, 0, 0, 0), (36, .iload_n 3, 0, 0, 0), (37, .if_icmp .ge 104, 141, 0, 0), (40, .iload 8, 0, 0, 0), (42, .ifCond .eq 21, 63, 0, 0), (45, .aload_n 1, 0, 0, 0), (46, .aload_n 2, 0, 0, 0), (47, .iconst 5, 0, 0, 0), (48, .iload 7, 0, 0, 0), (50, .iload 11, 0, 0, 0), (52, .iconst 0, 0, 0, 0), (53, .invokestatic 68, 56, 0, 0), (56, .ifCond .eq 7, 63, 0, 0), (59, .iconst 1, 0, 0, 0), (60, .goto 4, 64, 0, 0), (63, .iconst 0, 0, 0, 0), (64, .istore 8, 0, 0, 0), (66, .iconst 0, 0, 0, 0), (67, .istore 12, 0, 0, 0), (69, .iload 12, 0, 0, 0), (71, .iload_n 3, 0, 0, 0), (72, .if_icmp .ge 63, 135, 0, 0), (75, .iload 9, 0, 0, 0), (77, .ifCond .eq 22, 99, 0, 0), (80, .aload_n 1, 0, 0, 0), (81, .aload_n 2, 0, 0, 0), (82, .iconst 3, 0, 0, 0), (83, .iload 11, 0, 0, 0), (85, .iload 12, 0, 0, 0), (87, .iload 7, 0, 0, 0), (89, .invokestatic 68, 56, 0, 0), (92, .ifCond .eq 7, 99, 0, 0), (95, .iconst 1, 0, 0, 0), (96, .goto 4, 100, 0, 0), (99, .iconst 0, 0, 0, 0), (100, .istore 9, 0, 0, 0), (102, .iload 10, 0, 0, 0), (104, .ifCond .eq 22, 126, 0, 0), (107, .aload_n 1, 0, 0, 0), (108, .aload_n 2, 0, 0, 0), (109, .iconst 4, 0, 0, 0), (110, .iload 7, 0, 0, 0), (112, .iload 11, 0, 0, 0), (114, .iload 12, 0, 0, 0), (116, .invokestatic 68, 56, 0, 0), (119, .ifCond .eq 7, 126, 0, 0), (122, .iconst 1, 0, 0, 0), (123, .goto 4, 127, 0, 0), (126, .iconst 0, 0, 0, 0), (127, .istore 10, 0, 0, 0), (129, .iinc 12 1, 0, 0, 0), (132, .goto (-63), 69, 0, 0), (135, .iinc 11 1, 0, 0, 0), (138, .goto (-104), 34, 0, 0), (141, .iload 4, 0, 0, 0), (143, .iload 8, 0, 0, 0), (145, .ifCond .eq 10, 155, 0, 0), (148, .iconst 1, 0, 0, 0), (149, .iload 7, 0, 0, 0), (151, .ishl, 0, 0, 0), (152, .goto 4, 156, 0, 0), (155, .iconst 0, 0, 0, 0), (156, .iadd, 0, 0, 0), (157, .istore 4, 0, 0, 0), (159, .iload 5, 0, 0, 0), (161, .iload 9, 0, 0, 0), (163, .ifCond .eq 10, 173, 0, 0), (166, .iconst 1, 0, 0, 0), (167, .iload 7, 0, 0, 0), (169, .ishl, 0, 0, 0), (170, .goto 4, 174, 0, 0), (173, .iconst 0, 0, 0, 0), (174, .iadd, 0, 0, 0), (175, .istore 5, 0, 0, 0), (177, .iload 6, 0, 0, 0), (179, .iload 10, 0, 0, 0), (181, .ifCond .eq 10, 191, 0, 0), (184, .iconst 1, 0, 0, 0), (185, .iload 7, 0, 0, 0), (187, .ishl, 0, 0, 0), (188, .goto 4, 192, 0, 0), (191, .iconst 0, 0, 0, 0), (192, .iadd, 0, 0, 0), (193, .istore 6, 0, 0, 0), (195, .iinc 7 1, 0, 0, 0), (198, .goto (-182), 16, 0, 0), (201, .aload_n 0, 0, 0, 0), (202, .iconst 0, 0, 0, 0), (203, .invokevirtual 87, 36, 0, 0), (206, .iload 4, 0, 0, 0), (208, .if_icmp .ne 37, 245, 0, 0), (211, .aload_n 0, 0, 0, 0), (212, .iconst 1, 0, 0, 0), (213, .invokevirtual 87, 36, 0, 0), (216, .iload 5, 0, 0, 0), (218, .if_icmp .ne 27, 245, 0, 0), (221, .aload_n 0, 0, 0, 0), (222, .iconst 2, 0, 0, 0), (223, .invokevirtual 87, 36, 0, 0), (226, .iload 6, 0, 0, 0), (228, .if_icmp .ne 17, 245, 0, 0), (231, .aload_n 0, 0, 0, 0), (232, .iconst 3, 0, 0, 0), (233, .invokevirtual 87, 36, 0, 0), (236, .ldc 86, 0, 0, (-1000001)), (238, .if_icmp .ne 7, 245, 0, 0), (241, .iconst 1, 0, 0, 0), (242, .goto 4, 246, 0, 0), (245, .iconst 0, 0, 0, 0), (246, .ireturn, 0, 0, 0)]
def bd_60 : List BE := [(0, .aload_n 1, 0, 0, 0), (1, .iconst 0, 0, 0, 0), (2, .iaload, 0, 0, 0), (3, .istore_n 3, 0, 0, 0), (4, .iconst 0, 0, 0, 0), (5, .istore 4, 0, 0, 0), (7, .iconst 1, 0, 0, 0), (8, .istore 5, 0, 0, 0), (10, .iconst 0, 0, 0, 0), (11, .istore 6, 0, 0, 0), (13, .iload 6, 0, 0, 0), (15, .iload_n 3, 0, 0, 0), (16, .if_icmp .ge 265, 281, 0, 0), (19, .iload 5, 0, 0, 0), (21, .ifCond .eq 260, 281, 0, 0), (24, .iconst 0, 0, 0, 0), (25, .istore 7, 0, 0, 0), (27, .iload 7, 0, 0, 0), (29, .iload_n 3, 0, 0, 0), (30, .if_icmp .ge 245, 275, 0, 0), (33, .iload 5, 0, 0, 0), (35, .ifCond .eq 240, 275, 0, 0), (38, .ldc 79, 0, 0, (-1000004)), (40, .istore 8, 0, 0, 0), (42, .ldc 79, 0, 0, (-1000004)), (44, .istore 9, 0, 0, 0), (46, .iload_n 3, 0, 0, 0), (47, .iconst 1, 0, 0, 0), (48, .isub, 0, 0, 0), (49, .istore 10, 0, 0, 0), (51, .iload 10, 0, 0, 0), (53, .ifCond .lt 53, 106, 0, 0), (56, .aload_n 2, 0, 0, 0), (57, .iload 6, 0, 0, 0), (59, .iload 10, 0, 0, 0), (61, .invokestatic 13, 47, 0, 0), (64, .iload 7, 0, 0, 0), (66, .if_icmp .ne 8, 74, 0, 0), (69, .iload 10, 0, 0, 0), (71, .goto 5, 76, 0, 0), (74, .iload 8, 0, 0, 0), (76, .istore 8, 0, 0, 0), (78, .aload_n 2, 0, 0, 0), (79, .iload 10, 0, 0, 0), (81, .iload 6, 0, 0, 0), (83, .invokestatic 13, 47, 0, 0), (86, .iload 7, 0, 0, 0), (88, .if_icmp .ne 8, 96, 0, 0), (91, .iload 10, 0, 0, 0), (93, .goto 5, 98, 0, 0), (96, .iload 9, 0, 0, 0), (98, .istore 9, 0, 0, 0), (100, .iinc 10 (-1), 0, 0, 0), (103, .goto (-52), 51, 0, 0), (106, .iload 4, 0, 0, 0), (108, .aload_n 2, 0, 0, 0), (109, .iload 6, 0, 0, 0), (111, .iload 7, 0, 0, 0), (113, .invokestatic 13, 47, 0, 0), (116, .ifCond .ne 7, 123, 0, 0), (119, .iconst 1, 0, 0, 0), (120, .goto 4, 124, 0, 0), (123, .iconst 0, 0, 0, 0), (124, .iadd, 0, 0, 0), (125, .istore 4, 0, 0, 0), (127, .aload_n 0, 0, 0, 0), (128, .iload 6, 0, 0, 0), (130, .iload 7, 0, 0, 0), (132, .iconst 0, 0, 0, 0), (133, .invokevirtual 90, 34, 0, 0), (136, .aload_n 1, 0, 0, 0), (137, .iload 6, 0, 0, 0), (139, .iload 7, 0, 0, 0), (141, .invokestatic 61, 45, 0, 0), (144, .if_icmp .ne 89, 233, 0, 0), (147, .aload_n 0, 0, 0, 0), (148, .iload 6, 0, 0, 0), (150, .iload 7, 0, 0, 0), (152, .iconst 1, 0, 0, 0), (153, .invokevirtual 90, 34, 0, 0), (156, .aload_n 1, 0, 0, 0), (157, .iload 6, 0, 0, 0), (159, .iload 7, 0, 0, 0), (161, .invokestatic 58, 46, 0, 0), (164, .if_icmp .ne 69, 233, 0, 0), (167, .aload_n 0, 0, 0, 0), (168, .iload 6, 0, 0, 0), (170, .iload 7, 0, 0, 0), (172, .iconst 2, 0, 0, 0), (173, .invokevirtual 90, 34, 0, 0), (176, .aload_n 2, 0, 0, 0), (177, .iload 6, 0, 0, 0), (179, .iload 7, 0, 0, 0), (181, .invokestatic 13, 47, 0, 0), (184, .if_icmp .ne 49, 233, 0, 0), (187, .aload_n 0, 0, 0, 0), (188, .iload 6, 0, 0, 0), (190, .iload 7, 0, 0, 0), (192, .iconst 3, 0, 0, 0), (193, .invokevirtual 90, 34, 0, 0), (196, .iload 8, 0, 0, 0), (198, .if_icmp .ne 35, 233, 0, 0), (201, .aload_n 0, 0, 0, 0), (202, .iload 6, 0, 0, 0), (204, .iload 7, 0, 0, 0), (206, .iconst 4, 0, 0, 0), (207, .invokevirtual 90, 34, 0, 0), (210, .iload 9, 0, 0, 0), (212, .if_icmp .ne 21, 233, 0, 0), (215, .aload_n 0, 0, 0, 0), (216, .iload 6, 0, 0, 0), (218, .iload 7, 0, 0, 0), (220, .iconst 5, 0, 0, 0), (221, .invokevirtual 90, 34, 0, 0), (224, .ldc 86, 0, 0, (-1000001)), (226, .if_icmp .ne 7, 233, 0, 0), (229, .iconst 1, 0, 0, 0), (230, .goto 4, 234, 0, 0), (233, .iconst 0, 0, 0, 0), (234, .istore 5, 0, 0, 0), (236, .iload 5, 0, 0, 0), (238, .ifCond .eq 28, 266, 0, 0), (241, .aload_n 0, 0, 0, 0), (242, .aload_n 0, 0, 0, 0), (243, .iload 6, 0, 0, 0), (245, .iload 7, 0, 0, 0), (247, .iconst 1, 0, 0, 0), (248, .invokevirtual 90, 34, 0, 0), (251, .iload 7, 0, 0, 0), (253, .iconst 0, 0, 0, 0), (254, .invokevirtual 90, 34, 0, 0), (257, .iload 6, 0, 0, 0), (259, .if_icmp .ne 7, 266, 0, 0), (262, .iconst 1, 0, 0, 0), (263, .goto 4, 267, 0, 0), (266, .iconst 0, 0, 0, 0), (267, .istore 5, 0, 0, 0), (269, .iinc 7 1, 0, 0, 0), (272, .goto (-245), 27, 0, 0), (275, .iinc 6 1, 0, 0, 0), (278, .goto (-265), 13, 0, 0), (281, .iload 5, 0, 0, 0), (283, .ifCond .eq 49, 332, 0, 0), (286, .aload_n 0, 0, 0, 0), (287, .iload_n 3, 0, 0, 0), (288, .iconst 0, 0, 0, 0), (289, .iconst 0, 0, 0, 0), (290, .invokevirtual 90, 34, 0, 0), (293, .ldc 86, 0, 0, (-1000001)), (295, .if_icmp .ne 37, 332, 0, 0), (298, .aload_n 0, 0, 0, 0), (299, .iconst 0, 0, 0, 0), (300, .iconst (-1), 0, 0, 0), (301, .iconst 0, 0, 0, 0), (302, .invokevirtual 90, 34, 0, 0), (305, .ldc 86, 0, 0, (-1000001)), (307, .if_icmp .ne 25, 332, 0, 0), (310, .aload_n 0, 0, 0, 0), (311, .aload_n 1, 0, 0, 0), (312, .aload_n 2, 0, 0, 0), (313, .invokestatic 93, 58, 0, 0), (316, .ifCond .eq 16, 332, 0, 0), (319, .aload_n 0, 0, 0, 0), (320, .aload_n 1, 0, 0, 0), (321, .aload_n 2, 0, 0, 0), (322, .invokestatic 97, 59, 0, 0), (325, .ifCond .eq 7, 332, 0, 0), (328, .iconst 1, 0, 0, 0), (329, .goto 4, 333, 0, 0), (332, .iconst 0, 0, 0, 0), (333, .istore 5, 0, 0, 0), (335, .iload 5, 0, 0, 0), (337, .ifCond .eq 62, 399, 0, 0), (340, .aload_n 0, 0, 0, 0), (341, .iconst 0, 0, 0, 0), (342, .invokevirtual 100, 38, 0, 0), (345, .iload_n 3, 0, 0, 0), (346, .if_icmp .ne 53, 399, 0, 0), (349, .aload_n 0, 0, 0, 0), (350, .iconst 1, 0, 0, 0), (351, .invokevirtual 100, 38, 0, 0), (354, .iload_n 3, 0, 0, 0), (355, .iload_n 3, 0, 0, 0), (356, .imul, 0, 0, 0), (357, .iload_n 3, 0, 0, 0), (358, .iadd, 0, 0, 0), (359, .iconst 1, 0, 0, 0), (360, .iadd, 0, 0, 0), (361, .if_icmp .ne 38, 399, 0, 0), (364, .aload_n 0, 0, 0, 0), (365, .iconst 2, 0, 0, 0), (366, .invokevirtual 100, 38, 0, 0), (369, .aload_n 1, 0, 0, 0), (370, .aload_n 2, 0, 0, 0), (371, .invokestatic 103, 50, 0, 0), (374, .if_icmp .ne 25, 399, 0, 0), (377, .aload_n 0, 0, 0, 0), (378, .iconst 3, 0, 0, 0), (379, .invokevirtual 100, 38, 0, 0), (382, .iload 4, 0, 0, 0), (384, .if_icmp .ne 15, 399, 0, 0), (387, .aload_n 0, 0, 0, 0), (388, .iconst 5, 0, 0, 0), (389, .invokevirtual 100, 38, 0, 0), (392, .ifCond .ne 7, 399, 0, 0), (395, .iconst 1, 0, 0, 0), (396, .goto 4, 400, 0, 0), (399, .iconst 0, 0, 0, 0), (400, .ireturn, 0, 0, 0)]
def bd_61 : List BE := [(0, .iload_n 3, 0, 0, 0), (1, .iconst 4, 0, 0, 0), (2, .ishr, 0, 0, 0), (3, .ldc 27, 0, 0, 10000000), (5, .invokestatic 28, 44, 0, 0), (8, .istore 4, 0, 0, 0), (10, .iload_n 3, 0, 0, 0), (11, .bipush 16, 0, 0, 16), (13, .invokestatic 28, 44, 0, 0), (16, .istore 5, 0, 0, 0), (18, .aload_n 1, 0, 0, 0), (19, .iconst 0, 0, 0, 0), (20, .iaload, 0, 0, 0), (21, .istore 6, 0, 0, 0), (23, .iload 5, 0, 0, 0), (25, .bipush 6, 0, 0, 6), (27, .if_icmp .ge 31, 58, 0, 0), (30, .aload_n 1, 0, 0, 0), (31, .aload_n 2, 0, 0, 0), (32, .iload 4, 0, 0, 0), (34, .invokestatic 32, 52, 0, 0), (37, .invokestatic 36, 51, 0, 0), (40, .aload_n 0, 0, 0, 0), (41, .aload_n 1, 0, 0, 0), (42, .iconst 0, 0, 0, 0), (43, .iaload, 0, 0, 0), (44, .invokevirtual 40, 30, 0, 0), (47, .iload 6, 0, 0, 0), (49, .if_icmp .ne 7, 56, 0, 0), (52, .iconst 1, 0, 0, 0), (53, .goto 4, 57, 0, 0), (56, .iconst 0, 0, 0, 0), (57, .ireturn, 0, 0, 0), (58, .iload 5, 0, 0, 0), (60, .bipush 9, 0, 0, 9), (62, .if_icmp .ge 184, 246, 0, 0), (65, .iload 6, 0, 0, 0), (67, .bipush 9, 0, 0, 9), (69, .if_icmp .eq 18, 87, 0, 0), (72, .aload_n 0, 0, 0, 0), (73, .invokevirtual 45, 31, 0, 0), (76, .ldc 49, 0, 0, (-1000002)), (78, .if_icmp .ne 7, 85, 0, 0), (81, .iconst 1, 0, 0, 0), (82, .goto 4, 86, 0, 0), (85, .iconst 0, 0, 0, 0), (86, .ireturn, 0, 0, 0), (87, .iconst 0, 0, 0, 0), (88, .istore 7, 0, 0, 0), (90, .iconst 0, 0, 0, 0), (91, .istore 8, 0, 0, 0), (93, .iconst 0, 0, 0, 0), (94, .istore 9, 0, 0, 0), (96, .iload 9, 0, 0, 0), (98, .bipush 9, 0, 0, 9), (100, .if_icmp .ge 24, 124, 0, 0), (103, .iload 8, 0, 0, 0), (105, .iconst 1, 0, 0, 0), (106, .aload_n 1, 0, 0, 0), (107, .iload 9, 0, 0, 0), (109, .iload 9, 0, 0, 0), (111, .invokestatic 19, 49, 0, 0), (114, .ishl, 0, 0, 0), (115, .ior, 0, 0, 0), (116, .istore 8, 0, 0, 0), (118, .iinc 9 1, 0, 0, 0), (121, .goto (-25), 96, 0, 0), (124, .iconst 0, 0, 0, 0), (125, .istore 9, 0, 0, 0), (127, .iload 9, 0, 0, 0), (129, .bipush 9, 0, 0, 9), (131, .if_icmp .ge 100, 231, 0, 0), (134, .aload_n 1, 0, 0, 0), (135, .iload 9, 0, 0, 0), (137, .aload_n 1, 0, 0, 0), (138, .iload 9, 0, 0, 0), (140, .iload 9, 0, 0, 0), (142, .invokestatic 19, 49, 0, 0), (145, .invokestatic 19, 49, 0, 0), (148, .istore 10, 0, 0, 0), (150, .iconst 0, 0, 0, 0), (151, .istore 11, 0, 0, 0), (153, .iload 11, 0, 0, 0), (155, .bipush 9, 0, 0, 9), (157, .if_icmp .ge 68, 225, 0, 0), (160, .aload_n 1, 0, 0, 0), (161, .iload 8, 0, 0, 0), (163, .iload 11, 0, 0, 0), (165, .ishr, 0, 0, 0), (166, .iconst 1, 0, 0, 0), (167, .iand, 0, 0, 0), (168, .iconst 1, 0, 0, 0), (169, .if_icmp .ne 8, 177, 0, 0), (172, .iload 9, 0, 0, 0), (174, .goto 5, 179, 0, 0), (177, .iload 10, 0, 0, 0), (179, .iload 11, 0, 0, 0), (181, .invokestatic 19, 49, 0, 0), (184, .istore 12, 0, 0, 0), (186, .iload 7, 0, 0, 0), (188, .iload 12, 0, 0, 0), (190, .aload_n 2, 0, 0, 0), (191, .iload 9, 0, 0, 0), (193, .iload 11, 0, 0, 0), (195, .invokestatic 13, 47, 0, 0), (198, .if_icmp .eq 7, 205, 0, 0), (201, .iconst 1, 0, 0, 0), (202, .goto 4, 206, 0, 0), (205, .iconst 0, 0, 0, 0), (206, .iadd, 0, 0, 0), (207, .istore 7, 0, 0, 0), (209, .aload_n 2, 0, 0, 0), (210, .iload 9, 0, 0, 0), (212, .iload 11, 0, 0, 0), (214, .iload 12, 0, 0, 0), (216, .invokestatic 23, 48, 0, 0), (219, .iinc 11 1, 0, 0, 0), (222, .goto (-69), 153, 0, 0), (225, .iinc 9 1, 0, 0, 0), (228, .goto (-101), 127, 0, 0), (231, .aload_n 0, 0, 0, 0), (232, .invokevirtual 45, 31, 0, 0), (235, .iload 7, 0, 0, 0), (237, .if_icmp .ne 7, 244, 0, 0), (240, .iconst 1, 0, 0, 0), (241, .goto 4, 245, 0, 0), (244, .iconst 0, 0, 0, 0), (245, .ireturn, 0, 0, 0), (246, .iload 5, 0, 0, 0), (248, .bipush 12, 0, 0, 12), (250, .if_icmp .ge 130, 380, 0, 0), (253, .iconst 0, 0, 0, 0), (254, .istore 7, 0, 0, 0), (256, .bipush 9, 0, 0, 9), (258, .newarray .long, 2, 0, 0), (260, .astore 8, 0, 0, 0), (262, .iconst 0, 0, 0, 0), (263, .istore 9, 0, 0, 0), (265, .iload 9, 0, 0, 0), (267, .iload 6, 0, 0, 0), (269, .if_icmp .ge 71, 340, 0, 0), (272, .iconst 0, 0, 0, 0), (273, .istore 10, 0, 0, 0), (275, .iload 10, 0, 0, 0), (277, .iload 6, 0, 0, 0), (279, .if_icmp .ge 55, 334, 0, 0), (282, .aload 8, 0, 0, 0), (284, .iload 9, 0, 0, 0), (286, .iload 10, 0, 0, 0), (288, .aload_n 2, 0, 0, 0), (289, .iload 10, 0, 0, 0), (291, .iload 9, 0, 0, 0), (293, .invokestatic 13, 47, 0, 0), (296, .invokestatic 23, 48, 0, 0), (299, .iload 7, 0, 0, 0), (301, .aload_n 2, 0, 0, 0), (302, .iload 9, 0, 0, 0), (304, .iload 10, 0, 0, 0), (306, .invokestatic 13, 47, 0, 0), (309, .aload_n 2, 0, 0, 0), (310, .iload 10, 0, 0, 0), (312, .iload 9, 0, 0, 0), (314, .invokestatic 13, 47, 0, 0), (317, .if_icmp .eq 7, 324, 0, 0), (320, .iconst 1, 0, 0, 0), (321, .goto 4, 325, 0, 0), (324, .iconst 0, 0, 0, 0), (325, .iadd, 0, 0, 0), (326, .istore 7, 0, 0, 0), (328, .iinc 10 1, 0, 0, 0), (331, .goto (-56), 275, 0, 0), (334, .iinc 9 1, 0, 0, 0), (337, .goto (-72), 265, 0, 0), (340, .iconst 0, 0, 0, 0), (341, .istore 9, 0, 0, 0), (343, .iload 9, 0, 0, 0), (345, .iload 6, 0, 0, 0), (347, .if_icmp .ge 18, 365, 0, 0), (350, .aload_n 2, 0, 0, 0), (351, .iload 9, 0, 0, 0), (353, .aload 8, 0, 0, 0), (355, .iload 9, 0, 0, 0), (357, .laload, 0, 0, 0), (358, .lastore, 0, 0, 0), (359, .iinc 9 1, 0, 0, 0), (362, .goto (-19), 343, 0, 0), (365, .aload_n 0, 0, 0, 0), (366, .invokevirtual 50, 33, 0, 0), (369, .iload 7, 0, 0, 0), (371, .if_icmp .ne 7, 378, 0, 0), (374, .iconst 1, 0, 0, 0), (375, .goto 4, 379, 0, 0), (378, .iconst 0, 0, 0, 0), (379, .ireturn, 0, 0, 0), (380, .iload 4, 0, 0, 0), (382, .iload 6, 0, 0, 0), (384, .irem, 0, 0, 0), (385, .istore 7, 0, 0, 0), (387, .iload 4, 0, 0, 0), (389, .bipush 9, 0, 0, 9), (391, .idiv, 0, 0, 0), (392, .iload 6, 0, 0, 0), (394, .irem, 0, 0, 0), (395, .istore 8, 0, 0, 0), (397, .aload_n 2, 0, 0, 0), (398, .iload 7, 0, 0, 0), (400, .iload 8, 0, 0, 0), (402, .invokestatic 13, 47, 0, 0), (405, .istore 9, 0, 0, 0), (407, .aload_n 2, 0, 0, 0), (408, .iload 7, 0, 0, 0), (410, .iload 8, 0, 0, 0), (412, .iload 4, 0, 0, 0), (414, .bipush 81, 0, 0, 81), (416, .idiv, 0, 0, 0), (417, .iload 6, 0, 0, 0), (419, .irem, 0, 0, 0), (420, .invokestatic 23, 48, 0, 0), (423, .aload_n 0, 0, 0, 0), (424, .iload 7, 0, 0, 0), (426, .iload 8, 0, 0, 0), (428, .iload 4, 0, 0, 0), (430, .bipush 81, 0, 0, 81), (432, .idiv, 0, 0, 0), (433, .iload 6, 0, 0, 0), (435, .irem, 0, 0, 0), (436, .invokevirtual 53, 32, 0, 0), (439, .iload 9, 0, 0, 0), (441, .if_icmp .ne 7, 448, 0, 0), (444, .iconst 1, 0, 0, 0), (445, .goto 4, 449, 0, 0), (448, .iconst 0, 0, 0, 0), (449, .ireturn, 0, 0, 0)]
def m_bodies : List (List BE) := [bd_0, bd_1, bd_2, bd_3, bd_4, bd_5, bd_6, bd_7, bd_8, bd_9, bd_10, bd_11, bd_12, bd_13, bd_14, bd_15, bd_16, bd_17, bd_18, bd_19, bd_20, bd_21, bd_22, bd_23, bd_24, bd_25, bd_26, bd_27, bd_28, bd_29, bd_30, bd_31, bd_32, bd_33, bd_34, bd_35, bd_36, bd_37, bd_38, bd_39, bd_40, bd_41, bd_42, bd_43, bd_44, bd_45, bd_46, bd_47, bd_48, bd_49, bd_50, bd_51, bd_52, bd_53, bd_54, bd_55, bd_56, bd_57, bd_58, bd_59, bd_60, bd_61]
def m_fetch (mi pc : Nat) : Option BE := (m_bodies.getD mi []).find? (fun e => e.1 == pc)
def m_flds : List (Nat × Nat × Nat × Nat) := [(0, 9, 0, 0), (0, 15, 0, 1), (0, 18, 0, 2), (0, 25, 3, 0), (0, 30, 3, 1), (1, 9, 3, 0), (2, 9, 1, 0), (2, 15, 1, 1), (2, 18, 1, 2), (3, 12, 2, 0), (3, 18, 3, 0), (4, 9, 3, 1), (4, 19, 3, 0), (5, 9, 4, 0), (6, 12, 5, 0), (6, 16, 2, 0), (6, 20, 5, 1), (6, 24, 5, 2), (6, 31, 5, 3), (6, 38, 5, 4), (6, 51, 3, 0), (6, 161, 0, 2), (6, 164, 4, 1)]
def m_mths : List (Nat × Nat × Nat) := [(10, 107, 29), (10, 36, 51), (10, 108, 60), (10, 111, 43), (10, 28, 44), (10, 115, 53), (10, 100, 38), (10, 40, 30), (10, 53, 32), (0, 3, 1000), (0, 22, 3), (0, 31, 1001), (1, 15, 6), (1, 21, 17), (1, 25, 15), (1, 28, 9), (1, 32, 8), (1, 35, 18), (1, 39, 16), (1, 42, 42), (2, 3, 1000), (3, 3, 1000), (3, 11, 13), (4, 3, 1000), (4, 15, 21), (4, 23, 17), (4, 27, 18), (4, 31, 27), (4, 35, 20), (4, 38, 26), (5, 3, 1000), (6, 3, 1000), (6, 11, 11), (6, 23, 1), (6, 30, 28), (6, 37, 10), (6, 42, 39), (6, 47, 2), (6, 57, 21), (6, 62, 22), (6, 66, 14), (6, 69, 17), (6, 73, 20), (6, 77, 23), (6, 80, 15), (6, 83, 16), (6, 86, 19), (6, 90, 40), (6, 94, 4), (6, 101, 5), (6, 104, 7), (6, 148, 41), (6, 152, 12), (6, 155, 24), (6, 158, 25), (10, 13, 47), (10, 19, 49), (10, 23, 48), (10, 32, 52), (10, 45, 31), (10, 50, 33), (10, 58, 46), (10, 61, 45), (10, 64, 55), (10, 68, 56), (10, 72, 57), (10, 76, 35), (10, 80, 37), (10, 83, 54), (10, 87, 36), (10, 90, 34), (10, 93, 58), (10, 97, 59), (10, 103, 50)]
def m_csts : List (Nat × Nat × Nat × Int) := [(10, 86, 0, -1000001), (6, 46, 0, -1000001), (6, 61, 0, -1000002), (6, 100, 0, -1000004), (6, 147, 1, 1090519040), (6, 186, 1, 1258291200), (8, 265, 0, 1431655765), (8, 266, 0, 858993459), (8, 267, 0, 252645135), (10, 7, 0, 40503), (10, 8, 0, 2147483647), (10, 27, 0, 10000000), (10, 49, 0, -1000002), (10, 57, 0, 8388608), (10, 79, 0, -1000004)]
def m_cstl : List (Nat × Nat × Int) := [(10, 9, 15), (10, 11, -1)]
def m_clss : List (Nat × Nat × Nat) := [(10, 41, 5), (3, 9, 3), (6, 9, 2), (6, 21, 0), (6, 28, 4), (6, 35, 1)]
def lw_g : List Cond := lw_tbl.filter goodWord
theorem m_in {w : Cond} (i : Nat) (h : lw_tbl[i]? = some w) (g : goodWord w = true) : w ∈ lw_g := List.mem_filter.mpr ⟨List.mem_of_getElem? h, g⟩
def m_fldw (q : Nat × Nat × Nat × Nat) : Prop := ∃ r : vw_C, vwCl[q.2.2.1]? = some r ∧ q.2.2.2 < r.2.2 ∧ Cond.fieldLink (m_cn.getD q.1 "") q.2.1 (r.2.1 q.2.2.2).1 (r.2.1 q.2.2.2).2.1 (r.2.1 q.2.2.2).2.2.1 ∈ lw_g
theorem m_fw0 : m_fldw (0, 9, 0, 0) := ⟨(RX0, TX0, 3), rfl, by decide, m_in 67 (by decide +kernel) (by decide +kernel)⟩
theorem m_fw1 : m_fldw (0, 15, 0, 1) := ⟨(RX0, TX0, 3), rfl, by decide, m_in 68 (by decide +kernel) (by decide +kernel)⟩
theorem m_fw2 : m_fldw (0, 18, 0, 2) := ⟨(RX0, TX0, 3), rfl, by decide, m_in 69 (by decide +kernel) (by decide +kernel)⟩
theorem m_fw3 : m_fldw (0, 25, 3, 0) := ⟨(RX4, TX4, 2), rfl, by decide, m_in 47 (by decide +kernel) (by decide +kernel)⟩
theorem m_fw4 : m_fldw (0, 30, 3, 1) := ⟨(RX4, TX4, 2), rfl, by decide, m_in 49 (by decide +kernel) (by decide +kernel)⟩
theorem m_fw5 : m_fldw (1, 9, 3, 0) := ⟨(RX4, TX4, 2), rfl, by decide, m_in 45 (by decide +kernel) (by decide +kernel)⟩
theorem m_fw6 : m_fldw (2, 9, 1, 0) := ⟨(RX2, TX2, 6), rfl, by decide, m_in 98 (by decide +kernel) (by decide +kernel)⟩
theorem m_fw7 : m_fldw (2, 15, 1, 1) := ⟨(RX2, TX2, 6), rfl, by decide, m_in 99 (by decide +kernel) (by decide +kernel)⟩
theorem m_fw8 : m_fldw (2, 18, 1, 2) := ⟨(RX2, TX2, 6), rfl, by decide, m_in 100 (by decide +kernel) (by decide +kernel)⟩
theorem m_fw9 : m_fldw (3, 12, 2, 0) := ⟨(RX3, TX3, 1), rfl, by decide, m_in 56 (by decide +kernel) (by decide +kernel)⟩
theorem m_fw10 : m_fldw (3, 18, 3, 0) := ⟨(RX4, TX4, 2), rfl, by decide, m_in 43 (by decide +kernel) (by decide +kernel)⟩
theorem m_fw11 : m_fldw (4, 9, 3, 1) := ⟨(RX4, TX4, 2), rfl, by decide, m_in 48 (by decide +kernel) (by decide +kernel)⟩
theorem m_fw12 : m_fldw (4, 19, 3, 0) := ⟨(RX4, TX4, 2), rfl, by decide, m_in 44 (by decide +kernel) (by decide +kernel)⟩
theorem m_fw13 : m_fldw (5, 9, 4, 0) := ⟨(RX5, TX5, 2), rfl, by decide, m_in 84 (by decide +kernel) (by decide +kernel)⟩
theorem m_fw14 : m_fldw (6, 12, 5, 0) := ⟨(RX6, TX6, 5), rfl, by decide, m_in 114 (by decide +kernel) (by decide +kernel)⟩
theorem m_fw15 : m_fldw (6, 16, 2, 0) := ⟨(RX3, TX3, 1), rfl, by decide, m_in 57 (by decide +kernel) (by decide +kernel)⟩
theorem m_fw16 : m_fldw (6, 20, 5, 1) := ⟨(RX6, TX6, 5), rfl, by decide, m_in 115 (by decide +kernel) (by decide +kernel)⟩
theorem m_fw17 : m_fldw (6, 24, 5, 2) := ⟨(RX6, TX6, 5), rfl, by decide, m_in 116 (by decide +kernel) (by decide +kernel)⟩
theorem m_fw18 : m_fldw (6, 31, 5, 3) := ⟨(RX6, TX6, 5), rfl, by decide, m_in 117 (by decide +kernel) (by decide +kernel)⟩
theorem m_fw19 : m_fldw (6, 38, 5, 4) := ⟨(RX6, TX6, 5), rfl, by decide, m_in 118 (by decide +kernel) (by decide +kernel)⟩
theorem m_fw20 : m_fldw (6, 51, 3, 0) := ⟨(RX4, TX4, 2), rfl, by decide, m_in 46 (by decide +kernel) (by decide +kernel)⟩
theorem m_fw21 : m_fldw (6, 161, 0, 2) := ⟨(RX0, TX0, 3), rfl, by decide, m_in 70 (by decide +kernel) (by decide +kernel)⟩
theorem m_fw22 : m_fldw (6, 164, 4, 1) := ⟨(RX5, TX5, 2), rfl, by decide, m_in 85 (by decide +kernel) (by decide +kernel)⟩
set_option maxRecDepth 100000 in
theorem m_flds_w : ∀ q ∈ m_flds, m_fldw q := List.forall_mem_cons.mpr ⟨m_fw0, List.forall_mem_cons.mpr ⟨m_fw1, List.forall_mem_cons.mpr ⟨m_fw2, List.forall_mem_cons.mpr ⟨m_fw3, List.forall_mem_cons.mpr ⟨m_fw4, List.forall_mem_cons.mpr ⟨m_fw5, List.forall_mem_cons.mpr ⟨m_fw6, List.forall_mem_cons.mpr ⟨m_fw7, List.forall_mem_cons.mpr ⟨m_fw8, List.forall_mem_cons.mpr ⟨m_fw9, List.forall_mem_cons.mpr ⟨m_fw10, List.forall_mem_cons.mpr ⟨m_fw11, List.forall_mem_cons.mpr ⟨m_fw12, List.forall_mem_cons.mpr ⟨m_fw13, List.forall_mem_cons.mpr ⟨m_fw14, List.forall_mem_cons.mpr ⟨m_fw15, List.forall_mem_cons.mpr ⟨m_fw16, List.forall_mem_cons.mpr ⟨m_fw17, List.forall_mem_cons.mpr ⟨m_fw18, List.forall_mem_cons.mpr ⟨m_fw19, List.forall_mem_cons.mpr ⟨m_fw20, List.forall_mem_cons.mpr ⟨m_fw21, List.forall_mem_cons.mpr ⟨m_fw22, fun _ h => absurd h List.not_mem_nil⟩⟩⟩⟩⟩⟩⟩⟩⟩⟩⟩⟩⟩⟩⟩⟩⟩⟩⟩⟩⟩⟩⟩
def m_spc (x : Nat) : MethodName := if x = 1000 then objectInit else if x = 1001 then arraycopyName else ⟨"java/lang/Float", "floatToRawIntBits", "(F)I"⟩
def m_yy (x : Nat) : MethodName := if x < 1000 then m_y x else m_spc x
def m_mthw (q : Nat × Nat × Nat) : Prop := Cond.methodLink (m_cn.getD q.1 "") q.2.1 (m_yy q.2.2) ∈ lw_g
theorem m_mw0 : m_mthw (10, 107, 29) := m_in 14 (by decide +kernel) (by decide +kernel)
theorem m_mw1 : m_mthw (10, 36, 51) := m_in 188 (by decide +kernel) (by decide +kernel)
theorem m_mw2 : m_mthw (10, 108, 60) := m_in 232 (by decide +kernel) (by decide +kernel)
theorem m_mw3 : m_mthw (10, 111, 43) := m_in 180 (by decide +kernel) (by decide +kernel)
theorem m_mw4 : m_mthw (10, 28, 44) := m_in 184 (by decide +kernel) (by decide +kernel)
theorem m_mw5 : m_mthw (10, 115, 53) := m_in 199 (by decide +kernel) (by decide +kernel)
theorem m_mw6 : m_mthw (10, 100, 38) := m_in 163 (by decide +kernel) (by decide +kernel)
theorem m_mw7 : m_mthw (10, 40, 30) := m_in 130 (by decide +kernel) (by decide +kernel)
theorem m_mw8 : m_mthw (10, 53, 32) := m_in 150 (by decide +kernel) (by decide +kernel)
theorem m_mw9 : m_mthw (0, 3, 1000) := m_in 66 (by decide +kernel) (by decide +kernel)
theorem m_mw10 : m_mthw (0, 22, 3) := m_in 142 (by decide +kernel) (by decide +kernel)
theorem m_mw11 : m_mthw (0, 31, 1001) := m_in 146 (by decide +kernel) (by decide +kernel)
theorem m_mw12 : m_mthw (1, 15, 6) := m_in 286 (by decide +kernel) (by decide +kernel)
theorem m_mw13 : m_mthw (1, 21, 17) := m_in 289 (by decide +kernel) (by decide +kernel)
theorem m_mw14 : m_mthw (1, 25, 15) := m_in 290 (by decide +kernel) (by decide +kernel)
theorem m_mw15 : m_mthw (1, 28, 9) := m_in 291 (by decide +kernel) (by decide +kernel)
theorem m_mw16 : m_mthw (1, 32, 8) := m_in 328 (by decide +kernel) (by decide +kernel)
theorem m_mw17 : m_mthw (1, 35, 18) := m_in 294 (by decide +kernel) (by decide +kernel)
theorem m_mw18 : m_mthw (1, 39, 16) := m_in 295 (by decide +kernel) (by decide +kernel)
theorem m_mw19 : m_mthw (1, 42, 42) := m_in 296 (by decide +kernel) (by decide +kernel)
theorem m_mw20 : m_mthw (2, 3, 1000) := m_in 97 (by decide +kernel) (by decide +kernel)
theorem m_mw21 : m_mthw (3, 3, 1000) := m_in 25 (by decide +kernel) (by decide +kernel)
theorem m_mw22 : m_mthw (3, 11, 13) := m_in 28 (by decide +kernel) (by decide +kernel)
theorem m_mw23 : m_mthw (4, 3, 1000) := m_in 31 (by decide +kernel) (by decide +kernel)
theorem m_mw24 : m_mthw (4, 15, 21) := m_in 32 (by decide +kernel) (by decide +kernel)
theorem m_mw25 : m_mthw (4, 23, 17) := m_in 175 (by decide +kernel) (by decide +kernel)
theorem m_mw26 : m_mthw (4, 27, 18) := m_in 252 (by decide +kernel) (by decide +kernel)
theorem m_mw27 : m_mthw (4, 31, 27) := m_in 36 (by decide +kernel) (by decide +kernel)
theorem m_mw28 : m_mthw (4, 35, 20) := m_in 39 (by decide +kernel) (by decide +kernel)
theorem m_mw29 : m_mthw (4, 38, 26) := m_in 215 (by decide +kernel) (by decide +kernel)
theorem m_mw30 : m_mthw (5, 3, 1000) := m_in 83 (by decide +kernel) (by decide +kernel)
theorem m_mw31 : m_mthw (6, 3, 1000) := m_in 17 (by decide +kernel) (by decide +kernel)
theorem m_mw32 : m_mthw (6, 11, 11) := m_in 22 (by decide +kernel) (by decide +kernel)
theorem m_mw33 : m_mthw (6, 23, 1) := m_in 63 (by decide +kernel) (by decide +kernel)
theorem m_mw34 : m_mthw (6, 30, 28) := m_in 80 (by decide +kernel) (by decide +kernel)
theorem m_mw35 : m_mthw (6, 37, 10) := m_in 94 (by decide +kernel) (by decide +kernel)
theorem m_mw36 : m_mthw (6, 42, 39) := m_in 134 (by decide +kernel) (by decide +kernel)
theorem m_mw37 : m_mthw (6, 47, 2) := m_in 138 (by decide +kernel) (by decide +kernel)
theorem m_mw38 : m_mthw (6, 57, 21) := m_in 149 (by decide +kernel) (by decide +kernel)
theorem m_mw39 : m_mthw (6, 62, 22) := m_in 211 (by decide +kernel) (by decide +kernel)
theorem m_mw40 : m_mthw (6, 66, 14) := m_in 154 (by decide +kernel) (by decide +kernel)
theorem m_mw41 : m_mthw (6, 69, 17) := m_in 158 (by decide +kernel) (by decide +kernel)
theorem m_mw42 : m_mthw (6, 73, 20) := m_in 162 (by decide +kernel) (by decide +kernel)
theorem m_mw43 : m_mthw (6, 77, 23) := m_in 227 (by decide +kernel) (by decide +kernel)
theorem m_mw44 : m_mthw (6, 80, 15) := m_in 240 (by decide +kernel) (by decide +kernel)
theorem m_mw45 : m_mthw (6, 83, 16) := m_in 244 (by decide +kernel) (by decide +kernel)
theorem m_mw46 : m_mthw (6, 86, 19) := m_in 248 (by decide +kernel) (by decide +kernel)
theorem m_mw47 : m_mthw (6, 90, 40) := m_in 256 (by decide +kernel) (by decide +kernel)
theorem m_mw48 : m_mthw (6, 94, 4) := m_in 283 (by decide +kernel) (by decide +kernel)
theorem m_mw49 : m_mthw (6, 101, 5) := m_in 302 (by decide +kernel) (by decide +kernel)
theorem m_mw50 : m_mthw (6, 104, 7) := m_in 325 (by decide +kernel) (by decide +kernel)
theorem m_mw51 : m_mthw (6, 148, 41) := m_in 310 (by decide +kernel) (by decide +kernel)
theorem m_mw52 : m_mthw (6, 152, 12) := m_in 167 (by decide +kernel) (by decide +kernel)
theorem m_mw53 : m_mthw (6, 155, 24) := m_in 171 (by decide +kernel) (by decide +kernel)
theorem m_mw54 : m_mthw (6, 158, 25) := m_in 176 (by decide +kernel) (by decide +kernel)
theorem m_mw55 : m_mthw (10, 13, 47) := m_in 220 (by decide +kernel) (by decide +kernel)
theorem m_mw56 : m_mthw (10, 19, 49) := m_in 191 (by decide +kernel) (by decide +kernel)
theorem m_mw57 : m_mthw (10, 23, 48) := m_in 194 (by decide +kernel) (by decide +kernel)
theorem m_mw58 : m_mthw (10, 32, 52) := m_in 203 (by decide +kernel) (by decide +kernel)
theorem m_mw59 : m_mthw (10, 45, 31) := m_in 206 (by decide +kernel) (by decide +kernel)
theorem m_mw60 : m_mthw (10, 50, 33) := m_in 223 (by decide +kernel) (by decide +kernel)
theorem m_mw61 : m_mthw (10, 58, 46) := m_in 263 (by decide +kernel) (by decide +kernel)
theorem m_mw62 : m_mthw (10, 61, 45) := m_in 260 (by decide +kernel) (by decide +kernel)
theorem m_mw63 : m_mthw (10, 64, 55) := m_in 276 (by decide +kernel) (by decide +kernel)
theorem m_mw64 : m_mthw (10, 68, 56) := m_in 273 (by decide +kernel) (by decide +kernel)
theorem m_mw65 : m_mthw (10, 72, 57) := m_in 270 (by decide +kernel) (by decide +kernel)
theorem m_mw66 : m_mthw (10, 76, 35) := m_in 279 (by decide +kernel) (by decide +kernel)
theorem m_mw67 : m_mthw (10, 80, 37) := m_in 305 (by decide +kernel) (by decide +kernel)
theorem m_mw68 : m_mthw (10, 83, 54) := m_in 314 (by decide +kernel) (by decide +kernel)
theorem m_mw69 : m_mthw (10, 87, 36) := m_in 321 (by decide +kernel) (by decide +kernel)
theorem m_mw70 : m_mthw (10, 90, 34) := m_in 236 (by decide +kernel) (by decide +kernel)
theorem m_mw71 : m_mthw (10, 93, 58) := m_in 267 (by decide +kernel) (by decide +kernel)
theorem m_mw72 : m_mthw (10, 97, 59) := m_in 318 (by decide +kernel) (by decide +kernel)
theorem m_mw73 : m_mthw (10, 103, 50) := m_in 331 (by decide +kernel) (by decide +kernel)
set_option maxRecDepth 100000 in
theorem m_mths_w : ∀ q ∈ m_mths, m_mthw q := List.forall_mem_cons.mpr ⟨m_mw0, List.forall_mem_cons.mpr ⟨m_mw1, List.forall_mem_cons.mpr ⟨m_mw2, List.forall_mem_cons.mpr ⟨m_mw3, List.forall_mem_cons.mpr ⟨m_mw4, List.forall_mem_cons.mpr ⟨m_mw5, List.forall_mem_cons.mpr ⟨m_mw6, List.forall_mem_cons.mpr ⟨m_mw7, List.forall_mem_cons.mpr ⟨m_mw8, List.forall_mem_cons.mpr ⟨m_mw9, List.forall_mem_cons.mpr ⟨m_mw10, List.forall_mem_cons.mpr ⟨m_mw11, List.forall_mem_cons.mpr ⟨m_mw12, List.forall_mem_cons.mpr ⟨m_mw13, List.forall_mem_cons.mpr ⟨m_mw14, List.forall_mem_cons.mpr ⟨m_mw15, List.forall_mem_cons.mpr ⟨m_mw16, List.forall_mem_cons.mpr ⟨m_mw17, List.forall_mem_cons.mpr ⟨m_mw18, List.forall_mem_cons.mpr ⟨m_mw19, List.forall_mem_cons.mpr ⟨m_mw20, List.forall_mem_cons.mpr ⟨m_mw21, List.forall_mem_cons.mpr ⟨m_mw22, List.forall_mem_cons.mpr ⟨m_mw23, List.forall_mem_cons.mpr ⟨m_mw24, List.forall_mem_cons.mpr ⟨m_mw25, List.forall_mem_cons.mpr ⟨m_mw26, List.forall_mem_cons.mpr ⟨m_mw27, List.forall_mem_cons.mpr ⟨m_mw28, List.forall_mem_cons.mpr ⟨m_mw29, List.forall_mem_cons.mpr ⟨m_mw30, List.forall_mem_cons.mpr ⟨m_mw31, List.forall_mem_cons.mpr ⟨m_mw32, List.forall_mem_cons.mpr ⟨m_mw33, List.forall_mem_cons.mpr ⟨m_mw34, List.forall_mem_cons.mpr ⟨m_mw35, List.forall_mem_cons.mpr ⟨m_mw36, List.forall_mem_cons.mpr ⟨m_mw37, List.forall_mem_cons.mpr ⟨m_mw38, List.forall_mem_cons.mpr ⟨m_mw39, List.forall_mem_cons.mpr ⟨m_mw40, List.forall_mem_cons.mpr ⟨m_mw41, List.forall_mem_cons.mpr ⟨m_mw42, List.forall_mem_cons.mpr ⟨m_mw43, List.forall_mem_cons.mpr ⟨m_mw44, List.forall_mem_cons.mpr ⟨m_mw45, List.forall_mem_cons.mpr ⟨m_mw46, List.forall_mem_cons.mpr ⟨m_mw47, List.forall_mem_cons.mpr ⟨m_mw48, List.forall_mem_cons.mpr ⟨m_mw49, List.forall_mem_cons.mpr ⟨m_mw50, List.forall_mem_cons.mpr ⟨m_mw51, List.forall_mem_cons.mpr ⟨m_mw52, List.forall_mem_cons.mpr ⟨m_mw53, List.forall_mem_cons.mpr ⟨m_mw54, List.forall_mem_cons.mpr ⟨m_mw55, List.forall_mem_cons.mpr ⟨m_mw56, List.forall_mem_cons.mpr ⟨m_mw57, List.forall_mem_cons.mpr ⟨m_mw58, List.forall_mem_cons.mpr ⟨m_mw59, List.forall_mem_cons.mpr ⟨m_mw60, List.forall_mem_cons.mpr ⟨m_mw61, List.forall_mem_cons.mpr ⟨m_mw62, List.forall_mem_cons.mpr ⟨m_mw63, List.forall_mem_cons.mpr ⟨m_mw64, List.forall_mem_cons.mpr ⟨m_mw65, List.forall_mem_cons.mpr ⟨m_mw66, List.forall_mem_cons.mpr ⟨m_mw67, List.forall_mem_cons.mpr ⟨m_mw68, List.forall_mem_cons.mpr ⟨m_mw69, List.forall_mem_cons.mpr ⟨m_mw70, List.forall_mem_cons.mpr ⟨m_mw71, List.forall_mem_cons.mpr ⟨m_mw72, List.forall_mem_cons.mpr ⟨m_mw73, fun _ h => absurd h List.not_mem_nil⟩⟩⟩⟩⟩⟩⟩⟩⟩⟩⟩⟩⟩⟩⟩⟩⟩⟩⟩⟩⟩⟩⟩⟩⟩⟩⟩⟩⟩⟩⟩⟩⟩⟩⟩⟩⟩⟩⟩⟩⟩⟩⟩⟩⟩⟩⟩⟩⟩⟩⟩⟩⟩⟩⟩⟩⟩⟩⟩⟩⟩⟩⟩⟩⟩⟩⟩⟩⟩⟩⟩⟩⟩⟩
def m_cstw (q : Nat × Nat × Nat × Int) : Prop := (q.2.2.1 = 0 → Cond.constant (m_cn.getD q.1 "") q.2.1 (Int32.ofInt q.2.2.2) ∈ lw_g) ∧ (¬ q.2.2.1 = 0 → Cond.constantFloat (m_cn.getD q.1 "") q.2.1 (UInt32.ofNat q.2.2.2.toNat) ∈ lw_g)
theorem m_cw0 : m_cstw (10, 86, 0, -1000001) := ⟨fun _ => m_in 266 (by decide +kernel) (by decide +kernel), fun h => absurd rfl h⟩
theorem m_cw1 : m_cstw (6, 46, 0, -1000001) := ⟨fun _ => m_in 137 (by decide +kernel) (by decide +kernel), fun h => absurd rfl h⟩
theorem m_cw2 : m_cstw (6, 61, 0, -1000002) := ⟨fun _ => m_in 210 (by decide +kernel) (by decide +kernel), fun h => absurd rfl h⟩
theorem m_cw3 : m_cstw (6, 100, 0, -1000004) := ⟨fun _ => m_in 259 (by decide +kernel) (by decide +kernel), fun h => absurd rfl h⟩
theorem m_cw4 : m_cstw (6, 147, 1, 1090519040) := ⟨fun h => absurd h (by decide), fun _ => m_in 309 (by decide +kernel) (by decide +kernel)⟩
theorem m_cw5 : m_cstw (6, 186, 1, 1258291200) := ⟨fun h => absurd h (by decide), fun _ => m_in 313 (by decide +kernel) (by decide +kernel)⟩
theorem m_cw6 : m_cstw (8, 265, 0, 1431655765) := ⟨fun _ => m_in 299 (by decide +kernel) (by decide +kernel), fun h => absurd rfl h⟩
theorem m_cw7 : m_cstw (8, 266, 0, 858993459) := ⟨fun _ => m_in 300 (by decide +kernel) (by decide +kernel), fun h => absurd rfl h⟩
theorem m_cw8 : m_cstw (8, 267, 0, 252645135) := ⟨fun _ => m_in 301 (by decide +kernel) (by decide +kernel), fun h => absurd rfl h⟩
theorem m_cw9 : m_cstw (10, 7, 0, 40503) := ⟨fun _ => m_in 183 (by decide +kernel) (by decide +kernel), fun h => absurd rfl h⟩
theorem m_cw10 : m_cstw (10, 8, 0, 2147483647) := ⟨fun _ => m_in 187 (by decide +kernel) (by decide +kernel), fun h => absurd rfl h⟩
theorem m_cw11 : m_cstw (10, 27, 0, 10000000) := ⟨fun _ => m_in 202 (by decide +kernel) (by decide +kernel), fun h => absurd rfl h⟩
theorem m_cw12 : m_cstw (10, 49, 0, -1000002) := ⟨fun _ => m_in 219 (by decide +kernel) (by decide +kernel), fun h => absurd rfl h⟩
theorem m_cw13 : m_cstw (10, 57, 0, 8388608) := ⟨fun _ => m_in 317 (by decide +kernel) (by decide +kernel), fun h => absurd rfl h⟩
theorem m_cw14 : m_cstw (10, 79, 0, -1000004) := ⟨fun _ => m_in 235 (by decide +kernel) (by decide +kernel), fun h => absurd rfl h⟩
set_option maxRecDepth 100000 in
theorem m_csts_w : ∀ q ∈ m_csts, m_cstw q := List.forall_mem_cons.mpr ⟨m_cw0, List.forall_mem_cons.mpr ⟨m_cw1, List.forall_mem_cons.mpr ⟨m_cw2, List.forall_mem_cons.mpr ⟨m_cw3, List.forall_mem_cons.mpr ⟨m_cw4, List.forall_mem_cons.mpr ⟨m_cw5, List.forall_mem_cons.mpr ⟨m_cw6, List.forall_mem_cons.mpr ⟨m_cw7, List.forall_mem_cons.mpr ⟨m_cw8, List.forall_mem_cons.mpr ⟨m_cw9, List.forall_mem_cons.mpr ⟨m_cw10, List.forall_mem_cons.mpr ⟨m_cw11, List.forall_mem_cons.mpr ⟨m_cw12, List.forall_mem_cons.mpr ⟨m_cw13, List.forall_mem_cons.mpr ⟨m_cw14, fun _ h => absurd h List.not_mem_nil⟩⟩⟩⟩⟩⟩⟩⟩⟩⟩⟩⟩⟩⟩⟩
def m_csllw (q : Nat × Nat × Int) : Prop := Cond.constantLong (m_cn.getD q.1 "") q.2.1 (Int64.ofInt q.2.2) ∈ lw_g
theorem m_kw0 : m_csllw (10, 9, 15) := m_in 197 (by decide +kernel) (by decide +kernel)
theorem m_kw1 : m_csllw (10, 11, -1) := m_in 198 (by decide +kernel) (by decide +kernel)
set_option maxRecDepth 100000 in
theorem m_cstl_w : ∀ q ∈ m_cstl, m_csllw q := List.forall_mem_cons.mpr ⟨m_kw0, List.forall_mem_cons.mpr ⟨m_kw1, fun _ h => absurd h List.not_mem_nil⟩⟩
def m_clsw (q : Nat × Nat × Nat) : Prop := ∃ r : vw_C, vwCl[q.2.2]? = some r ∧ Cond.classLink (m_cn.getD q.1 "") q.2.1 r.1 ∈ lw_g ∧ Cond.instantiable r.1 r.2.2 ∈ lw_g ∧ Cond.initialized r.1 ∈ lw_g
theorem m_lw0 : m_clsw (10, 41, 5) := ⟨(RX6, TX6, 5), rfl, m_in 12 (by decide +kernel) (by decide +kernel), m_in 13 (by decide +kernel) (by decide +kernel), m_in 3 (by decide +kernel) (by decide +kernel)⟩
theorem m_lw1 : m_clsw (3, 9, 3) := ⟨(RX4, TX4, 2), rfl, m_in 26 (by decide +kernel) (by decide +kernel), m_in 27 (by decide +kernel) (by decide +kernel), m_in 5 (by decide +kernel) (by decide +kernel)⟩
theorem m_lw2 : m_clsw (6, 9, 2) := ⟨(RX3, TX3, 1), rfl, m_in 20 (by decide +kernel) (by decide +kernel), m_in 21 (by decide +kernel) (by decide +kernel), m_in 4 (by decide +kernel) (by decide +kernel)⟩
theorem m_lw3 : m_clsw (6, 21, 0) := ⟨(RX0, TX0, 3), rfl, m_in 61 (by decide +kernel) (by decide +kernel), m_in 62 (by decide +kernel) (by decide +kernel), m_in 6 (by decide +kernel) (by decide +kernel)⟩
theorem m_lw4 : m_clsw (6, 28, 4) := ⟨(RX5, TX5, 2), rfl, m_in 78 (by decide +kernel) (by decide +kernel), m_in 79 (by decide +kernel) (by decide +kernel), m_in 7 (by decide +kernel) (by decide +kernel)⟩
theorem m_lw5 : m_clsw (6, 35, 1) := ⟨(RX2, TX2, 6), rfl, m_in 92 (by decide +kernel) (by decide +kernel), m_in 93 (by decide +kernel) (by decide +kernel), m_in 8 (by decide +kernel) (by decide +kernel)⟩
set_option maxRecDepth 100000 in
theorem m_clss_w : ∀ q ∈ m_clss, m_clsw q := List.forall_mem_cons.mpr ⟨m_lw0, List.forall_mem_cons.mpr ⟨m_lw1, List.forall_mem_cons.mpr ⟨m_lw2, List.forall_mem_cons.mpr ⟨m_lw3, List.forall_mem_cons.mpr ⟨m_lw4, List.forall_mem_cons.mpr ⟨m_lw5, fun _ h => absurd h List.not_mem_nil⟩⟩⟩⟩⟩⟩
def m_metw (mi : Nat) : Prop := Cond.code (m_y mi) (m_cd mi) (m_ml mi) (m_ret mi) ∈ lw_g ∧ Cond.initialized (m_y mi).cls ∈ lw_g ∧ (m_kind mi = 0 → Cond.static (m_y mi) ∈ lw_g) ∧ (¬ m_kind mi = 0 → Cond.instanceMethod (m_y mi) ∈ lw_g) ∧ (m_kind mi = 1 → Cond.selects (m_y mi).cls (m_y mi) (m_y mi) ∈ lw_g) ∧ (m_kind mi = 2 → (m_y mi).name = "<init>" ∧ m_ret mi = none) ∧ ((m_y mi).cls = m_own mi ∧ (m_y mi).cls ≠ "java/lang/invoke/MethodHandle" ∧ (m_y mi).cls ≠ "java/lang/invoke/VarHandle" ∧ (parseMethodDescriptor (m_y mi).desc).map (fun d => d.parameters.length) = some (m_np mi)) ∧ plainFor (m_y mi) = true
theorem m_tw1 : m_metw 1 := ⟨m_in 65 (by decide +kernel) (by decide +kernel), m_in 6 (by decide +kernel) (by decide +kernel), (fun h => absurd h (by decide)), (fun _ => m_in 64 (by decide +kernel) (by decide +kernel)), (fun h => absurd h (by decide)), (fun _ => ⟨rfl, rfl⟩), ⟨rfl, (by decide +kernel), (by decide +kernel), (by decide +kernel)⟩, (by decide +kernel)⟩
theorem m_tw2 : m_metw 2 := ⟨m_in 141 (by decide +kernel) (by decide +kernel), m_in 6 (by decide +kernel) (by decide +kernel), (fun h => absurd h (by decide)), (fun _ => m_in 139 (by decide +kernel) (by decide +kernel)), (fun _ => m_in 140 (by decide +kernel) (by decide +kernel)), (fun h => absurd h (by decide)), ⟨rfl, (by decide +kernel), (by decide +kernel), (by decide +kernel)⟩, (by decide +kernel)⟩
theorem m_tw3 : m_metw 3 := ⟨m_in 145 (by decide +kernel) (by decide +kernel), m_in 6 (by decide +kernel) (by decide +kernel), (fun h => absurd h (by decide)), (fun _ => m_in 144 (by decide +kernel) (by decide +kernel)), (fun _ => m_in 0 (by decide +kernel) (by decide +kernel)), (fun h => absurd h (by decide)), ⟨rfl, (by decide +kernel), (by decide +kernel), (by decide +kernel)⟩, (by decide +kernel)⟩
theorem m_tw4 : m_metw 4 := ⟨m_in 285 (by decide +kernel) (by decide +kernel), m_in 9 (by decide +kernel) (by decide +kernel), (fun _ => m_in 284 (by decide +kernel) (by decide +kernel)), (fun h => absurd rfl h), (fun h => absurd h (by decide)), (fun h => absurd h (by decide)), ⟨rfl, (by decide +kernel), (by decide +kernel), (by decide +kernel)⟩, (by decide +kernel)⟩
theorem m_tw5 : m_metw 5 := ⟨m_in 304 (by decide +kernel) (by decide +kernel), m_in 9 (by decide +kernel) (by decide +kernel), (fun _ => m_in 303 (by decide +kernel) (by decide +kernel)), (fun h => absurd rfl h), (fun h => absurd h (by decide)), (fun h => absurd h (by decide)), ⟨rfl, (by decide +kernel), (by decide +kernel), (by decide +kernel)⟩, (by decide +kernel)⟩
theorem m_tw6 : m_metw 6 := ⟨m_in 288 (by decide +kernel) (by decide +kernel), m_in 9 (by decide +kernel) (by decide +kernel), (fun _ => m_in 287 (by decide +kernel) (by decide +kernel)), (fun h => absurd rfl h), (fun h => absurd h (by decide)), (fun h => absurd h (by decide)), ⟨rfl, (by decide +kernel), (by decide +kernel), (by decide +kernel)⟩, (by decide +kernel)⟩
theorem m_tw7 : m_metw 7 := ⟨m_in 327 (by decide +kernel) (by decide +kernel), m_in 9 (by decide +kernel) (by decide +kernel), (fun _ => m_in 326 (by decide +kernel) (by decide +kernel)), (fun h => absurd rfl h), (fun h => absurd h (by decide)), (fun h => absurd h (by decide)), ⟨rfl, (by decide +kernel), (by decide +kernel), (by decide +kernel)⟩, (by decide +kernel)⟩
theorem m_tw8 : m_metw 8 := ⟨m_in 330 (by decide +kernel) (by decide +kernel), m_in 9 (by decide +kernel) (by decide +kernel), (fun _ => m_in 329 (by decide +kernel) (by decide +kernel)), (fun h => absurd rfl h), (fun h => absurd h (by decide)), (fun h => absurd h (by decide)), ⟨rfl, (by decide +kernel), (by decide +kernel), (by decide +kernel)⟩, (by decide +kernel)⟩
theorem m_tw9 : m_metw 9 := ⟨m_in 293 (by decide +kernel) (by decide +kernel), m_in 9 (by decide +kernel) (by decide +kernel), (fun _ => m_in 292 (by decide +kernel) (by decide +kernel)), (fun h => absurd rfl h), (fun h => absurd h (by decide)), (fun h => absurd h (by decide)), ⟨rfl, (by decide +kernel), (by decide +kernel), (by decide +kernel)⟩, (by decide +kernel)⟩
theorem m_tw10 : m_metw 10 := ⟨m_in 96 (by decide +kernel) (by decide +kernel), m_in 8 (by decide +kernel) (by decide +kernel), (fun h => absurd h (by decide)), (fun _ => m_in 95 (by decide +kernel) (by decide +kernel)), (fun h => absurd h (by decide)), (fun _ => ⟨rfl, rfl⟩), ⟨rfl, (by decide +kernel), (by decide +kernel), (by decide +kernel)⟩, (by decide +kernel)⟩
theorem m_tw11 : m_metw 11 := ⟨m_in 24 (by decide +kernel) (by decide +kernel), m_in 4 (by decide +kernel) (by decide +kernel), (fun h => absurd h (by decide)), (fun _ => m_in 23 (by decide +kernel) (by decide +kernel)), (fun h => absurd h (by decide)), (fun _ => ⟨rfl, rfl⟩), ⟨rfl, (by decide +kernel), (by decide +kernel), (by decide +kernel)⟩, (by decide +kernel)⟩
theorem m_tw12 : m_metw 12 := ⟨m_in 170 (by decide +kernel) (by decide +kernel), m_in 4 (by decide +kernel) (by decide +kernel), (fun h => absurd h (by decide)), (fun _ => m_in 168 (by decide +kernel) (by decide +kernel)), (fun _ => m_in 169 (by decide +kernel) (by decide +kernel)), (fun h => absurd h (by decide)), ⟨rfl, (by decide +kernel), (by decide +kernel), (by decide +kernel)⟩, (by decide +kernel)⟩
theorem m_tw13 : m_metw 13 := ⟨m_in 30 (by decide +kernel) (by decide +kernel), m_in 5 (by decide +kernel) (by decide +kernel), (fun h => absurd h (by decide)), (fun _ => m_in 29 (by decide +kernel) (by decide +kernel)), (fun h => absurd h (by decide)), (fun _ => ⟨rfl, rfl⟩), ⟨rfl, (by decide +kernel), (by decide +kernel), (by decide +kernel)⟩, (by decide +kernel)⟩
theorem m_tw14 : m_metw 14 := ⟨m_in 157 (by decide +kernel) (by decide +kernel), m_in 5 (by decide +kernel) (by decide +kernel), (fun h => absurd h (by decide)), (fun _ => m_in 155 (by decide +kernel) (by decide +kernel)), (fun _ => m_in 156 (by decide +kernel) (by decide +kernel)), (fun h => absurd h (by decide)), ⟨rfl, (by decide +kernel), (by decide +kernel), (by decide +kernel)⟩, (by decide +kernel)⟩
theorem m_tw15 : m_metw 15 := ⟨m_in 243 (by decide +kernel) (by decide +kernel), m_in 5 (by decide +kernel) (by decide +kernel), (fun h => absurd h (by decide)), (fun _ => m_in 241 (by decide +kernel) (by decide +kernel)), (fun _ => m_in 242 (by decide +kernel) (by decide +kernel)), (fun h => absurd h (by decide)), ⟨rfl, (by decide +kernel), (by decide +kernel), (by decide +kernel)⟩, (by decide +kernel)⟩
theorem m_tw16 : m_metw 16 := ⟨m_in 247 (by decide +kernel) (by decide +kernel), m_in 5 (by decide +kernel) (by decide +kernel), (fun h => absurd h (by decide)), (fun _ => m_in 245 (by decide +kernel) (by decide +kernel)), (fun _ => m_in 246 (by decide +kernel) (by decide +kernel)), (fun h => absurd h (by decide)), ⟨rfl, (by decide +kernel), (by decide +kernel), (by decide +kernel)⟩, (by decide +kernel)⟩
theorem m_tw17 : m_metw 17 := ⟨m_in 161 (by decide +kernel) (by decide +kernel), m_in 5 (by decide +kernel) (by decide +kernel), (fun h => absurd h (by decide)), (fun _ => m_in 159 (by decide +kernel) (by decide +kernel)), (fun _ => m_in 160 (by decide +kernel) (by decide +kernel)), (fun h => absurd h (by decide)), ⟨rfl, (by decide +kernel), (by decide +kernel), (by decide +kernel)⟩, (by decide +kernel)⟩
theorem m_tw18 : m_metw 18 := ⟨m_in 255 (by decide +kernel) (by decide +kernel), m_in 5 (by decide +kernel) (by decide +kernel), (fun h => absurd h (by decide)), (fun _ => m_in 253 (by decide +kernel) (by decide +kernel)), (fun _ => m_in 254 (by decide +kernel) (by decide +kernel)), (fun h => absurd h (by decide)), ⟨rfl, (by decide +kernel), (by decide +kernel), (by decide +kernel)⟩, (by decide +kernel)⟩
theorem m_tw19 : m_metw 19 := ⟨m_in 251 (by decide +kernel) (by decide +kernel), m_in 5 (by decide +kernel) (by decide +kernel), (fun h => absurd h (by decide)), (fun _ => m_in 249 (by decide +kernel) (by decide +kernel)), (fun _ => m_in 250 (by decide +kernel) (by decide +kernel)), (fun h => absurd h (by decide)), ⟨rfl, (by decide +kernel), (by decide +kernel), (by decide +kernel)⟩, (by decide +kernel)⟩
theorem m_tw20 : m_metw 20 := ⟨m_in 42 (by decide +kernel) (by decide +kernel), m_in 5 (by decide +kernel) (by decide +kernel), (fun h => absurd h (by decide)), (fun _ => m_in 40 (by decide +kernel) (by decide +kernel)), (fun _ => m_in 41 (by decide +kernel) (by decide +kernel)), (fun h => absurd h (by decide)), ⟨rfl, (by decide +kernel), (by decide +kernel), (by decide +kernel)⟩, (by decide +kernel)⟩
theorem m_tw21 : m_metw 21 := ⟨m_in 35 (by decide +kernel) (by decide +kernel), m_in 5 (by decide +kernel) (by decide +kernel), (fun h => absurd h (by decide)), (fun _ => m_in 33 (by decide +kernel) (by decide +kernel)), (fun _ => m_in 34 (by decide +kernel) (by decide +kernel)), (fun h => absurd h (by decide)), ⟨rfl, (by decide +kernel), (by decide +kernel), (by decide +kernel)⟩, (by decide +kernel)⟩
theorem m_tw22 : m_metw 22 := ⟨m_in 214 (by decide +kernel) (by decide +kernel), m_in 5 (by decide +kernel) (by decide +kernel), (fun h => absurd h (by decide)), (fun _ => m_in 212 (by decide +kernel) (by decide +kernel)), (fun _ => m_in 213 (by decide +kernel) (by decide +kernel)), (fun h => absurd h (by decide)), ⟨rfl, (by decide +kernel), (by decide +kernel), (by decide +kernel)⟩, (by decide +kernel)⟩
theorem m_tw23 : m_metw 23 := ⟨m_in 230 (by decide +kernel) (by decide +kernel), m_in 5 (by decide +kernel) (by decide +kernel), (fun h => absurd h (by decide)), (fun _ => m_in 228 (by decide +kernel) (by decide +kernel)), (fun _ => m_in 229 (by decide +kernel) (by decide +kernel)), (fun h => absurd h (by decide)), ⟨rfl, (by decide +kernel), (by decide +kernel), (by decide +kernel)⟩, (by decide +kernel)⟩
theorem m_tw24 : m_metw 24 := ⟨m_in 174 (by decide +kernel) (by decide +kernel), m_in 5 (by decide +kernel) (by decide +kernel), (fun h => absurd h (by decide)), (fun _ => m_in 172 (by decide +kernel) (by decide +kernel)), (fun _ => m_in 173 (by decide +kernel) (by decide +kernel)), (fun h => absurd h (by decide)), ⟨rfl, (by decide +kernel), (by decide +kernel), (by decide +kernel)⟩, (by decide +kernel)⟩
theorem m_tw25 : m_metw 25 := ⟨m_in 179 (by decide +kernel) (by decide +kernel), m_in 5 (by decide +kernel) (by decide +kernel), (fun h => absurd h (by decide)), (fun _ => m_in 177 (by decide +kernel) (by decide +kernel)), (fun _ => m_in 178 (by decide +kernel) (by decide +kernel)), (fun h => absurd h (by decide)), ⟨rfl, (by decide +kernel), (by decide +kernel), (by decide +kernel)⟩, (by decide +kernel)⟩
theorem m_tw26 : m_metw 26 := ⟨m_in 218 (by decide +kernel) (by decide +kernel), m_in 5 (by decide +kernel) (by decide +kernel), (fun h => absurd h (by decide)), (fun _ => m_in 217 (by decide +kernel) (by decide +kernel)), (fun _ => m_in 1 (by decide +kernel) (by decide +kernel)), (fun h => absurd h (by decide)), ⟨rfl, (by decide +kernel), (by decide +kernel), (by decide +kernel)⟩, (by decide +kernel)⟩
theorem m_tw27 : m_metw 27 := ⟨m_in 38 (by decide +kernel) (by decide +kernel), m_in 5 (by decide +kernel) (by decide +kernel), (fun _ => m_in 37 (by decide +kernel) (by decide +kernel)), (fun h => absurd rfl h), (fun h => absurd h (by decide)), (fun h => absurd h (by decide)), ⟨rfl, (by decide +kernel), (by decide +kernel), (by decide +kernel)⟩, (by decide +kernel)⟩
theorem m_tw28 : m_metw 28 := ⟨m_in 82 (by decide +kernel) (by decide +kernel), m_in 7 (by decide +kernel) (by decide +kernel), (fun h => absurd h (by decide)), (fun _ => m_in 81 (by decide +kernel) (by decide +kernel)), (fun h => absurd h (by decide)), (fun _ => ⟨rfl, rfl⟩), ⟨rfl, (by decide +kernel), (by decide +kernel), (by decide +kernel)⟩, (by decide +kernel)⟩
theorem m_tw29 : m_metw 29 := ⟨m_in 16 (by decide +kernel) (by decide +kernel), m_in 3 (by decide +kernel) (by decide +kernel), (fun h => absurd h (by decide)), (fun _ => m_in 15 (by decide +kernel) (by decide +kernel)), (fun h => absurd h (by decide)), (fun _ => ⟨rfl, rfl⟩), ⟨rfl, (by decide +kernel), (by decide +kernel), (by decide +kernel)⟩, (by decide +kernel)⟩
theorem m_tw30 : m_metw 30 := ⟨m_in 133 (by decide +kernel) (by decide +kernel), m_in 3 (by decide +kernel) (by decide +kernel), (fun h => absurd h (by decide)), (fun _ => m_in 131 (by decide +kernel) (by decide +kernel)), (fun _ => m_in 132 (by decide +kernel) (by decide +kernel)), (fun h => absurd h (by decide)), ⟨rfl, (by decide +kernel), (by decide +kernel), (by decide +kernel)⟩, (by decide +kernel)⟩
theorem m_tw31 : m_metw 31 := ⟨m_in 209 (by decide +kernel) (by decide +kernel), m_in 3 (by decide +kernel) (by decide +kernel), (fun h => absurd h (by decide)), (fun _ => m_in 207 (by decide +kernel) (by decide +kernel)), (fun _ => m_in 208 (by decide +kernel) (by decide +kernel)), (fun h => absurd h (by decide)), ⟨rfl, (by decide +kernel), (by decide +kernel), (by decide +kernel)⟩, (by decide +kernel)⟩
theorem m_tw32 : m_metw 32 := ⟨m_in 153 (by decide +kernel) (by decide +kernel), m_in 3 (by decide +kernel) (by decide +kernel), (fun h => absurd h (by decide)), (fun _ => m_in 151 (by decide +kernel) (by decide +kernel)), (fun _ => m_in 152 (by decide +kernel) (by decide +kernel)), (fun h => absurd h (by decide)), ⟨rfl, (by decide +kernel), (by decide +kernel), (by decide +kernel)⟩, (by decide +kernel)⟩
theorem m_tw33 : m_metw 33 := ⟨m_in 226 (by decide +kernel) (by decide +kernel), m_in 3 (by decide +kernel) (by decide +kernel), (fun h => absurd h (by decide)), (fun _ => m_in 224 (by decide +kernel) (by decide +kernel)), (fun _ => m_in 225 (by decide +kernel) (by decide +kernel)), (fun h => absurd h (by decide)), ⟨rfl, (by decide +kernel), (by decide +kernel), (by decide +kernel)⟩, (by decide +kernel)⟩
theorem m_tw34 : m_metw 34 := ⟨m_in 239 (by decide +kernel) (by decide +kernel), m_in 3 (by decide +kernel) (by decide +kernel), (fun h => absurd h (by decide)), (fun _ => m_in 237 (by decide +kernel) (by decide +kernel)), (fun _ => m_in 238 (by decide +kernel) (by decide +kernel)), (fun h => absurd h (by decide)), ⟨rfl, (by decide +kernel), (by decide +kernel), (by decide +kernel)⟩, (by decide +kernel)⟩
theorem m_tw35 : m_metw 35 := ⟨m_in 282 (by decide +kernel) (by decide +kernel), m_in 3 (by decide +kernel) (by decide +kernel), (fun h => absurd h (by decide)), (fun _ => m_in 280 (by decide +kernel) (by decide +kernel)), (fun _ => m_in 281 (by decide +kernel) (by decide +kernel)), (fun h => absurd h (by decide)), ⟨rfl, (by decide +kernel), (by decide +kernel), (by decide +kernel)⟩, (by decide +kernel)⟩
theorem m_tw36 : m_metw 36 := ⟨m_in 324 (by decide +kernel) (by decide +kernel), m_in 3 (by decide +kernel) (by decide +kernel), (fun h => absurd h (by decide)), (fun _ => m_in 322 (by decide +kernel) (by decide +kernel)), (fun _ => m_in 323 (by decide +kernel) (by decide +kernel)), (fun h => absurd h (by decide)), ⟨rfl, (by decide +kernel), (by decide +kernel), (by decide +kernel)⟩, (by decide +kernel)⟩
theorem m_tw37 : m_metw 37 := ⟨m_in 308 (by decide +kernel) (by decide +kernel), m_in 3 (by decide +kernel) (by decide +kernel), (fun h => absurd h (by decide)), (fun _ => m_in 306 (by decide +kernel) (by decide +kernel)), (fun _ => m_in 307 (by decide +kernel) (by decide +kernel)), (fun h => absurd h (by decide)), ⟨rfl, (by decide +kernel), (by decide +kernel), (by decide +kernel)⟩, (by decide +kernel)⟩
theorem m_tw38 : m_metw 38 := ⟨m_in 166 (by decide +kernel) (by decide +kernel), m_in 3 (by decide +kernel) (by decide +kernel), (fun h => absurd h (by decide)), (fun _ => m_in 164 (by decide +kernel) (by decide +kernel)), (fun _ => m_in 165 (by decide +kernel) (by decide +kernel)), (fun h => absurd h (by decide)), ⟨rfl, (by decide +kernel), (by decide +kernel), (by decide +kernel)⟩, (by decide +kernel)⟩
theorem m_tw39 : m_metw 39 := ⟨m_in 136 (by decide +kernel) (by decide +kernel), m_in 3 (by decide +kernel) (by decide +kernel), (fun _ => m_in 135 (by decide +kernel) (by decide +kernel)), (fun h => absurd rfl h), (fun h => absurd h (by decide)), (fun h => absurd h (by decide)), ⟨rfl, (by decide +kernel), (by decide +kernel), (by decide +kernel)⟩, (by decide +kernel)⟩
theorem m_tw40 : m_metw 40 := ⟨m_in 258 (by decide +kernel) (by decide +kernel), m_in 3 (by decide +kernel) (by decide +kernel), (fun _ => m_in 257 (by decide +kernel) (by decide +kernel)), (fun h => absurd rfl h), (fun h => absurd h (by decide)), (fun h => absurd h (by decide)), ⟨rfl, (by decide +kernel), (by decide +kernel), (by decide +kernel)⟩, (by decide +kernel)⟩
theorem m_tw41 : m_metw 41 := ⟨m_in 312 (by decide +kernel) (by decide +kernel), m_in 3 (by decide +kernel) (by decide +kernel), (fun _ => m_in 311 (by decide +kernel) (by decide +kernel)), (fun h => absurd rfl h), (fun h => absurd h (by decide)), (fun h => absurd h (by decide)), ⟨rfl, (by decide +kernel), (by decide +kernel), (by decide +kernel)⟩, (by decide +kernel)⟩
theorem m_tw42 : m_metw 42 := ⟨m_in 298 (by decide +kernel) (by decide +kernel), m_in 10 (by decide +kernel) (by decide +kernel), (fun _ => m_in 297 (by decide +kernel) (by decide +kernel)), (fun h => absurd rfl h), (fun h => absurd h (by decide)), (fun h => absurd h (by decide)), ⟨rfl, (by decide +kernel), (by decide +kernel), (by decide +kernel)⟩, (by decide +kernel)⟩
theorem m_tw43 : m_metw 43 := ⟨m_in 182 (by decide +kernel) (by decide +kernel), m_in 2 (by decide +kernel) (by decide +kernel), (fun _ => m_in 181 (by decide +kernel) (by decide +kernel)), (fun h => absurd rfl h), (fun h => absurd h (by decide)), (fun h => absurd h (by decide)), ⟨rfl, (by decide +kernel), (by decide +kernel), (by decide +kernel)⟩, (by decide +kernel)⟩
theorem m_tw44 : m_metw 44 := ⟨m_in 186 (by decide +kernel) (by decide +kernel), m_in 2 (by decide +kernel) (by decide +kernel), (fun _ => m_in 185 (by decide +kernel) (by decide +kernel)), (fun h => absurd rfl h), (fun h => absurd h (by decide)), (fun h => absurd h (by decide)), ⟨rfl, (by decide +kernel), (by decide +kernel), (by decide +kernel)⟩, (by decide +kernel)⟩
theorem m_tw45 : m_metw 45 := ⟨m_in 262 (by decide +kernel) (by decide +kernel), m_in 2 (by decide +kernel) (by decide +kernel), (fun _ => m_in 261 (by decide +kernel) (by decide +kernel)), (fun h => absurd rfl h), (fun h => absurd h (by decide)), (fun h => absurd h (by decide)), ⟨rfl, (by decide +kernel), (by decide +kernel), (by decide +kernel)⟩, (by decide +kernel)⟩
theorem m_tw46 : m_metw 46 := ⟨m_in 265 (by decide +kernel) (by decide +kernel), m_in 2 (by decide +kernel) (by decide +kernel), (fun _ => m_in 264 (by decide +kernel) (by decide +kernel)), (fun h => absurd rfl h), (fun h => absurd h (by decide)), (fun h => absurd h (by decide)), ⟨rfl, (by decide +kernel), (by decide +kernel), (by decide +kernel)⟩, (by decide +kernel)⟩
theorem m_tw47 : m_metw 47 := ⟨m_in 222 (by decide +kernel) (by decide +kernel), m_in 2 (by decide +kernel) (by decide +kernel), (fun _ => m_in 221 (by decide +kernel) (by decide +kernel)), (fun h => absurd rfl h), (fun h => absurd h (by decide)), (fun h => absurd h (by decide)), ⟨rfl, (by decide +kernel), (by decide +kernel), (by decide +kernel)⟩, (by decide +kernel)⟩
theorem m_tw48 : m_metw 48 := ⟨m_in 196 (by decide +kernel) (by decide +kernel), m_in 2 (by decide +kernel) (by decide +kernel), (fun _ => m_in 195 (by decide +kernel) (by decide +kernel)), (fun h => absurd rfl h), (fun h => absurd h (by decide)), (fun h => absurd h (by decide)), ⟨rfl, (by decide +kernel), (by decide +kernel), (by decide +kernel)⟩, (by decide +kernel)⟩
theorem m_tw49 : m_metw 49 := ⟨m_in 193 (by decide +kernel) (by decide +kernel), m_in 2 (by decide +kernel) (by decide +kernel), (fun _ => m_in 192 (by decide +kernel) (by decide +kernel)), (fun h => absurd rfl h), (fun h => absurd h (by decide)), (fun h => absurd h (by decide)), ⟨rfl, (by decide +kernel), (by decide +kernel), (by decide +kernel)⟩, (by decide +kernel)⟩
theorem m_tw50 : m_metw 50 := ⟨m_in 333 (by decide +kernel) (by decide +kernel), m_in 2 (by decide +kernel) (by decide +kernel), (fun _ => m_in 332 (by decide +kernel) (by decide +kernel)), (fun h => absurd rfl h), (fun h => absurd h (by decide)), (fun h => absurd h (by decide)), ⟨rfl, (by decide +kernel), (by decide +kernel), (by decide +kernel)⟩, (by decide +kernel)⟩
theorem m_tw51 : m_metw 51 := ⟨m_in 190 (by decide +kernel) (by decide +kernel), m_in 2 (by decide +kernel) (by decide +kernel), (fun _ => m_in 189 (by decide +kernel) (by decide +kernel)), (fun h => absurd rfl h), (fun h => absurd h (by decide)), (fun h => absurd h (by decide)), ⟨rfl, (by decide +kernel), (by decide +kernel), (by decide +kernel)⟩, (by decide +kernel)⟩
theorem m_tw52 : m_metw 52 := ⟨m_in 205 (by decide +kernel) (by decide +kernel), m_in 2 (by decide +kernel) (by decide +kernel), (fun _ => m_in 204 (by decide +kernel) (by decide +kernel)), (fun h => absurd rfl h), (fun h => absurd h (by decide)), (fun h => absurd h (by decide)), ⟨rfl, (by decide +kernel), (by decide +kernel), (by decide +kernel)⟩, (by decide +kernel)⟩
theorem m_tw53 : m_metw 53 := ⟨m_in 201 (by decide +kernel) (by decide +kernel), m_in 2 (by decide +kernel) (by decide +kernel), (fun _ => m_in 200 (by decide +kernel) (by decide +kernel)), (fun h => absurd rfl h), (fun h => absurd h (by decide)), (fun h => absurd h (by decide)), ⟨rfl, (by decide +kernel), (by decide +kernel), (by decide +kernel)⟩, (by decide +kernel)⟩
theorem m_tw54 : m_metw 54 := ⟨m_in 316 (by decide +kernel) (by decide +kernel), m_in 2 (by decide +kernel) (by decide +kernel), (fun _ => m_in 315 (by decide +kernel) (by decide +kernel)), (fun h => absurd rfl h), (fun h => absurd h (by decide)), (fun h => absurd h (by decide)), ⟨rfl, (by decide +kernel), (by decide +kernel), (by decide +kernel)⟩, (by decide +kernel)⟩
theorem m_tw55 : m_metw 55 := ⟨m_in 278 (by decide +kernel) (by decide +kernel), m_in 2 (by decide +kernel) (by decide +kernel), (fun _ => m_in 277 (by decide +kernel) (by decide +kernel)), (fun h => absurd rfl h), (fun h => absurd h (by decide)), (fun h => absurd h (by decide)), ⟨rfl, (by decide +kernel), (by decide +kernel), (by decide +kernel)⟩, (by decide +kernel)⟩
theorem m_tw56 : m_metw 56 := ⟨m_in 275 (by decide +kernel) (by decide +kernel), m_in 2 (by decide +kernel) (by decide +kernel), (fun _ => m_in 274 (by decide +kernel) (by decide +kernel)), (fun h => absurd rfl h), (fun h => absurd h (by decide)), (fun h => absurd h (by decide)), ⟨rfl, (by decide +kernel), (by decide +kernel), (by decide +kernel)⟩, (by decide +kernel)⟩
theorem m_tw57 : m_metw 57 := ⟨m_in 272 (by decide +kernel) (by decide +kernel), m_in 2 (by decide +kernel) (by decide +kernel), (fun _ => m_in 271 (by decide +kernel) (by decide +kernel)), (fun h => absurd rfl h), (fun h => absurd h (by decide)), (fun h => absurd h (by decide)), ⟨rfl, (by decide +kernel), (by decide +kernel), (by decide +kernel)⟩, (by decide +kernel)⟩
theorem m_tw58 : m_metw 58 := ⟨m_in 269 (by decide +kernel) (by decide +kernel), m_in 2 (by decide +kernel) (by decide +kernel), (fun _ => m_in 268 (by decide +kernel) (by decide +kernel)), (fun h => absurd rfl h), (fun h => absurd h (by decide)), (fun h => absurd h (by decide)), ⟨rfl, (by decide +kernel), (by decide +kernel), (by decide +kernel)⟩, (by decide +kernel)⟩
theorem m_tw59 : m_metw 59 := ⟨m_in 320 (by decide +kernel) (by decide +kernel), m_in 2 (by decide +kernel) (by decide +kernel), (fun _ => m_in 319 (by decide +kernel) (by decide +kernel)), (fun h => absurd rfl h), (fun h => absurd h (by decide)), (fun h => absurd h (by decide)), ⟨rfl, (by decide +kernel), (by decide +kernel), (by decide +kernel)⟩, (by decide +kernel)⟩
theorem m_tw60 : m_metw 60 := ⟨m_in 234 (by decide +kernel) (by decide +kernel), m_in 2 (by decide +kernel) (by decide +kernel), (fun _ => m_in 233 (by decide +kernel) (by decide +kernel)), (fun h => absurd rfl h), (fun h => absurd h (by decide)), (fun h => absurd h (by decide)), ⟨rfl, (by decide +kernel), (by decide +kernel), (by decide +kernel)⟩, (by decide +kernel)⟩
theorem m_tw61 : m_metw 61 := ⟨m_in 201 (by decide +kernel) (by decide +kernel), m_in 2 (by decide +kernel) (by decide +kernel), (fun _ => m_in 200 (by decide +kernel) (by decide +kernel)), (fun h => absurd rfl h), (fun h => absurd h (by decide)), (fun h => absurd h (by decide)), ⟨rfl, (by decide +kernel), (by decide +kernel), (by decide +kernel)⟩, (by decide +kernel)⟩
theorem m_met_w : ∀ mi, 0 < mi → mi < 62 → m_metw mi := by
  intro mi h0 h1
  match mi, h0, h1 with
  | 1, _, _ => exact m_tw1
  | 2, _, _ => exact m_tw2
  | 3, _, _ => exact m_tw3
  | 4, _, _ => exact m_tw4
  | 5, _, _ => exact m_tw5
  | 6, _, _ => exact m_tw6
  | 7, _, _ => exact m_tw7
  | 8, _, _ => exact m_tw8
  | 9, _, _ => exact m_tw9
  | 10, _, _ => exact m_tw10
  | 11, _, _ => exact m_tw11
  | 12, _, _ => exact m_tw12
  | 13, _, _ => exact m_tw13
  | 14, _, _ => exact m_tw14
  | 15, _, _ => exact m_tw15
  | 16, _, _ => exact m_tw16
  | 17, _, _ => exact m_tw17
  | 18, _, _ => exact m_tw18
  | 19, _, _ => exact m_tw19
  | 20, _, _ => exact m_tw20
  | 21, _, _ => exact m_tw21
  | 22, _, _ => exact m_tw22
  | 23, _, _ => exact m_tw23
  | 24, _, _ => exact m_tw24
  | 25, _, _ => exact m_tw25
  | 26, _, _ => exact m_tw26
  | 27, _, _ => exact m_tw27
  | 28, _, _ => exact m_tw28
  | 29, _, _ => exact m_tw29
  | 30, _, _ => exact m_tw30
  | 31, _, _ => exact m_tw31
  | 32, _, _ => exact m_tw32
  | 33, _, _ => exact m_tw33
  | 34, _, _ => exact m_tw34
  | 35, _, _ => exact m_tw35
  | 36, _, _ => exact m_tw36
  | 37, _, _ => exact m_tw37
  | 38, _, _ => exact m_tw38
  | 39, _, _ => exact m_tw39
  | 40, _, _ => exact m_tw40
  | 41, _, _ => exact m_tw41
  | 42, _, _ => exact m_tw42
  | 43, _, _ => exact m_tw43
  | 44, _, _ => exact m_tw44
  | 45, _, _ => exact m_tw45
  | 46, _, _ => exact m_tw46
  | 47, _, _ => exact m_tw47
  | 48, _, _ => exact m_tw48
  | 49, _, _ => exact m_tw49
  | 50, _, _ => exact m_tw50
  | 51, _, _ => exact m_tw51
  | 52, _, _ => exact m_tw52
  | 53, _, _ => exact m_tw53
  | 54, _, _ => exact m_tw54
  | 55, _, _ => exact m_tw55
  | 56, _, _ => exact m_tw56
  | 57, _, _ => exact m_tw57
  | 58, _, _ => exact m_tw58
  | 59, _, _ => exact m_tw59
  | 60, _, _ => exact m_tw60
  | 61, _, _ => exact m_tw61
  | n + 62, _, h => exact absurd h (by omega)
theorem m_arr_w : Cond.arrayClass .int ∈ lw_g ∧ Cond.arrayClass .char ∈ lw_g ∧ Cond.arrayClass .long ∈ lw_g := ⟨m_in 55 (by decide +kernel) (by decide +kernel), m_in 91 (by decide +kernel) (by decide +kernel), m_in 231 (by decide +kernel) (by decide +kernel)⟩
theorem m_acp_w : Cond.native arraycopyName ∈ lw_g ∧ Cond.static arraycopyName ∈ lw_g ∧ Cond.initialized "java/lang/System" ∈ lw_g := ⟨m_in 148 (by decide +kernel) (by decide +kernel), m_in 147 (by decide +kernel) (by decide +kernel), m_in 11 (by decide +kernel) (by decide +kernel)⟩
theorem m_obj_w : Cond.instanceMethod objectInit ∈ lw_g ∧ Cond.code objectInit ⟨#[0xb1]⟩ 1 none ∈ lw_g := ⟨m_in 18 (by decide +kernel) (by decide +kernel), m_in 19 (by decide +kernel) (by decide +kernel)⟩
theorem m_uw0 : ∀ w ∈ u_ws RX0 TX0 3, w ∈ lw_g := by
  have h : (u_ws RX0 TX0 3).all (fun w => decide (w ∈ lw_tbl) && goodWord w) = true := by decide +kernel
  intro w hw
  have h1 := List.all_eq_true.mp h w hw
  simp only [Bool.and_eq_true, decide_eq_true_eq] at h1
  exact List.mem_filter.mpr h1
theorem m_uw1 : ∀ w ∈ u_ws RX2 TX2 6, w ∈ lw_g := by
  have h : (u_ws RX2 TX2 6).all (fun w => decide (w ∈ lw_tbl) && goodWord w) = true := by decide +kernel
  intro w hw
  have h1 := List.all_eq_true.mp h w hw
  simp only [Bool.and_eq_true, decide_eq_true_eq] at h1
  exact List.mem_filter.mpr h1
theorem m_uw2 : ∀ w ∈ u_ws RX3 TX3 1, w ∈ lw_g := by
  have h : (u_ws RX3 TX3 1).all (fun w => decide (w ∈ lw_tbl) && goodWord w) = true := by decide +kernel
  intro w hw
  have h1 := List.all_eq_true.mp h w hw
  simp only [Bool.and_eq_true, decide_eq_true_eq] at h1
  exact List.mem_filter.mpr h1
theorem m_uw3 : ∀ w ∈ u_ws RX4 TX4 2, w ∈ lw_g := by
  have h : (u_ws RX4 TX4 2).all (fun w => decide (w ∈ lw_tbl) && goodWord w) = true := by decide +kernel
  intro w hw
  have h1 := List.all_eq_true.mp h w hw
  simp only [Bool.and_eq_true, decide_eq_true_eq] at h1
  exact List.mem_filter.mpr h1
theorem m_uw4 : ∀ w ∈ u_ws RX5 TX5 2, w ∈ lw_g := by
  have h : (u_ws RX5 TX5 2).all (fun w => decide (w ∈ lw_tbl) && goodWord w) = true := by decide +kernel
  intro w hw
  have h1 := List.all_eq_true.mp h w hw
  simp only [Bool.and_eq_true, decide_eq_true_eq] at h1
  exact List.mem_filter.mpr h1
theorem m_uw5 : ∀ w ∈ u_ws RX6 TX6 5, w ∈ lw_g := by
  have h : (u_ws RX6 TX6 5).all (fun w => decide (w ∈ lw_tbl) && goodWord w) = true := by decide +kernel
  intro w hw
  have h1 := List.all_eq_true.mp h w hw
  simp only [Bool.and_eq_true, decide_eq_true_eq] at h1
  exact List.mem_filter.mpr h1
end
section
/-! A pure picture of the machine: ints are whole numbers that stand for their class modulo 2^32, cells are numbered in the order in which they are made; a method's run is said by m_Sem: from this picture the method comes to its end with an answer and a world of which Q holds. -/
abbrev mPV : Type := Int ⊕ (Nat ⊕ Value)
abbrev mPC : Type := (Nat × Nat × ((Int → Int) ⊕ (Nat → Int64))) ⊕ (Nat × List mPV)
abbrev mPW : Type := List mPC
abbrev mPS : Type := Nat × List (Option mPV) × List mPV × mPW × Nat × Nat
def m_cv (N0 : Nat) : mPV → Value
  | .inl x => .int (Int32.ofInt x)
  | .inr (.inl k) => .ref (N0 + k)
  | .inr (.inr v) => v
def m_cc (N0 : Nat) (aI : Nat → ClassId) : mPC → va_E
  | .inl (t, n, .inl f) => .inl (aI t, n, .inl (fun j => Int32.ofInt (f (j : Int))))
  | .inl (t, n, .inr f) => .inl (aI t, n, .inr (.inl f))
  | .inr (ci, fs) => .inr (ci, fs.map (m_cv N0))
def m_cw (N0 : Nat) (aI : Nat → ClassId) : Nat → mPW → va_W
  | _, [] => []
  | k, c :: w => (N0 + k, m_cc N0 aI c) :: m_cw N0 aI (k + 1) w
def m_as (N0 : Nat) : Nat → List (Option mPV) → List (Nat × Value)
  | _, [] => []
  | k, none :: L => m_as N0 (k + 1) L
  | k, some v :: L => (k, m_cv N0 v) :: m_as N0 (k + 1) L
def m_cat : mPV → Nat
  | .inr (.inr v) => v.category
  | _ => 1
theorem m_cat_cv (N0 : Nat) (v : mPV) : (m_cv N0 v).category = m_cat v := by
  rcases v with x | k | v <;> rfl
def m_c2 : Option mPV → Bool
  | some v => m_cat v == 2
  | none => false
/-- a variable of one word is stored -/
def m_st : List (Option mPV) → Nat → mPV → List (Option mPV)
  | [], _, _ => []
  | _ :: L, 0, v => some v :: L
  | o :: L, i + 1, v => (bif (i == 0 && m_c2 o) then none else o) :: m_st L i v
/-- a variable of two words is stored -/
def m_st2 : List (Option mPV) → Nat → mPV → List (Option mPV)
  | [], _, _ => []
  | [o], _, _ => [o]
  | _ :: _ :: L, 0, v => some v :: none :: L
  | o :: o2 :: L, i + 1, v => (bif (i == 0 && m_c2 o) then none else o) :: m_st2 (o2 :: L) i v
def m_ent : List mPV → Nat → List (Option mPV)
  | [], n => List.replicate n none
  | v :: vs, n => bif m_cat v == 2 then some v :: none :: m_ent vs (n - 2) else some v :: m_ent vs (n - 1)
theorem m_as_le {N0 : Nat} : ∀ (L : List (Option mPV)) (k : Nat) (q : Nat × Value), q ∈ m_as N0 k L → k ≤ q.1
  | [], _, _, h => by cases h
  | none :: L, k, q, h => Nat.le_of_succ_le (m_as_le L (k + 1) q h)
  | some v :: L, k, q, h => by
    rcases List.mem_cons.mp h with rfl | h
    · exact Nat.le_refl _
    · exact Nat.le_of_succ_le (m_as_le L (k + 1) q h)
theorem m_st_len : ∀ (L : List (Option mPV)) (i : Nat) (v : mPV), (m_st L i v).length = L.length
  | [], _, _ => rfl
  | _ :: _, 0, _ => rfl
  | _ :: L, i + 1, v => by simp only [m_st, List.length_cons, m_st_len L i v]
theorem m_st2_len : ∀ (L : List (Option mPV)) (i : Nat) (v : mPV), (m_st2 L i v).length = L.length
  | [], _, _ => rfl
  | [_], 0, _ => rfl
  | [_], _ + 1, _ => rfl
  | _ :: _ :: _, 0, _ => rfl
  | _ :: o2 :: L, i + 1, v => by simp only [m_st2, List.length_cons, m_st2_len (o2 :: L) i v]
theorem m_as_cons {N0 : Nat} {k : Nat} {o : Option mPV} {L : List (Option mPV)} {q : Nat × Value} : q ∈ m_as N0 k (o :: L) ↔ (∃ v, o = some v ∧ q = (k, m_cv N0 v)) ∨ q ∈ m_as N0 (k + 1) L := by
  cases o with
  | none => simp [m_as]
  | some v => simp [m_as]
theorem m_kill {N0 k i : Nat} {o : Option mPV} {v : mPV} (h : (bif (i == 0 && m_c2 o) then none else o) = some v) : o = some v ∧ ¬ (k + 1 = k + (i + 1) ∧ (m_cv N0 v).category = 2) := by
  cases hb : (i == 0 && m_c2 o) with
  | true => rw [hb] at h; cases h
  | false =>
    rw [hb] at h
    have h : o = some v := h
    refine ⟨h, fun hc => ?_⟩
    subst h
    have h0 : i = 0 := by omega
    subst h0
    rw [m_cat_cv] at hc
    simp [m_c2, hc.2] at hb
theorem m_st_mem {N0 : Nat} : ∀ (L : List (Option mPV)) (k i : Nat) (v : mPV) (q : Nat × Value), q ∈ m_as N0 k (m_st L i v) → q = (k + i, m_cv N0 v) ∨ (q ∈ m_as N0 k L ∧ ¬ q.1 = k + i ∧ ¬ (q.1 + 1 = k + i ∧ q.2.category = 2))
  | [], _, _, _, _, h => by cases h
  | o :: L, k, 0, v, q, h => by
    rcases m_as_cons.mp h with ⟨v', h1, h2⟩ | h
    · cases h1
      exact Or.inl h2
    · have := m_as_le L (k + 1) q h
      exact Or.inr ⟨m_as_cons.mpr (Or.inr h), by omega, by omega⟩
  | o :: L, k, i + 1, v, q, h => by
    rcases m_as_cons.mp h with ⟨v', h1, rfl⟩ | h
    · obtain ⟨h2, h3⟩ := m_kill (N0 := N0) (k := k) h1
      exact Or.inr ⟨m_as_cons.mpr (Or.inl ⟨v', h2, rfl⟩), by show ¬ k = _; omega, h3⟩
    · rcases m_st_mem L (k + 1) i v q h with h | ⟨h1, h2, h3⟩
      · exact Or.inl (by rw [h]; congr 1; omega)
      · exact Or.inr ⟨m_as_cons.mpr (Or.inr h1), by omega, by rw [show k + (i + 1) = k + 1 + i by omega]; exact h3⟩
theorem m_st2_mem {N0 : Nat} : ∀ (L : List (Option mPV)) (k i : Nat) (v : mPV) (q : Nat × Value), i + 1 < L.length → q ∈ m_as N0 k (m_st2 L i v) → q = (k + i, m_cv N0 v) ∨ (q ∈ m_as N0 k L ∧ ¬ q.1 = k + i ∧ ¬ q.1 = k + i + 1 ∧ ¬ (q.1 + 1 = k + i ∧ q.2.category = 2))
  | [], _, _, _, _, hl, h => by cases h
  | [_], _, _, _, _, hl, h => absurd hl (by simp)
  | o :: o2 :: L, k, 0, v, q, hl, h => by
    rcases m_as_cons.mp h with ⟨v', h1, h2⟩ | h
    · cases h1
      exact Or.inl h2
    · rcases m_as_cons.mp h with ⟨v', h1, h2⟩ | h
      · cases h1
      · have := m_as_le L (k + 1 + 1) q h
        exact Or.inr ⟨m_as_cons.mpr (Or.inr (m_as_cons.mpr (Or.inr h))), by omega, by omega, by omega⟩
  | o :: o2 :: L, k, i + 1, v, q, hl, h => by
    rcases m_as_cons.mp h with ⟨v', h1, rfl⟩ | h
    · obtain ⟨h2, h3⟩ := m_kill (N0 := N0) (k := k) h1
      exact Or.inr ⟨m_as_cons.mpr (Or.inl ⟨v', h2, rfl⟩), by show ¬ k = _; omega, by show ¬ k = _; omega, h3⟩
    · rcases m_st2_mem (o2 :: L) (k + 1) i v q (by simp only [List.length_cons] at hl ⊢; omega) h with h | ⟨h1, h2, h3, h4⟩
      · exact Or.inl (by rw [h]; congr 1; omega)
      · exact Or.inr ⟨m_as_cons.mpr (Or.inr h1), by omega, by omega, by rw [show k + (i + 1) = k + 1 + i by omega]; exact h4⟩
theorem m_has_mono {ls : Array Slot} {n : Nat} {l l' : List (Nat × Value)} (h : lv_has ls n l) (hs : ∀ q ∈ l', q ∈ l) : lv_has ls n l' := ⟨h.1, h.2.1, fun q hq => h.2.2 q (hs q hq)⟩
theorem m_has_st {ls : Array Slot} {n N0 i : Nat} {L : List (Option mPV)} {v : mPV} {x : Value} (hx : m_cv N0 v = x) (h : lv_has ls n ((i, x) :: (m_as N0 0 L).filter (fun q => !(q.1 == i) && !(q.1 + 1 == i && q.2.category == 2)))) : lv_has ls n (m_as N0 0 (m_st L i v)) := by
  subst hx
  refine m_has_mono h (fun q hq => ?_)
  rcases m_st_mem L 0 i v q hq with h | ⟨h1, h2, h3⟩
  · rw [h, Nat.zero_add]; exact List.mem_cons_self
  · refine List.mem_cons_of_mem _ (List.mem_filter.mpr ⟨h1, ?_⟩)
    rw [Nat.zero_add] at h2 h3
    simp only [Bool.and_eq_true, Bool.not_eq_true', beq_eq_false_iff_ne, ne_eq, Bool.and_eq_false_iff]
    refine ⟨h2, ?_⟩
    by_cases hc : q.1 + 1 = i
    · exact Or.inr (fun hz => h3 ⟨hc, hz⟩)
    · exact Or.inl hc
theorem m_has_st2 {ls : Array Slot} {n N0 i : Nat} {L : List (Option mPV)} {v : mPV} {x : Value} (hx : m_cv N0 v = x) (hi : i + 1 < L.length) (h : lv_has ls n ((i, x) :: (m_as N0 0 L).filter (fun q => !(q.1 == i) && (!(q.1 == i + 1) && !(q.1 + 1 == i && q.2.category == 2))))) : lv_has ls n (m_as N0 0 (m_st2 L i v)) := by
  subst hx
  refine m_has_mono h (fun q hq => ?_)
  rcases m_st2_mem L 0 i v q hi hq with h | ⟨h1, h2, h3, h4⟩
  · rw [h, Nat.zero_add]; exact List.mem_cons_self
  · refine List.mem_cons_of_mem _ (List.mem_filter.mpr ⟨h1, ?_⟩)
    rw [Nat.zero_add] at h2 h3 h4
    simp only [Bool.and_eq_true, Bool.not_eq_true', beq_eq_false_iff_ne, ne_eq, Bool.and_eq_false_iff]
    refine ⟨h2, h3, ?_⟩
    by_cases hc : q.1 + 1 = i
    · exact Or.inr (fun hz => h4 ⟨hc, hz⟩)
    · exact Or.inl hc
theorem m_as_get {N0 : Nat} : ∀ (L : List (Option mPV)) (k i : Nat) (v : mPV), L[i]? = some (some v) → (k + i, m_cv N0 v) ∈ m_as N0 k L
  | [], _, _, _, h => by simp at h
  | o :: L, k, 0, v, h => by
    simp at h
    subst h
    exact List.mem_cons_self
  | o :: L, k, i + 1, v, h => by
    have := m_as_get (N0 := N0) L (k + 1) i v (by simpa using h)
    rw [show k + (i + 1) = k + 1 + i by omega]
    exact m_as_cons.mpr (Or.inr this)
theorem m_has_get {ls : Array Slot} {n N0 i : Nat} {L : List (Option mPV)} {v : mPV} (h : lv_has ls n (m_as N0 0 L)) (hv : L[i]? = some (some v)) : ls[i]? = some (.val (m_cv N0 v)) := by
  have := h.2.2 _ (m_as_get L 0 i v hv)
  rw [Nat.zero_add] at this
  exact this
theorem m_as_rep {N0 : Nat} : ∀ (n k : Nat), m_as N0 k (List.replicate n none) = []
  | 0, _ => rfl
  | n + 1, k => by rw [List.replicate_succ]; exact m_as_rep n (k + 1)
theorem m_ent_mem {N0 : Nat} : ∀ (vs : List mPV) (n k : Nat) (q : Nat × Value), q ∈ m_as N0 k (m_ent vs n) → q ∈ lv_args k (vs.map (m_cv N0))
  | [], n, k, q, h => by
    rw [m_ent, m_as_rep] at h
    cases h
  | v :: vs, n, k, q, h => by
    unfold m_ent at h
    show q ∈ lv_args k (m_cv N0 v :: vs.map (m_cv N0))
    unfold lv_args
    rw [m_cat_cv]
    cases hc : (m_cat v == 2) with
    | true =>
      rw [hc] at h
      rw [if_pos (by simpa using hc)]
      rcases m_as_cons.mp h with ⟨v', h1, rfl⟩ | h
      · cases h1
        exact List.mem_cons_self
      · rcases m_as_cons.mp h with ⟨v', h1, rfl⟩ | h
        · cases h1
        · exact List.mem_cons_of_mem _ (m_ent_mem vs (n - 2) (k + 2) q h)
    | false =>
      rw [hc] at h
      rw [if_neg (by simpa using hc)]
      rcases m_as_cons.mp h with ⟨v', h1, rfl⟩ | h
      · cases h1
        exact List.mem_cons_self
      · exact List.mem_cons_of_mem _ (m_ent_mem vs (n - 1) (k + 1) q h)
def m_words : List mPV → Nat
  | [] => 0
  | v :: vs => (bif m_cat v == 2 then 2 else 1) + m_words vs
theorem m_ent_len : ∀ (vs : List mPV) (n : Nat), m_words vs ≤ n → (m_ent vs n).length = n
  | [], n, _ => by rw [m_ent, List.length_replicate]
  | v :: vs, n, h => by
    unfold m_words at h
    unfold m_ent
    cases hc : (m_cat v == 2) with
    | true =>
      rw [hc] at h
      have h : 2 + m_words vs ≤ n := h
      show (m_ent vs (n - 2)).length + 1 + 1 = n
      rw [m_ent_len vs (n - 2) (by omega)]; omega
    | false =>
      rw [hc] at h
      have h : 1 + m_words vs ≤ n := h
      show (m_ent vs (n - 1)).length + 1 = n
      rw [m_ent_len vs (n - 1) (by omega)]; omega
theorem m_words_sl (N0 : Nat) : ∀ vs : List mPV, (lg_sl (vs.map (m_cv N0))).length = m_words vs
  | [] => rfl
  | v :: vs => by
    have ih := m_words_sl N0 vs
    unfold m_words
    rw [← ih]
    show ((m_cv N0 v :: vs.map (m_cv N0)).flatMap _).length = _
    rw [List.flatMap_cons, List.length_append]
    congr 1
    rw [m_cat_cv]
    cases hc : (m_cat v == 2) with
    | true => rw [if_pos (by simpa using hc)]; rfl
    | false => rw [if_neg (by simpa using hc)]; rfl
theorem m_entry {N0 n : Nat} (vs : List mPV) (h : m_words vs ≤ n) : ∃ ls : Array Slot, (∀ m : MethodId, entryFrame m (vs.map (m_cv N0)).toArray n = F0 m 0 ls []) ∧ lv_has ls n (m_as N0 0 (m_ent vs n)) := by
  refine ⟨_, fun m => lg_entry_eq m _ n, ?_⟩
  have h1 := lv_entry (vs.map (m_cv N0)) (n := n) (by rw [m_words_sl]; exact h)
  exact m_has_mono h1 (fun q hq => m_ent_mem vs n 0 q hq)
/-! the world -/
theorem m_cw_get {N0 : Nat} {aI : Nat → ClassId} : ∀ (w : mPW) (k i : Nat), (m_cw N0 aI k w)[i]? = (w[i]?).map (fun c => (N0 + (k + i), m_cc N0 aI c))
  | [], _, _ => by simp [m_cw]
  | c :: w, k, 0 => by simp [m_cw]
  | c :: w, k, i + 1 => by
    have := m_cw_get (N0 := N0) (aI := aI) w (k + 1) i
    simp only [m_cw, List.getElem?_cons_succ, this]
    rw [show k + 1 + i = k + (i + 1) by omega]
theorem m_cw_at {N0 : Nat} {aI : Nat → ClassId} {w : mPW} {i : Nat} {c : mPC} (h : w[i]? = some c) : (m_cw N0 aI 0 w)[i]? = some (N0 + i, m_cc N0 aI c) := by
  rw [m_cw_get, h, Nat.zero_add]; rfl
theorem m_cw_set {N0 : Nat} {aI : Nat → ClassId} : ∀ (w : mPW) (k i : Nat) (c : mPC), m_cw N0 aI k (w.set i c) = (m_cw N0 aI k w).set i (N0 + (k + i), m_cc N0 aI c)
  | [], _, _, _ => rfl
  | _ :: w, k, 0, c => rfl
  | _ :: w, k, i + 1, c => by
    simp only [List.set_cons_succ, m_cw, m_cw_set w (k + 1) i c]
    rw [show k + 1 + i = k + (i + 1) by omega]
theorem m_cw_app {N0 : Nat} {aI : Nat → ClassId} : ∀ (w : mPW) (k : Nat) (c : mPC), m_cw N0 aI k (w ++ [c]) = m_cw N0 aI k w ++ [(N0 + (k + w.length), m_cc N0 aI c)]
  | [], _, _ => rfl
  | _ :: w, k, c => by
    simp only [List.cons_append, m_cw, m_cw_app w (k + 1) c, List.length_cons]
    rw [show k + 1 + w.length = k + (w.length + 1) by omega]
theorem m_cw_D {N0 : Nat} {aI : Nat → ClassId} {w : mPW} : va_D (fun q => N0 ≤ q) (m_cw N0 aI 0 w) := by
  refine ⟨fun i j p q hi hj hpq => ?_, fun k q hk => ?_⟩
  · rw [m_cw_get] at hi hj
    obtain ⟨c, -, rfl⟩ := Option.map_eq_some_iff.mp hi
    obtain ⟨c', -, rfl⟩ := Option.map_eq_some_iff.mp hj
    have : N0 + (0 + i) = N0 + (0 + j) := hpq
    omega
  · rw [m_cw_get] at hk
    obtain ⟨c, -, rfl⟩ := Option.map_eq_some_iff.mp hk
    exact Nat.le_add_right _ _
end
section

theorem m_of_add (x y : Int) : Int32.ofInt (x + y) = Int32.ofInt x + Int32.ofInt y := Int32.toBitVec.inj (by simp [BitVec.ofInt_add])
theorem m_of_sub (x y : Int) : Int32.ofInt (x - y) = Int32.ofInt x - Int32.ofInt y := by
  have h := m_of_add (x - y) y
  rw [show x - y + y = x by omega] at h
  rw [h, Int32.add_sub_cancel]
theorem m_of_mul (x y : Int) : Int32.ofInt (x * y) = Int32.ofInt x * Int32.ofInt y := Int32.toBitVec.inj (by simp [BitVec.ofInt_mul])
/-- a whole number in the range of an int -/
def m_R (x : Int) : Prop := -2147483648 ≤ x ∧ x < 2147483648
theorem m_R_to {x : Int} (h : m_R x) : (Int32.ofInt x).toInt = x := Int32.toInt_ofInt_of_le (by have := h.1; omega) (by have := h.2; omega)
theorem m_R_32 (x : Int32) : m_R x.toInt := ⟨Int32.le_toInt x, Int32.toInt_lt x⟩
theorem m_R_nat {x : Int} (h : m_R x) : (Int32.ofInt x).toNatClampNeg = x.toNat := Int32.toNatClampNeg_ofInt_of_le (by have := h.1; omega) (by have := h.2; omega)
theorem m_R_eq {x y : Int} (hx : m_R x) (hy : m_R y) : Int32.ofInt x = Int32.ofInt y ↔ x = y := by rw [← Int32.toInt_inj, m_R_to hx, m_R_to hy]
theorem m_R_lt {x y : Int} (hx : m_R x) (hy : m_R y) : Int32.ofInt x < Int32.ofInt y ↔ x < y := by rw [Int32.lt_iff_toInt_lt, m_R_to hx, m_R_to hy]
theorem m_R_le {x y : Int} (hx : m_R x) (hy : m_R y) : Int32.ofInt x ≤ Int32.ofInt y ↔ x ≤ y := by rw [Int32.le_iff_toInt_le, m_R_to hx, m_R_to hy]
theorem m_R_0 : m_R 0 := ⟨by decide, by decide⟩
theorem m_R_div {x y : Int} (hx : 0 ≤ x) (hx' : x < 2147483648) (hy : 0 < y) (hy' : y < 2147483648) : Int32.ofInt (x / y) = Int32.ofInt x / Int32.ofInt y := by
  have h1 := m_R_to (x := x) ⟨by omega, hx'⟩
  have h2 := m_R_to (x := y) ⟨by omega, hy'⟩
  have h3 : Int32.ofInt x ≠ Int32.minValue := by
    intro h
    have h4 := congrArg Int32.toInt h
    rw [h1, Int32.toInt_minValue] at h4
    omega
  have h5 : 0 ≤ x / y := Int.ediv_nonneg hx (by omega)
  have h6 : x / y ≤ x := Int.ediv_le_self y hx
  rw [← Int32.toInt_inj, m_R_to ⟨by omega, by omega⟩, Int32.toInt_div_of_ne_left _ _ h3, h1, h2, Int.tdiv_eq_ediv_of_nonneg hx]
theorem m_R_rem {x y : Int} (hx : 0 ≤ x) (hx' : x < 2147483648) (hy : 0 < y) (hy' : y < 2147483648) : Int32.ofInt (x % y) = Int32.ofInt x - Int32.ofInt x / Int32.ofInt y * Int32.ofInt y := by
  rw [← m_R_div hx hx' hy hy', ← m_of_mul, ← m_of_sub]
  congr 1
  have := Int.mul_ediv_add_emod x y
  rw [Int.mul_comm (x / y) y]
  omega
/-- the length of an instruction that the tables hold -/
def m_len : Instr → Nat
  | .iload _ | .aload _ | .lload _ | .fload _ | .istore _ | .astore _ | .lstore _ | .fstore _ | .bipush _ | .ldc _ | .newarray _ => 2
  | .sipush _ | .ldc_w _ | .ldc2_w _ | .iinc _ _ | .getfield _ | .putfield _ | .goto _ | .if_icmp _ _ | .ifCond _ _ | .invokevirtual _ | .invokespecial _ | .invokestatic _ | .new _ => 3
  | _ => 1
def m_okb (mi : Nat) (e : BE) : Bool :=
  (match e.2.1 with | .tableswitch .. => (match decode (m_cd mi) e.1 with | .ok (i, _) => decide (i = e.2.1) | _ => false) | _ => decide (decode (m_cd mi) e.1 = .ok (e.2.1, m_len e.2.1))) &&
  match e.2.1 with
  | .bipush n => decide ((Int8.ofInt n).toInt32 = Int32.ofInt e.2.2.2.2)
  | .sipush n => decide ((Int16.ofInt n).toInt32 = Int32.ofInt e.2.2.2.2)
  | .getfield i => decide ((m_on mi, i, e.2.2.1, e.2.2.2.1) ∈ m_flds)
  | .putfield i => decide ((m_on mi, i, e.2.2.1, e.2.2.2.1) ∈ m_flds) && (match vwCl[e.2.2.1]? with | some r => (if e.2.2.2.2 = 0 then decide (r.2.1 e.2.2.2.1 = ((r.2.1 e.2.2.2.1).1, (r.2.1 e.2.2.2.1).2.1, "I", false)) else (r.2.1 e.2.2.2.1).2.2.2 && decide (m_kind mi = 2) && decide ((r.2.1 e.2.2.2.1).1 = m_own mi) && (match parseFieldDescriptor (r.2.1 e.2.2.2.1).2.2.1 with | some (.object _) => true | some (.array _) => true | _ => false)) | none => false)
  | .invokevirtual i => decide ((m_on mi, i, e.2.2.1) ∈ m_mths) && decide (e.2.2.1 < 1000 ∧ 0 < e.2.2.1 ∧ m_kind e.2.2.1 = 1)
  | .invokespecial i => decide ((m_on mi, i, e.2.2.1) ∈ m_mths) && decide (e.2.2.1 = 1000 ∨ (e.2.2.1 < 1000 ∧ 0 < e.2.2.1 ∧ m_kind e.2.2.1 = 2))
  | .invokestatic i => decide ((m_on mi, i, e.2.2.1) ∈ m_mths) && decide (e.2.2.1 = 1001 ∨ e.2.2.1 = 1002 ∨ (e.2.2.1 < 1000 ∧ 0 < e.2.2.1 ∧ m_kind e.2.2.1 = 0))
  | .ldc i => decide ((m_on mi, i, e.2.2.2.1, e.2.2.2.2) ∈ m_csts)
  | .ldc_w i => decide ((m_on mi, i, e.2.2.2.1, e.2.2.2.2) ∈ m_csts)
  | .ldc2_w i => decide ((m_on mi, i, e.2.2.2.2) ∈ m_cstl)
  | .new i => decide ((m_on mi, i, e.2.2.1) ∈ m_clss)
  | .goto off => decide ((e.1 : Int) + off = (e.2.2.1 : Int))
  | .if_icmp _ off => decide ((e.1 : Int) + off = (e.2.2.1 : Int))
  | .ifCond _ off => decide ((e.1 : Int) + off = (e.2.2.1 : Int))
  | .newarray t => decide (newarray.typeOf t = (if e.2.2.1 = 0 then .int else if e.2.2.1 = 1 then .char else .long)) && decide (e.2.2.1 < 3)
  | _ => true

theorem m_bk0 : bd_0.all (m_okb 0) = true := by decide +kernel
theorem m_bk1 : bd_1.all (m_okb 1) = true := by decide +kernel
theorem m_bk2 : bd_2.all (m_okb 2) = true := by decide +kernel
theorem m_bk3 : bd_3.all (m_okb 3) = true := by decide +kernel
theorem m_bk4 : bd_4.all (m_okb 4) = true := by decide +kernel
theorem m_bk5 : bd_5.all (m_okb 5) = true := by decide +kernel
theorem m_bk6 : bd_6.all (m_okb 6) = true := by decide +kernel
theorem m_bk7 : bd_7.all (m_okb 7) = true := by decide +kernel
theorem m_bk8 : bd_8.all (m_okb 8) = true := by decide +kernel
theorem m_bk9 : bd_9.all (m_okb 9) = true := by decide +kernel
theorem m_bk10 : bd_10.all (m_okb 10) = true := by decide +kernel
theorem m_bk11 : bd_11.all (m_okb 11) = true := by decide +kernel
theorem m_bk12 : bd_12.all (m_okb 12) = true := by decide +kernel
theorem m_bk13 : bd_13.all (m_okb 13) = true := by decide +kernel
theorem m_bk14 : bd_14.all (m_okb 14) = true := by decide +kernel
theorem m_bk15 : bd_15.all (m_okb 15) = true := by decide +kernel
theorem m_bk16 : bd_16.all (m_okb 16) = true := by decide +kernel
theorem m_bk17 : bd_17.all (m_okb 17) = true := by decide +kernel
theorem m_bk18 : bd_18.all (m_okb 18) = true := by decide +kernel
theorem m_bk19 : bd_19.all (m_okb 19) = true := by decide +kernel
theorem m_bk20 : bd_20.all (m_okb 20) = true := by decide +kernel
theorem m_bk21 : bd_21.all (m_okb 21) = true := by decide +kernel
theorem m_bk22 : bd_22.all (m_okb 22) = true := by decide +kernel
theorem m_bk23 : bd_23.all (m_okb 23) = true := by decide +kernel
theorem m_bk24 : bd_24.all (m_okb 24) = true := by decide +kernel
theorem m_bk25 : bd_25.all (m_okb 25) = true := by decide +kernel
theorem m_bk26 : bd_26.all (m_okb 26) = true := by decide +kernel
theorem m_bk27 : bd_27.all (m_okb 27) = true := by decide +kernel
theorem m_bk28 : bd_28.all (m_okb 28) = true := by decide +kernel
theorem m_bk29 : bd_29.all (m_okb 29) = true := by decide +kernel
theorem m_bk30 : bd_30.all (m_okb 30) = true := by decide +kernel
theorem m_bk31 : bd_31.all (m_okb 31) = true := by decide +kernel
theorem m_bk32 : bd_32.all (m_okb 32) = true := by decide +kernel
theorem m_bk33 : bd_33.all (m_okb 33) = true := by decide +kernel
theorem m_bk34 : bd_34.all (m_okb 34) = true := by decide +kernel
theorem m_bk35 : bd_35.all (m_okb 35) = true := by decide +kernel
theorem m_bk36 : bd_36.all (m_okb 36) = true := by decide +kernel
theorem m_bk37 : bd_37.all (m_okb 37) = true := by decide +kernel
theorem m_bk38 : bd_38.all (m_okb 38) = true := by decide +kernel
theorem m_bk39 : bd_39.all (m_okb 39) = true := by decide +kernel
theorem m_bk40 : bd_40.all (m_okb 40) = true := by decide +kernel
theorem m_bk41 : bd_41.all (m_okb 41) = true := by decide +kernel
theorem m_bk42 : bd_42.all (m_okb 42) = true := by decide +kernel
theorem m_bk43 : bd_43.all (m_okb 43) = true := by decide +kernel
theorem m_bk44 : bd_44.all (m_okb 44) = true := by decide +kernel
theorem m_bk45 : bd_45.all (m_okb 45) = true := by decide +kernel
theorem m_bk46 : bd_46.all (m_okb 46) = true := by decide +kernel
theorem m_bk47 : bd_47.all (m_okb 47) = true := by decide +kernel
theorem m_bk48 : bd_48.all (m_okb 48) = true := by decide +kernel
theorem m_bk49 : bd_49.all (m_okb 49) = true := by decide +kernel
theorem m_bk50 : bd_50.all (m_okb 50) = true := by decide +kernel
theorem m_bk51 : bd_51.all (m_okb 51) = true := by decide +kernel
theorem m_bk52 : bd_52.all (m_okb 52) = true := by decide +kernel
theorem m_bk53 : bd_53.all (m_okb 53) = true := by decide +kernel
theorem m_bk54 : bd_54.all (m_okb 54) = true := by decide +kernel
theorem m_bk55 : bd_55.all (m_okb 55) = true := by decide +kernel
theorem m_bk56 : bd_56.all (m_okb 56) = true := by decide +kernel
theorem m_bk57 : bd_57.all (m_okb 57) = true := by decide +kernel
theorem m_bk58 : bd_58.all (m_okb 58) = true := by decide +kernel
theorem m_bk59 : bd_59.all (m_okb 59) = true := by decide +kernel
theorem m_bk60 : bd_60.all (m_okb 60) = true := by decide +kernel
theorem m_bk61 : bd_61.all (m_okb 61) = true := by decide +kernel
theorem m_bk : ∀ mi, ∀ e ∈ m_bodies.getD mi [], m_okb mi e = true := by
  intro mi e he
  match mi, he with
  | 0, he => exact List.all_eq_true.mp m_bk0 e he
  | 1, he => exact List.all_eq_true.mp m_bk1 e he
  | 2, he => exact List.all_eq_true.mp m_bk2 e he
  | 3, he => exact List.all_eq_true.mp m_bk3 e he
  | 4, he => exact List.all_eq_true.mp m_bk4 e he
  | 5, he => exact List.all_eq_true.mp m_bk5 e he
  | 6, he => exact List.all_eq_true.mp m_bk6 e he
  | 7, he => exact List.all_eq_true.mp m_bk7 e he
  | 8, he => exact List.all_eq_true.mp m_bk8 e he
  | 9, he => exact List.all_eq_true.mp m_bk9 e he
  | 10, he => exact List.all_eq_true.mp m_bk10 e he
  | 11, he => exact List.all_eq_true.mp m_bk11 e he
  | 12, he => exact List.all_eq_true.mp m_bk12 e he
  | 13, he => exact List.all_eq_true.mp m_bk13 e he
  | 14, he => exact List.all_eq_true.mp m_bk14 e he
  | 15, he => exact List.all_eq_true.mp m_bk15 e he
  | 16, he => exact List.all_eq_true.mp m_bk16 e he
  | 17, he => exact List.all_eq_true.mp m_bk17 e he
  | 18, he => exact List.all_eq_true.mp m_bk18 e he
  | 19, he => exact List.all_eq_true.mp m_bk19 e he
  | 20, he => exact List.all_eq_true.mp m_bk20 e he
  | 21, he => exact List.all_eq_true.mp m_bk21 e he
  | 22, he => exact List.all_eq_true.mp m_bk22 e he
  | 23, he => exact List.all_eq_true.mp m_bk23 e he
  | 24, he => exact List.all_eq_true.mp m_bk24 e he
  | 25, he => exact List.all_eq_true.mp m_bk25 e he
  | 26, he => exact List.all_eq_true.mp m_bk26 e he
  | 27, he => exact List.all_eq_true.mp m_bk27 e he
  | 28, he => exact List.all_eq_true.mp m_bk28 e he
  | 29, he => exact List.all_eq_true.mp m_bk29 e he
  | 30, he => exact List.all_eq_true.mp m_bk30 e he
  | 31, he => exact List.all_eq_true.mp m_bk31 e he
  | 32, he => exact List.all_eq_true.mp m_bk32 e he
  | 33, he => exact List.all_eq_true.mp m_bk33 e he
  | 34, he => exact List.all_eq_true.mp m_bk34 e he
  | 35, he => exact List.all_eq_true.mp m_bk35 e he
  | 36, he => exact List.all_eq_true.mp m_bk36 e he
  | 37, he => exact List.all_eq_true.mp m_bk37 e he
  | 38, he => exact List.all_eq_true.mp m_bk38 e he
  | 39, he => exact List.all_eq_true.mp m_bk39 e he
  | 40, he => exact List.all_eq_true.mp m_bk40 e he
  | 41, he => exact List.all_eq_true.mp m_bk41 e he
  | 42, he => exact List.all_eq_true.mp m_bk42 e he
  | 43, he => exact List.all_eq_true.mp m_bk43 e he
  | 44, he => exact List.all_eq_true.mp m_bk44 e he
  | 45, he => exact List.all_eq_true.mp m_bk45 e he
  | 46, he => exact List.all_eq_true.mp m_bk46 e he
  | 47, he => exact List.all_eq_true.mp m_bk47 e he
  | 48, he => exact List.all_eq_true.mp m_bk48 e he
  | 49, he => exact List.all_eq_true.mp m_bk49 e he
  | 50, he => exact List.all_eq_true.mp m_bk50 e he
  | 51, he => exact List.all_eq_true.mp m_bk51 e he
  | 52, he => exact List.all_eq_true.mp m_bk52 e he
  | 53, he => exact List.all_eq_true.mp m_bk53 e he
  | 54, he => exact List.all_eq_true.mp m_bk54 e he
  | 55, he => exact List.all_eq_true.mp m_bk55 e he
  | 56, he => exact List.all_eq_true.mp m_bk56 e he
  | 57, he => exact List.all_eq_true.mp m_bk57 e he
  | 58, he => exact List.all_eq_true.mp m_bk58 e he
  | 59, he => exact List.all_eq_true.mp m_bk59 e he
  | 60, he => exact List.all_eq_true.mp m_bk60 e he
  | 61, he => exact List.all_eq_true.mp m_bk61 e he
  | k + 62, he => exact absurd he (by rw [List.getD_eq_getElem?_getD, List.getElem?_eq_none (by show 62 ≤ k + 62; omega)]; exact List.not_mem_nil)

theorem m_fetch_ok {mi pc : Nat} {e : BE} (h : m_fetch mi pc = some e) : e.1 = pc ∧ m_okb mi e = true := by
  refine ⟨?_, m_bk mi e (List.mem_of_find?_eq_some h)⟩
  have := List.find?_some h
  simpa using this
end
section
def m_ri : Option mPV → Instr
  | none => .return_
  | some _ => .ireturn
def m_rv (N0 : Nat) : Option mPV → List Value
  | none => []
  | some v => [m_cv N0 v]
def m_rok (mi : Nat) : Option mPV → Prop
  | none => m_ret mi = none
  | some (.inl x) => m_ret mi = some .int ∨ (m_ret mi = some .boolean ∧ (x = 0 ∨ x = 1))
  | _ => False
def m_tys (aI : Nat → ClassId) : List (ClassId × FieldType) := [(aI 0, .int), (aI 1, .char), (aI 2, .long)]
/-- where a method's walk stands: machine, code, words, classes; X: the script's cell, its length, its ints (the law's own) -/
def m_ctx (X : Nat × Nat × (Nat → Int32)) (mi : Nat) (p : Program) (s : State) (m : MethodId) (args : Array Value) (meth : Method) (c : Code) (N0 : Nat) (aI : Nat → ClassId) (D : va_G) : Prop :=
  p.tables.exec = Jvm.exec ∧ c.code = m_cd mi ∧ c.maxLocals = m_ml mi ∧ s.vm.findClass (m_own mi) = some m.cls ∧ (∀ w ∈ lw_g, w.before args s = true) ∧ (m_kind mi = 2 → meth.name = "<init>") ∧ va_K D vwCl (m_tys aI) s ∧ N0 ≤ s.heap.size ∧ va_X X.1 X.2.1 X.2.2 s s.heap ∧ X.1 < N0
def m_fin (mi : Nat) (Q : Option mPV → mPW → Prop) (p : Program) (l : Launch) (e : Env) (s : State) (m : MethodId) (args : Array Value) (below : List Frame) (meth : Method) (c : Code) (N0 : Nat) (aI : Nat → ClassId) (D : va_G) (Qf : State → Prop) : Prop :=
  ∀ (r : Option mPV) (w : mPW) (H : Heap) (locs : List Loc) (n pc : Nat) (ls : Array Slot), Q r w → m_rok mi r → va_P D vwCl (m_cw N0 aI 0 w) H → va_S (fun q => N0 ≤ q) s.heap H locs → (mi = 0 ∨ s.heap.size + (m_rm mi).cells = N0 + w.length) → n ≤ (m_rm mi).slots → decode (m_cd mi) pc = .ok (m_ri r, 1) →
    W p l e (m_rm mi) s m args below meth c H locs (m_rm mi).cells n Qf (F0 m pc ls (m_rv N0 r))
def m_Sem (X : Nat × Nat × (Nat → Int32)) (mi : Nat) (ps : mPS) (Q : Option mPV → mPW → Prop) : Prop :=
  ∀ (p : Program) (l : Launch) (e : Env) (s : State) (m : MethodId) (args : Array Value) (below : List Frame) (meth : Method) (c : Code) (N0 : Nat) (aI : Nat → ClassId) (D : va_G) (Qf : State → Prop),
  m_ctx X mi p s m args meth c N0 aI D → m_fin mi Q p l e s m args below meth c N0 aI D Qf →
  ∀ (H : Heap) (locs : List Loc) (ls : Array Slot) (k n : Nat), lv_has ls (m_ml mi) (m_as N0 0 ps.2.1) → ps.2.1.length = m_ml mi → va_P D vwCl (m_cw N0 aI 0 ps.2.2.2.1) H → va_S (fun q => N0 ≤ q) s.heap H locs → s.heap.size + k = N0 + ps.2.2.2.1.length → k + ps.2.2.2.2.1 = (m_rm mi).cells → n + ps.2.2.2.2.2 ≤ (m_rm mi).slots →
  W p l e (m_rm mi) s m args below meth c H locs k n Qf (F0 m ps.1 ls (ps.2.2.1.map (m_cv N0)))
def m_bin (f : Int → Int → Int) (pc : Nat) (L : List (Option mPV)) (w : mPW) (bc bs : Nat) : List mPV → Option mPS
  | .inl b :: .inl a :: S => some (pc + 1, L, .inl (f a b) :: S, w, bc, bs)
  | _ => none
def m_binL (f : Int64 → Int64 → Int64) (pc : Nat) (L : List (Option mPV)) (w : mPW) (bc bs : Nat) : List mPV → Option mPS
  | .inr (.inr (.long b)) :: .inr (.inr (.long a)) :: S => some (pc + 1, L, .inr (.inr (.long (f a b))) :: S, w, bc, bs)
  | _ => none
def m_ldI (o : Option (Option mPV)) (pc : Nat) (L : List (Option mPV)) (S : List mPV) (w : mPW) (bc bs : Nat) : Option mPS := match o with
  | some (some (.inl v)) => some (pc, L, .inl v :: S, w, bc, bs)
  | _ => none
def m_ldA (o : Option (Option mPV)) (pc : Nat) (L : List (Option mPV)) (S : List mPV) (w : mPW) (bc bs : Nat) : Option mPS := match o with
  | some (some (.inr (.inl v))) => some (pc, L, .inr (.inl v) :: S, w, bc, bs)
  | some (some (.inr (.inr (.ref v)))) => some (pc, L, .inr (.inr (.ref v)) :: S, w, bc, bs)
  | _ => none
def m_ldL (o : Option (Option mPV)) (pc : Nat) (L : List (Option mPV)) (S : List mPV) (w : mPW) (bc bs : Nat) : Option mPS := match o with
  | some (some (.inr (.inr (.long v)))) => some (pc, L, .inr (.inr (.long v)) :: S, w, bc, bs)
  | _ => none
def m_ldF (o : Option (Option mPV)) (pc : Nat) (L : List (Option mPV)) (S : List mPV) (w : mPW) (bc bs : Nat) : Option mPS := match o with
  | some (some (.inr (.inr (.float v)))) => some (pc, L, .inr (.inr (.float v)) :: S, w, bc, bs)
  | _ => none
def m_stI (i pc : Nat) (L : List (Option mPV)) (w : mPW) (bc bs : Nat) : List mPV → Option mPS
  | .inl v :: S => bif Nat.blt i L.length then some (pc, m_st L i (.inl v), S, w, bc, bs) else none
  | _ => none
def m_stA (i pc : Nat) (L : List (Option mPV)) (w : mPW) (bc bs : Nat) : List mPV → Option mPS
  | .inr (.inl v) :: S => bif Nat.blt i L.length then some (pc, m_st L i (.inr (.inl v)), S, w, bc, bs) else none
  | _ => none
def m_stF (i pc : Nat) (L : List (Option mPV)) (w : mPW) (bc bs : Nat) : List mPV → Option mPS
  | .inr (.inr (.float v)) :: S => bif Nat.blt i L.length then some (pc, m_st L i (.inr (.inr (.float v))), S, w, bc, bs) else none
  | _ => none
def m_stL (i pc : Nat) (L : List (Option mPV)) (w : mPW) (bc bs : Nat) : List mPV → Option mPS
  | .inr (.inr (.long v)) :: S => bif Nat.blt (i + 1) L.length then some (pc, m_st2 L i (.inr (.inr (.long v))), S, w, bc, bs) else none
  | _ => none
def m_dfl : List (List mPV) := [[.inr (.inr .null), .inr (.inr .null), .inl 0], [.inr (.inr .null), .inr (.inr .null), .inr (.inr .null), .inl 0, .inl 0, .inl 0], [.inr (.inr .null)], [.inl 0, .inr (.inr .null)], [.inr (.inr .null), .inl 0], [.inr (.inr .null), .inr (.inr .null), .inr (.inr .null), .inr (.inr .null), .inr (.inr .null)]]
def m_getf (x y pc : Nat) (L : List (Option mPV)) (w : mPW) (bc bs : Nat) : List mPV → Option mPS
  | .inr (.inl q) :: S => match w[q]? with
    | some (.inr (ci, fs)) => bif Nat.beq ci x then (match fs[y]? with | some v => some (pc, L, v :: S, w, bc, bs) | none => none) else none
    | _ => none
  | _ => none
def m_putI (x y pc : Nat) (L : List (Option mPV)) (w : mPW) (bc bs : Nat) : List mPV → Option mPS
  | .inl v :: .inr (.inl q) :: S => match w[q]? with
    | some (.inr (ci, fs)) => bif Nat.beq ci x && Nat.blt y fs.length then some (pc, L, S, w.set q (.inr (ci, fs.set y (.inl v))), bc, bs) else none
    | _ => none
  | _ => none
def m_putA (x y pc : Nat) (L : List (Option mPV)) (w : mPW) (bc bs : Nat) : List mPV → Option mPS
  | .inr (.inl v) :: .inr (.inl q) :: S => match w[q]? with
    | some (.inr (ci, fs)) => bif Nat.beq ci x && Nat.blt y fs.length then some (pc, L, S, w.set q (.inr (ci, fs.set y (.inr (.inl v)))), bc, bs) else none
    | _ => none
  | _ => none
def m_newo (x pc : Nat) (L : List (Option mPV)) (S : List mPV) (w : mPW) (bc bs : Nat) : Option mPS := match vwCl[x]?, m_dfl[x]?, bc with
  | some r, some fs, b + 1 => bif Nat.ble r.2.2 bs then some (pc, L, .inr (.inl w.length) :: S, w ++ [.inr (x, fs)], b, bs - r.2.2) else none
  | _, _, _ => none
def m_newr (x pc : Nat) (L : List (Option mPV)) (w : mPW) (bc bs : Nat) : List mPV → Option mPS
  | .inl (.ofNat v) :: S => match bc with
    | b + 1 => bif Nat.ble v bs && Nat.ble v 65536 && Nat.blt x 3 then some (pc, L, .inr (.inl w.length) :: S, w ++ [.inl (x, v, bif Nat.beq x 2 then .inr (fun _ => 0) else .inl (fun _ => 0))], b, bs - v) else none
    | _ => none
  | _ => none
def m_exec (mi : Nat) (ins : Instr) (x y : Nat) (z : Int) (pc : Nat) (L : List (Option mPV)) (S : List mPV) (w : mPW) (bc bs : Nat) : Option mPS := match ins with
  | .iload i => m_ldI L[i]? (pc + 2) L S w bc bs
  | .iload_n i => m_ldI L[(i : Nat)]? (pc + 1) L S w bc bs
  | .aload i => m_ldA L[i]? (pc + 2) L S w bc bs
  | .aload_n i => m_ldA L[(i : Nat)]? (pc + 1) L S w bc bs
  | .lload i => m_ldL L[i]? (pc + 2) L S w bc bs
  | .lload_n i => m_ldL L[(i : Nat)]? (pc + 1) L S w bc bs
  | .fload_n i => m_ldF L[(i : Nat)]? (pc + 1) L S w bc bs
  | .istore i => m_stI i (pc + 2) L w bc bs S
  | .istore_n i => m_stI (i : Nat) (pc + 1) L w bc bs S
  | .astore i => m_stA i (pc + 2) L w bc bs S
  | .astore_n i => m_stA (i : Nat) (pc + 1) L w bc bs S
  | .lstore i => m_stL i (pc + 2) L w bc bs S
  | .lstore_n i => m_stL (i : Nat) (pc + 1) L w bc bs S
  | .fstore_n i => m_stF (i : Nat) (pc + 1) L w bc bs S
  | .iconst v => some (pc + 1, L, .inl v :: S, w, bc, bs)
  | .bipush _ => some (pc + 2, L, .inl z :: S, w, bc, bs)
  | .sipush _ => some (pc + 3, L, .inl z :: S, w, bc, bs)
  | .ldc _ => bif Nat.beq y 0 then some (pc + 2, L, .inl z :: S, w, bc, bs) else some (pc + 2, L, .inr (.inr (.float (UInt32.ofNat z.toNat))) :: S, w, bc, bs)
  | .ldc_w _ => bif Nat.beq y 0 then some (pc + 3, L, .inl z :: S, w, bc, bs) else none
  | .ldc2_w _ => some (pc + 3, L, .inr (.inr (.long (Int64.ofInt z))) :: S, w, bc, bs)
  | .lconst v => some (pc + 1, L, .inr (.inr (.long (Int64.ofNat (v : Nat)))) :: S, w, bc, bs)
  | .fconst v => match v with
    | 0 => some (pc + 1, L, .inr (.inr (.float FP.fconst0)) :: S, w, bc, bs)
    | 1 => some (pc + 1, L, .inr (.inr (.float FP.fconst1)) :: S, w, bc, bs)
    | 2 => some (pc + 1, L, .inr (.inr (.float FP.fconst2)) :: S, w, bc, bs)
  | .iadd => m_bin (fun a b => a + b) pc L w bc bs S
  | .isub => m_bin (fun a b => a - b) pc L w bc bs S
  | .imul => m_bin (fun a b => a * b) pc L w bc bs S
  | .iand => m_bin (fun a b => (Int32.ofInt a &&& Int32.ofInt b).toInt) pc L w bc bs S
  | .ior => m_bin (fun a b => (Int32.ofInt a ||| Int32.ofInt b).toInt) pc L w bc bs S
  | .ixor => m_bin (fun a b => (Int32.ofInt a ^^^ Int32.ofInt b).toInt) pc L w bc bs S
  | .ishl => m_bin (fun a b => (Int32.ofInt a <<< (Int32.ofInt b &&& 31)).toInt) pc L w bc bs S
  | .ishr => m_bin (fun a b => (Int32.ofInt a >>> (Int32.ofInt b &&& 31)).toInt) pc L w bc bs S
  | .iushr => m_bin (fun a b => ((Int32.ofInt a).toUInt32 >>> ((Int32.ofInt b).toUInt32 &&& Int32.toUInt32 31)).toInt32.toInt) pc L w bc bs S
  | .land => m_binL (fun a b => a &&& b) pc L w bc bs S
  | .lor => m_binL (fun a b => a ||| b) pc L w bc bs S
  | .lsub => m_binL (fun a b => a - b) pc L w bc bs S
  | .lxor => m_binL (fun a b => a ^^^ b) pc L w bc bs S
  | .i2l => match S with
    | .inl a :: S => some (pc + 1, L, .inr (.inr (.long (Int32.ofInt a).toInt64)) :: S, w, bc, bs)
    | _ => none
  | .lshl => match S with
    | .inl b :: .inr (.inr (.long a)) :: S => some (pc + 1, L, .inr (.inr (.long (a <<< ((Int32.ofInt b).toInt64 &&& 63)))) :: S, w, bc, bs)
    | _ => none
  | .lshr => match S with
    | .inl b :: .inr (.inr (.long a)) :: S => some (pc + 1, L, .inr (.inr (.long (a >>> ((Int32.ofInt b).toInt64 &&& 63)))) :: S, w, bc, bs)
    | _ => none
  | .lcmp => match S with
    | .inr (.inr (.long b)) :: .inr (.inr (.long a)) :: S => some (pc + 1, L, .inl (lg_cmp a b).toInt :: S, w, bc, bs)
    | _ => none
  | .l2i => match S with
    | .inr (.inr (.long a)) :: S => some (pc + 1, L, .inl a.toInt32.toInt :: S, w, bc, bs)
    | _ => none
  | .i2f => match S with
    | .inl a :: S => some (pc + 1, L, .inr (.inr (.float (FP.i2f (Int32.ofInt a)))) :: S, w, bc, bs)
    | _ => none
  | .f2i => match S with
    | .inr (.inr (.float a)) :: S => some (pc + 1, L, .inl (FP.f2i a).toInt :: S, w, bc, bs)
    | _ => none
  | .fcmp o => match S with
    | .inr (.inr (.float b)) :: .inr (.inr (.float a)) :: S => some (pc + 1, L, .inl (Op.cmpValue (FP.fcmp a b) o).toInt :: S, w, bc, bs)
    | _ => none
  | .pop => match S with
    | v :: S => bif Nat.beq (m_cat v) 1 then some (pc + 1, L, S, w, bc, bs) else none
    | _ => none
  | .dup => match S with
    | v :: S => bif Nat.beq (m_cat v) 1 then some (pc + 1, L, v :: v :: S, w, bc, bs) else none
    | _ => none
  | .dup2 => match S with
    | u :: v :: S => bif Nat.beq (m_cat u) 1 && Nat.beq (m_cat v) 1 then some (pc + 1, L, u :: v :: u :: v :: S, w, bc, bs) else none
    | _ => none
  | .goto _ => some (x, L, S, w, bc, bs)
  | .iinc i d => match L[i]? with
    | some (some (.inl v)) => bif Nat.blt i L.length then some (pc + 3, m_st L i (.inl (v + d)), S, w, bc, bs) else none
    | _ => none
  | .arraylength => match S with
    | .inr (.inl q) :: S => match w[q]? with
      | some (.inl (t, v, _)) => bif Nat.blt t 3 then some (pc + 1, L, .inl (v : Int) :: S, w, bc, bs) else none
      | _ => none
    | _ => none
  | .getfield _ => m_getf x y (pc + 3) L w bc bs S
  | .putfield _ => if z = 0 then m_putI x y (pc + 3) L w bc bs S else m_putA x y (pc + 3) L w bc bs S
  | .new _ => m_newo x (pc + 3) L S w bc bs
  | .newarray _ => m_newr x (pc + 2) L w bc bs S
  | .invokespecial _ => match S with
    | .inr (.inl _) :: S => bif Nat.beq x 1000 && (Nat.ble 1 (m_rm mi).frames && Nat.ble ((S.map m_cat).sum + 12) (m_rm mi).locals) then some (pc + 3, L, S, w, bc, bs) else none
    | _ => none
  | _ => none
theorem m_cats (N0 : Nat) (S : List mPV) : ((S.map (m_cv N0)).map fun v => v.category).sum = (S.map m_cat).sum := by
  rw [List.map_map]
  congr 1
  exact List.map_congr_left (fun v _ => m_cat_cv N0 v)
theorem m_uw : ∀ (ci : Nat) (r : vw_C), vwCl[ci]? = some r → ∀ w ∈ u_ws r.1 r.2.1 r.2.2, w ∈ lw_g := by
  intro ci r h
  match ci, h with
  | 0, h => cases h; exact m_uw0
  | 1, h => cases h; exact m_uw1
  | 2, h => cases h; exact m_uw2
  | 3, h => cases h; exact m_uw3
  | 4, h => cases h; exact m_uw4
  | 5, h => cases h; exact m_uw5
  | k + 6, h => exact absurd h (by rw [List.getElem?_eq_none (by show 6 ≤ k + 6; omega)]; intro h; cases h)
theorem m_vt : ∀ (ci : Nat) (r : vw_C), vwCl[ci]? = some r → ∃ ty0 : Nat → FieldType, (∀ k, k < r.2.2 → parseFieldDescriptor (r.2.1 k).2.2.1 = some (ty0 k)) ∧ (∀ a, a < r.2.2 → ∀ b, b < r.2.2 → a ≠ b → (r.2.1 a).2.1 ≠ (r.2.1 b).2.1) ∧ (∀ fs, m_dfl[ci]? = some fs → ∀ N0 j, j < r.2.2 → defaultValue (ty0 j) = vp_V (fs.map (m_cv N0)) j) := by
  intro ci r h
  match ci, h with
  | 0, h =>
    cases h
    exact ⟨tyX0, tyX0_ok, nmX0, fun fs hfs N0 j hj => by
      cases hfs
      have hj : j < 3 := hj
      rcases (show j = 0 ∨ j = 1 ∨ j = 2 by omega) with rfl | rfl | rfl <;> rfl⟩
  | 1, h =>
    cases h
    exact ⟨tyX2, tyX2_ok, nmX2, fun fs hfs N0 j hj => by
      cases hfs
      have hj : j < 6 := hj
      rcases (show j = 0 ∨ j = 1 ∨ j = 2 ∨ j = 3 ∨ j = 4 ∨ j = 5 by omega) with rfl | rfl | rfl | rfl | rfl | rfl <;> rfl⟩
  | 2, h =>
    cases h
    exact ⟨tyX3, tyX3_ok, nmX3, fun fs hfs N0 j hj => by
      cases hfs
      have hj : j < 1 := hj
      rcases (show j = 0 by omega) with rfl <;> rfl⟩
  | 3, h =>
    cases h
    exact ⟨tyX4, tyX4_ok, nmX4, fun fs hfs N0 j hj => by
      cases hfs
      have hj : j < 2 := hj
      rcases (show j = 0 ∨ j = 1 by omega) with rfl | rfl <;> rfl⟩
  | 4, h =>
    cases h
    exact ⟨tyX5, tyX5_ok, nmX5, fun fs hfs N0 j hj => by
      cases hfs
      have hj : j < 2 := hj
      rcases (show j = 0 ∨ j = 1 by omega) with rfl | rfl <;> rfl⟩
  | 5, h =>
    cases h
    exact ⟨tyX6, tyX6_ok, nmX6, fun fs hfs N0 j hj => by
      cases hfs
      have hj : j < 5 := hj
      rcases (show j = 0 ∨ j = 1 ∨ j = 2 ∨ j = 3 ∨ j = 4 by omega) with rfl | rfl | rfl | rfl | rfl <;> rfl⟩
  | k + 6, h => exact absurd h (by rw [List.getElem?_eq_none (by show 6 ≤ k + 6; omega)]; intro h; cases h)
theorem m_size {X : Nat × Nat × (Nat → Int32)} {mi : Nat} {p : Program} {l : Launch} {e : Env} {R : Room} {s : State} {m : MethodId} {args : Array Value} {below : List Frame} {meth : Method} {c : Code} {N0 : Nat} {aI : Nat → ClassId} {D : va_G} {T : State} {locs : List Loc} {k n : Nat} {w : mPW}
    (h0 : N0 ≤ s.heap.size) (hP : va_P D vwCl (m_cw N0 aI 0 w) T.heap) (hS : va_S (fun q => N0 ≤ q) s.heap T.heap locs) (hk : s.heap.size + k = N0 + w.length) (X : Stand p l e R s m args below meth c T locs k n) : T.heap.size = N0 + w.length := by
  have h1 := X.heapSize
  have h2 : N0 + w.length ≤ T.heap.size := by
    cases w with
    | nil =>
      have h3 := hS.1
      have h4 : N0 + ([] : mPW).length = N0 := rfl
      omega
    | cons a w =>
      have hlt : w.length < (a :: w).length := Nat.lt_succ_self _
      have h3 := (hP w.length _ (m_cw_at (List.getElem?_eq_getElem hlt))).lt
      have h4 : N0 + w.length < T.heap.size := h3
      show N0 + (w.length + 1) ≤ _
      omega
  omega
set_option maxHeartbeats 4000000 in
set_option maxRecDepth 100000 in
theorem m_x_iload {X : Nat × Nat × (Nat → Int32)} {mi pc x y : Nat} {i : Nat} {z : Int} {L : List (Option mPV)} {S : List mPV} {w : mPW} {bc bs : Nat} {ps' : mPS} {Q : Option mPV → mPW → Prop} (hf : m_fetch mi pc = some (pc, (.iload i), x, y, z)) (he : m_exec mi (.iload i) x y z pc L S w bc bs = some ps') (K : m_Sem X mi ps' Q) : m_Sem X mi (pc, L, S, w, bc, bs) Q := by
  intro p l e s m args below meth c N0 aI D Qf hC hF H locs ls k n hl hlen hP hS hk hb1 hb2
  have hok := (m_fetch_ok hf).2
  obtain ⟨hx, hb, hml, hown, hts, hin, hK, h0, hX⟩ := id hC
  unfold m_okb at hok
  simp only [Bool.and_eq_true] at hok
  obtain ⟨hok1, hok2⟩ := hok
  dsimp only at hok1 hok2 hl hlen hP hS hk hb1 hb2
  have hdec := of_decide_eq_true hok1
  dsimp only [m_len] at hdec
  simp only [m_exec, m_ldI] at he
  split at he
  next hv =>
    cases he
    refine lv_iload hx hb hdec (m_has_get hl hv) ?_
    exact K p l e s m args below meth c N0 aI D Qf hC hF H locs ls k n hl hlen hP hS hk hb1 hb2
  next => cases he
set_option maxHeartbeats 4000000 in
set_option maxRecDepth 100000 in
theorem m_x_lload {X : Nat × Nat × (Nat → Int32)} {mi pc x y : Nat} {i : Nat} {z : Int} {L : List (Option mPV)} {S : List mPV} {w : mPW} {bc bs : Nat} {ps' : mPS} {Q : Option mPV → mPW → Prop} (hf : m_fetch mi pc = some (pc, (.lload i), x, y, z)) (he : m_exec mi (.lload i) x y z pc L S w bc bs = some ps') (K : m_Sem X mi ps' Q) : m_Sem X mi (pc, L, S, w, bc, bs) Q := by
  intro p l e s m args below meth c N0 aI D Qf hC hF H locs ls k n hl hlen hP hS hk hb1 hb2
  have hok := (m_fetch_ok hf).2
  obtain ⟨hx, hb, hml, hown, hts, hin, hK, h0, hX⟩ := id hC
  unfold m_okb at hok
  simp only [Bool.and_eq_true] at hok
  obtain ⟨hok1, hok2⟩ := hok
  dsimp only at hok1 hok2 hl hlen hP hS hk hb1 hb2
  have hdec := of_decide_eq_true hok1
  dsimp only [m_len] at hdec
  simp only [m_exec, m_ldL] at he
  split at he
  next hv =>
    cases he
    refine lv_lload hx hb hdec (m_has_get hl hv) ?_
    exact K p l e s m args below meth c N0 aI D Qf hC hF H locs ls k n hl hlen hP hS hk hb1 hb2
  next => cases he
set_option maxHeartbeats 4000000 in
set_option maxRecDepth 100000 in
theorem m_x_iload_n {X : Nat × Nat × (Nat → Int32)} {mi pc x y : Nat} {i : Fin 4} {z : Int} {L : List (Option mPV)} {S : List mPV} {w : mPW} {bc bs : Nat} {ps' : mPS} {Q : Option mPV → mPW → Prop} (hf : m_fetch mi pc = some (pc, (.iload_n i), x, y, z)) (he : m_exec mi (.iload_n i) x y z pc L S w bc bs = some ps') (K : m_Sem X mi ps' Q) : m_Sem X mi (pc, L, S, w, bc, bs) Q := by
  intro p l e s m args below meth c N0 aI D Qf hC hF H locs ls k n hl hlen hP hS hk hb1 hb2
  have hok := (m_fetch_ok hf).2
  obtain ⟨hx, hb, hml, hown, hts, hin, hK, h0, hX⟩ := id hC
  unfold m_okb at hok
  simp only [Bool.and_eq_true] at hok
  obtain ⟨hok1, hok2⟩ := hok
  dsimp only at hok1 hok2 hl hlen hP hS hk hb1 hb2
  have hdec := of_decide_eq_true hok1
  dsimp only [m_len] at hdec
  simp only [m_exec, m_ldI] at he
  split at he
  next hv =>
    cases he
    refine lv_iload_n hx hb hdec rfl (m_has_get hl hv) ?_
    exact K p l e s m args below meth c N0 aI D Qf hC hF H locs ls k n hl hlen hP hS hk hb1 hb2
  next => cases he
set_option maxHeartbeats 4000000 in
set_option maxRecDepth 100000 in
theorem m_x_lload_n {X : Nat × Nat × (Nat → Int32)} {mi pc x y : Nat} {i : Fin 4} {z : Int} {L : List (Option mPV)} {S : List mPV} {w : mPW} {bc bs : Nat} {ps' : mPS} {Q : Option mPV → mPW → Prop} (hf : m_fetch mi pc = some (pc, (.lload_n i), x, y, z)) (he : m_exec mi (.lload_n i) x y z pc L S w bc bs = some ps') (K : m_Sem X mi ps' Q) : m_Sem X mi (pc, L, S, w, bc, bs) Q := by
  intro p l e s m args below meth c N0 aI D Qf hC hF H locs ls k n hl hlen hP hS hk hb1 hb2
  have hok := (m_fetch_ok hf).2
  obtain ⟨hx, hb, hml, hown, hts, hin, hK, h0, hX⟩ := id hC
  unfold m_okb at hok
  simp only [Bool.and_eq_true] at hok
  obtain ⟨hok1, hok2⟩ := hok
  dsimp only at hok1 hok2 hl hlen hP hS hk hb1 hb2
  have hdec := of_decide_eq_true hok1
  dsimp only [m_len] at hdec
  simp only [m_exec, m_ldL] at he
  split at he
  next hv =>
    cases he
    refine lv_lload_n hx hb hdec rfl (m_has_get hl hv) ?_
    exact K p l e s m args below meth c N0 aI D Qf hC hF H locs ls k n hl hlen hP hS hk hb1 hb2
  next => cases he
set_option maxHeartbeats 4000000 in
set_option maxRecDepth 100000 in
theorem m_x_fload_n {X : Nat × Nat × (Nat → Int32)} {mi pc x y : Nat} {i : Fin 4} {z : Int} {L : List (Option mPV)} {S : List mPV} {w : mPW} {bc bs : Nat} {ps' : mPS} {Q : Option mPV → mPW → Prop} (hf : m_fetch mi pc = some (pc, (.fload_n i), x, y, z)) (he : m_exec mi (.fload_n i) x y z pc L S w bc bs = some ps') (K : m_Sem X mi ps' Q) : m_Sem X mi (pc, L, S, w, bc, bs) Q := by
  intro p l e s m args below meth c N0 aI D Qf hC hF H locs ls k n hl hlen hP hS hk hb1 hb2
  have hok := (m_fetch_ok hf).2
  obtain ⟨hx, hb, hml, hown, hts, hin, hK, h0, hX⟩ := id hC
  unfold m_okb at hok
  simp only [Bool.and_eq_true] at hok
  obtain ⟨hok1, hok2⟩ := hok
  dsimp only at hok1 hok2 hl hlen hP hS hk hb1 hb2
  have hdec := of_decide_eq_true hok1
  dsimp only [m_len] at hdec
  simp only [m_exec, m_ldF] at he
  split at he
  next hv =>
    cases he
    refine lv_fload_n hx hb hdec rfl (m_has_get hl hv) ?_
    exact K p l e s m args below meth c N0 aI D Qf hC hF H locs ls k n hl hlen hP hS hk hb1 hb2
  next => cases he
set_option maxHeartbeats 4000000 in
set_option maxRecDepth 100000 in
theorem m_x_aload {X : Nat × Nat × (Nat → Int32)} {mi pc x y : Nat} {i : Nat} {z : Int} {L : List (Option mPV)} {S : List mPV} {w : mPW} {bc bs : Nat} {ps' : mPS} {Q : Option mPV → mPW → Prop} (hf : m_fetch mi pc = some (pc, (.aload i), x, y, z)) (he : m_exec mi (.aload i) x y z pc L S w bc bs = some ps') (K : m_Sem X mi ps' Q) : m_Sem X mi (pc, L, S, w, bc, bs) Q := by
  intro p l e s m args below meth c N0 aI D Qf hC hF H locs ls k n hl hlen hP hS hk hb1 hb2
  have hok := (m_fetch_ok hf).2
  obtain ⟨hx, hb, hml, hown, hts, hin, hK, h0, hX⟩ := id hC
  unfold m_okb at hok
  simp only [Bool.and_eq_true] at hok
  obtain ⟨hok1, hok2⟩ := hok
  dsimp only at hok1 hok2 hl hlen hP hS hk hb1 hb2
  have hdec := of_decide_eq_true hok1
  dsimp only [m_len] at hdec
  simp only [m_exec, m_ldA] at he
  split at he
  next hv =>
    cases he
    refine lv_aload hx hb hdec  (m_has_get hl hv) ?_
    exact K p l e s m args below meth c N0 aI D Qf hC hF H locs ls k n hl hlen hP hS hk hb1 hb2
  next hv =>
    cases he
    refine lv_aload hx hb hdec  (m_has_get hl hv) ?_
    exact K p l e s m args below meth c N0 aI D Qf hC hF H locs ls k n hl hlen hP hS hk hb1 hb2
  next => cases he
set_option maxHeartbeats 4000000 in
set_option maxRecDepth 100000 in
theorem m_x_aload_n {X : Nat × Nat × (Nat → Int32)} {mi pc x y : Nat} {i : Fin 4} {z : Int} {L : List (Option mPV)} {S : List mPV} {w : mPW} {bc bs : Nat} {ps' : mPS} {Q : Option mPV → mPW → Prop} (hf : m_fetch mi pc = some (pc, (.aload_n i), x, y, z)) (he : m_exec mi (.aload_n i) x y z pc L S w bc bs = some ps') (K : m_Sem X mi ps' Q) : m_Sem X mi (pc, L, S, w, bc, bs) Q := by
  intro p l e s m args below meth c N0 aI D Qf hC hF H locs ls k n hl hlen hP hS hk hb1 hb2
  have hok := (m_fetch_ok hf).2
  obtain ⟨hx, hb, hml, hown, hts, hin, hK, h0, hX⟩ := id hC
  unfold m_okb at hok
  simp only [Bool.and_eq_true] at hok
  obtain ⟨hok1, hok2⟩ := hok
  dsimp only at hok1 hok2 hl hlen hP hS hk hb1 hb2
  have hdec := of_decide_eq_true hok1
  dsimp only [m_len] at hdec
  simp only [m_exec, m_ldA] at he
  split at he
  next hv =>
    cases he
    refine lv_aload_n hx hb hdec rfl (m_has_get hl hv) ?_
    exact K p l e s m args below meth c N0 aI D Qf hC hF H locs ls k n hl hlen hP hS hk hb1 hb2
  next hv =>
    cases he
    refine lv_aload_n hx hb hdec rfl (m_has_get hl hv) ?_
    exact K p l e s m args below meth c N0 aI D Qf hC hF H locs ls k n hl hlen hP hS hk hb1 hb2
  next => cases he
set_option maxHeartbeats 4000000 in
set_option maxRecDepth 100000 in
theorem m_x_istore {X : Nat × Nat × (Nat → Int32)} {mi pc x y : Nat} {i : Nat} {z : Int} {L : List (Option mPV)} {S : List mPV} {w : mPW} {bc bs : Nat} {ps' : mPS} {Q : Option mPV → mPW → Prop} (hf : m_fetch mi pc = some (pc, (.istore i), x, y, z)) (he : m_exec mi (.istore i) x y z pc L S w bc bs = some ps') (K : m_Sem X mi ps' Q) : m_Sem X mi (pc, L, S, w, bc, bs) Q := by
  intro p l e s m args below meth c N0 aI D Qf hC hF H locs ls k n hl hlen hP hS hk hb1 hb2
  have hok := (m_fetch_ok hf).2
  obtain ⟨hx, hb, hml, hown, hts, hin, hK, h0, hX⟩ := id hC
  unfold m_okb at hok
  simp only [Bool.and_eq_true] at hok
  obtain ⟨hok1, hok2⟩ := hok
  dsimp only at hok1 hok2 hl hlen hP hS hk hb1 hb2
  have hdec := of_decide_eq_true hok1
  dsimp only [m_len] at hdec
  simp only [m_exec] at he
  unfold m_stI at he
  split at he
  next =>
    cases hi : Nat.blt (i) L.length with
    | false => rw [hi] at he; cases he
    | true =>
      rw [hi] at he
      cases he
      have hi := Nat.le_of_ble_eq_true hi
      refine lv_istore hx hb hdec  hl (by rw [← hlen]; exact hi) rfl (fun ls2 hl2 => ?_)
      exact K p l e s m args below meth c N0 aI D Qf hC hF H locs ls2 k n (m_has_st rfl hl2) (by rw [m_st_len]; exact hlen) hP hS hk hb1 hb2
  next => cases he
set_option maxHeartbeats 4000000 in
set_option maxRecDepth 100000 in
theorem m_x_istore_n {X : Nat × Nat × (Nat → Int32)} {mi pc x y : Nat} {i : Fin 4} {z : Int} {L : List (Option mPV)} {S : List mPV} {w : mPW} {bc bs : Nat} {ps' : mPS} {Q : Option mPV → mPW → Prop} (hf : m_fetch mi pc = some (pc, (.istore_n i), x, y, z)) (he : m_exec mi (.istore_n i) x y z pc L S w bc bs = some ps') (K : m_Sem X mi ps' Q) : m_Sem X mi (pc, L, S, w, bc, bs) Q := by
  intro p l e s m args below meth c N0 aI D Qf hC hF H locs ls k n hl hlen hP hS hk hb1 hb2
  have hok := (m_fetch_ok hf).2
  obtain ⟨hx, hb, hml, hown, hts, hin, hK, h0, hX⟩ := id hC
  unfold m_okb at hok
  simp only [Bool.and_eq_true] at hok
  obtain ⟨hok1, hok2⟩ := hok
  dsimp only at hok1 hok2 hl hlen hP hS hk hb1 hb2
  have hdec := of_decide_eq_true hok1
  dsimp only [m_len] at hdec
  simp only [m_exec] at he
  unfold m_stI at he
  split at he
  next =>
    cases hi : Nat.blt ((i : Nat)) L.length with
    | false => rw [hi] at he; cases he
    | true =>
      rw [hi] at he
      cases he
      have hi := Nat.le_of_ble_eq_true hi
      refine lv_istore_n hx hb hdec rfl hl (by rw [← hlen]; exact hi) rfl (fun ls2 hl2 => ?_)
      exact K p l e s m args below meth c N0 aI D Qf hC hF H locs ls2 k n (m_has_st rfl hl2) (by rw [m_st_len]; exact hlen) hP hS hk hb1 hb2
  next => cases he
set_option maxHeartbeats 4000000 in
set_option maxRecDepth 100000 in
theorem m_x_astore {X : Nat × Nat × (Nat → Int32)} {mi pc x y : Nat} {i : Nat} {z : Int} {L : List (Option mPV)} {S : List mPV} {w : mPW} {bc bs : Nat} {ps' : mPS} {Q : Option mPV → mPW → Prop} (hf : m_fetch mi pc = some (pc, (.astore i), x, y, z)) (he : m_exec mi (.astore i) x y z pc L S w bc bs = some ps') (K : m_Sem X mi ps' Q) : m_Sem X mi (pc, L, S, w, bc, bs) Q := by
  intro p l e s m args below meth c N0 aI D Qf hC hF H locs ls k n hl hlen hP hS hk hb1 hb2
  have hok := (m_fetch_ok hf).2
  obtain ⟨hx, hb, hml, hown, hts, hin, hK, h0, hX⟩ := id hC
  unfold m_okb at hok
  simp only [Bool.and_eq_true] at hok
  obtain ⟨hok1, hok2⟩ := hok
  dsimp only at hok1 hok2 hl hlen hP hS hk hb1 hb2
  have hdec := of_decide_eq_true hok1
  dsimp only [m_len] at hdec
  simp only [m_exec] at he
  unfold m_stA at he
  split at he
  next =>
    cases hi : Nat.blt (i) L.length with
    | false => rw [hi] at he; cases he
    | true =>
      rw [hi] at he
      cases he
      have hi := Nat.le_of_ble_eq_true hi
      refine lv_astore hx hb hdec  hl (by rw [← hlen]; exact hi) rfl (fun ls2 hl2 => ?_)
      exact K p l e s m args below meth c N0 aI D Qf hC hF H locs ls2 k n (m_has_st rfl hl2) (by rw [m_st_len]; exact hlen) hP hS hk hb1 hb2
  next => cases he
set_option maxHeartbeats 4000000 in
set_option maxRecDepth 100000 in
theorem m_x_astore_n {X : Nat × Nat × (Nat → Int32)} {mi pc x y : Nat} {i : Fin 4} {z : Int} {L : List (Option mPV)} {S : List mPV} {w : mPW} {bc bs : Nat} {ps' : mPS} {Q : Option mPV → mPW → Prop} (hf : m_fetch mi pc = some (pc, (.astore_n i), x, y, z)) (he : m_exec mi (.astore_n i) x y z pc L S w bc bs = some ps') (K : m_Sem X mi ps' Q) : m_Sem X mi (pc, L, S, w, bc, bs) Q := by
  intro p l e s m args below meth c N0 aI D Qf hC hF H locs ls k n hl hlen hP hS hk hb1 hb2
  have hok := (m_fetch_ok hf).2
  obtain ⟨hx, hb, hml, hown, hts, hin, hK, h0, hX⟩ := id hC
  unfold m_okb at hok
  simp only [Bool.and_eq_true] at hok
  obtain ⟨hok1, hok2⟩ := hok
  dsimp only at hok1 hok2 hl hlen hP hS hk hb1 hb2
  have hdec := of_decide_eq_true hok1
  dsimp only [m_len] at hdec
  simp only [m_exec] at he
  unfold m_stA at he
  split at he
  next =>
    cases hi : Nat.blt ((i : Nat)) L.length with
    | false => rw [hi] at he; cases he
    | true =>
      rw [hi] at he
      cases he
      have hi := Nat.le_of_ble_eq_true hi
      refine lv_astore_n hx hb hdec rfl hl (by rw [← hlen]; exact hi) rfl (fun ls2 hl2 => ?_)
      exact K p l e s m args below meth c N0 aI D Qf hC hF H locs ls2 k n (m_has_st rfl hl2) (by rw [m_st_len]; exact hlen) hP hS hk hb1 hb2
  next => cases he
set_option maxHeartbeats 4000000 in
set_option maxRecDepth 100000 in
theorem m_x_fstore_n {X : Nat × Nat × (Nat → Int32)} {mi pc x y : Nat} {i : Fin 4} {z : Int} {L : List (Option mPV)} {S : List mPV} {w : mPW} {bc bs : Nat} {ps' : mPS} {Q : Option mPV → mPW → Prop} (hf : m_fetch mi pc = some (pc, (.fstore_n i), x, y, z)) (he : m_exec mi (.fstore_n i) x y z pc L S w bc bs = some ps') (K : m_Sem X mi ps' Q) : m_Sem X mi (pc, L, S, w, bc, bs) Q := by
  intro p l e s m args below meth c N0 aI D Qf hC hF H locs ls k n hl hlen hP hS hk hb1 hb2
  have hok := (m_fetch_ok hf).2
  obtain ⟨hx, hb, hml, hown, hts, hin, hK, h0, hX⟩ := id hC
  unfold m_okb at hok
  simp only [Bool.and_eq_true] at hok
  obtain ⟨hok1, hok2⟩ := hok
  dsimp only at hok1 hok2 hl hlen hP hS hk hb1 hb2
  have hdec := of_decide_eq_true hok1
  dsimp only [m_len] at hdec
  simp only [m_exec] at he
  unfold m_stF at he
  split at he
  next =>
    cases hi : Nat.blt ((i : Nat)) L.length with
    | false => rw [hi] at he; cases he
    | true =>
      rw [hi] at he
      cases he
      have hi := Nat.le_of_ble_eq_true hi
      refine lv_fstore_n hx hb hdec rfl hl (by rw [← hlen]; exact hi) rfl (fun ls2 hl2 => ?_)
      exact K p l e s m args below meth c N0 aI D Qf hC hF H locs ls2 k n (m_has_st rfl hl2) (by rw [m_st_len]; exact hlen) hP hS hk hb1 hb2
  next => cases he
set_option maxHeartbeats 4000000 in
set_option maxRecDepth 100000 in
theorem m_x_lstore {X : Nat × Nat × (Nat → Int32)} {mi pc x y : Nat} {i : Nat} {z : Int} {L : List (Option mPV)} {S : List mPV} {w : mPW} {bc bs : Nat} {ps' : mPS} {Q : Option mPV → mPW → Prop} (hf : m_fetch mi pc = some (pc, (.lstore i), x, y, z)) (he : m_exec mi (.lstore i) x y z pc L S w bc bs = some ps') (K : m_Sem X mi ps' Q) : m_Sem X mi (pc, L, S, w, bc, bs) Q := by
  intro p l e s m args below meth c N0 aI D Qf hC hF H locs ls k n hl hlen hP hS hk hb1 hb2
  have hok := (m_fetch_ok hf).2
  obtain ⟨hx, hb, hml, hown, hts, hin, hK, h0, hX⟩ := id hC
  unfold m_okb at hok
  simp only [Bool.and_eq_true] at hok
  obtain ⟨hok1, hok2⟩ := hok
  dsimp only at hok1 hok2 hl hlen hP hS hk hb1 hb2
  have hdec := of_decide_eq_true hok1
  dsimp only [m_len] at hdec
  simp only [m_exec] at he
  unfold m_stL at he
  split at he
  next =>
    cases hi : Nat.blt (i + 1) L.length with
    | false => rw [hi] at he; cases he
    | true =>
      rw [hi] at he
      cases he
      have hi := Nat.le_of_ble_eq_true hi
      refine lv_lstore hx hb hdec  hl (by rw [← hlen]; exact hi) rfl (fun ls2 hl2 => ?_)
      exact K p l e s m args below meth c N0 aI D Qf hC hF H locs ls2 k n (m_has_st2 rfl hi hl2) (by rw [m_st2_len]; exact hlen) hP hS hk hb1 hb2
  next => cases he
set_option maxHeartbeats 4000000 in
set_option maxRecDepth 100000 in
theorem m_x_lstore_n {X : Nat × Nat × (Nat → Int32)} {mi pc x y : Nat} {i : Fin 4} {z : Int} {L : List (Option mPV)} {S : List mPV} {w : mPW} {bc bs : Nat} {ps' : mPS} {Q : Option mPV → mPW → Prop} (hf : m_fetch mi pc = some (pc, (.lstore_n i), x, y, z)) (he : m_exec mi (.lstore_n i) x y z pc L S w bc bs = some ps') (K : m_Sem X mi ps' Q) : m_Sem X mi (pc, L, S, w, bc, bs) Q := by
  intro p l e s m args below meth c N0 aI D Qf hC hF H locs ls k n hl hlen hP hS hk hb1 hb2
  have hok := (m_fetch_ok hf).2
  obtain ⟨hx, hb, hml, hown, hts, hin, hK, h0, hX⟩ := id hC
  unfold m_okb at hok
  simp only [Bool.and_eq_true] at hok
  obtain ⟨hok1, hok2⟩ := hok
  dsimp only at hok1 hok2 hl hlen hP hS hk hb1 hb2
  have hdec := of_decide_eq_true hok1
  dsimp only [m_len] at hdec
  simp only [m_exec] at he
  unfold m_stL at he
  split at he
  next =>
    cases hi : Nat.blt ((i : Nat) + 1) L.length with
    | false => rw [hi] at he; cases he
    | true =>
      rw [hi] at he
      cases he
      have hi := Nat.le_of_ble_eq_true hi
      refine lv_lstore_n hx hb hdec rfl hl (by rw [← hlen]; exact hi) rfl (fun ls2 hl2 => ?_)
      exact K p l e s m args below meth c N0 aI D Qf hC hF H locs ls2 k n (m_has_st2 rfl hi hl2) (by rw [m_st2_len]; exact hlen) hP hS hk hb1 hb2
  next => cases he
set_option maxHeartbeats 4000000 in
set_option maxRecDepth 100000 in
theorem m_x_iconst {X : Nat × Nat × (Nat → Int32)} {mi pc x y : Nat} {v : Int} {z : Int} {L : List (Option mPV)} {S : List mPV} {w : mPW} {bc bs : Nat} {ps' : mPS} {Q : Option mPV → mPW → Prop} (hf : m_fetch mi pc = some (pc, (.iconst v), x, y, z)) (he : m_exec mi (.iconst v) x y z pc L S w bc bs = some ps') (K : m_Sem X mi ps' Q) : m_Sem X mi (pc, L, S, w, bc, bs) Q := by
  intro p l e s m args below meth c N0 aI D Qf hC hF H locs ls k n hl hlen hP hS hk hb1 hb2
  have hok := (m_fetch_ok hf).2
  obtain ⟨hx, hb, hml, hown, hts, hin, hK, h0, hX⟩ := id hC
  unfold m_okb at hok
  simp only [Bool.and_eq_true] at hok
  obtain ⟨hok1, hok2⟩ := hok
  dsimp only at hok1 hok2 hl hlen hP hS hk hb1 hb2
  have hdec := of_decide_eq_true hok1
  dsimp only [m_len] at hdec
  cases he
  refine lv_iconst hx hb hdec rfl ?_
  exact K p l e s m args below meth c N0 aI D Qf hC hF H locs ls k n hl hlen hP hS hk hb1 hb2
set_option maxHeartbeats 4000000 in
set_option maxRecDepth 100000 in
theorem m_x_bipush {X : Nat × Nat × (Nat → Int32)} {mi pc x y : Nat} {v : Int} {z : Int} {L : List (Option mPV)} {S : List mPV} {w : mPW} {bc bs : Nat} {ps' : mPS} {Q : Option mPV → mPW → Prop} (hf : m_fetch mi pc = some (pc, (.bipush v), x, y, z)) (he : m_exec mi (.bipush v) x y z pc L S w bc bs = some ps') (K : m_Sem X mi ps' Q) : m_Sem X mi (pc, L, S, w, bc, bs) Q := by
  intro p l e s m args below meth c N0 aI D Qf hC hF H locs ls k n hl hlen hP hS hk hb1 hb2
  have hok := (m_fetch_ok hf).2
  obtain ⟨hx, hb, hml, hown, hts, hin, hK, h0, hX⟩ := id hC
  unfold m_okb at hok
  simp only [Bool.and_eq_true] at hok
  obtain ⟨hok1, hok2⟩ := hok
  dsimp only at hok1 hok2 hl hlen hP hS hk hb1 hb2
  have hdec := of_decide_eq_true hok1
  dsimp only [m_len] at hdec
  cases he
  refine lv_bipush hx hb hdec (of_decide_eq_true hok2) ?_
  exact K p l e s m args below meth c N0 aI D Qf hC hF H locs ls k n hl hlen hP hS hk hb1 hb2
set_option maxHeartbeats 4000000 in
set_option maxRecDepth 100000 in
theorem m_x_sipush {X : Nat × Nat × (Nat → Int32)} {mi pc x y : Nat} {v : Int} {z : Int} {L : List (Option mPV)} {S : List mPV} {w : mPW} {bc bs : Nat} {ps' : mPS} {Q : Option mPV → mPW → Prop} (hf : m_fetch mi pc = some (pc, (.sipush v), x, y, z)) (he : m_exec mi (.sipush v) x y z pc L S w bc bs = some ps') (K : m_Sem X mi ps' Q) : m_Sem X mi (pc, L, S, w, bc, bs) Q := by
  intro p l e s m args below meth c N0 aI D Qf hC hF H locs ls k n hl hlen hP hS hk hb1 hb2
  have hok := (m_fetch_ok hf).2
  obtain ⟨hx, hb, hml, hown, hts, hin, hK, h0, hX⟩ := id hC
  unfold m_okb at hok
  simp only [Bool.and_eq_true] at hok
  obtain ⟨hok1, hok2⟩ := hok
  dsimp only at hok1 hok2 hl hlen hP hS hk hb1 hb2
  have hdec := of_decide_eq_true hok1
  dsimp only [m_len] at hdec
  cases he
  refine lv_sipush hx hb hdec (of_decide_eq_true hok2) ?_
  exact K p l e s m args below meth c N0 aI D Qf hC hF H locs ls k n hl hlen hP hS hk hb1 hb2
set_option maxHeartbeats 4000000 in
set_option maxRecDepth 100000 in
theorem m_x_ldc {X : Nat × Nat × (Nat → Int32)} {mi pc x y : Nat} {i : Nat} {z : Int} {L : List (Option mPV)} {S : List mPV} {w : mPW} {bc bs : Nat} {ps' : mPS} {Q : Option mPV → mPW → Prop} (hf : m_fetch mi pc = some (pc, (.ldc i), x, y, z)) (he : m_exec mi (.ldc i) x y z pc L S w bc bs = some ps') (K : m_Sem X mi ps' Q) : m_Sem X mi (pc, L, S, w, bc, bs) Q := by
  intro p l e s m args below meth c N0 aI D Qf hC hF H locs ls k n hl hlen hP hS hk hb1 hb2
  have hok := (m_fetch_ok hf).2
  obtain ⟨hx, hb, hml, hown, hts, hin, hK, h0, hX⟩ := id hC
  unfold m_okb at hok
  simp only [Bool.and_eq_true] at hok
  obtain ⟨hok1, hok2⟩ := hok
  dsimp only at hok1 hok2 hl hlen hP hS hk hb1 hb2
  have hdec := of_decide_eq_true hok1
  dsimp only [m_len] at hdec
  have hw := m_csts_w _ (of_decide_eq_true hok2)
  simp only [m_exec] at he
  cases hy : Nat.beq y 0 with
  | true =>
    rw [hy] at he
    cases he
    refine lv_ldc hx hb hown (hts _ (hw.1 (Nat.eq_of_beq_eq_true hy))) hdec ?_
    exact K p l e s m args below meth c N0 aI D Qf hC hF H locs ls k n hl hlen hP hS hk hb1 hb2
  | false =>
    rw [hy] at he
    cases he
    refine lv_ldcf hx hb hown (hts _ (hw.2 (Nat.ne_of_beq_eq_false hy))) hdec ?_
    exact K p l e s m args below meth c N0 aI D Qf hC hF H locs ls k n hl hlen hP hS hk hb1 hb2
set_option maxHeartbeats 4000000 in
set_option maxRecDepth 100000 in
theorem m_x_ldc_w {X : Nat × Nat × (Nat → Int32)} {mi pc x y : Nat} {i : Nat} {z : Int} {L : List (Option mPV)} {S : List mPV} {w : mPW} {bc bs : Nat} {ps' : mPS} {Q : Option mPV → mPW → Prop} (hf : m_fetch mi pc = some (pc, (.ldc_w i), x, y, z)) (he : m_exec mi (.ldc_w i) x y z pc L S w bc bs = some ps') (K : m_Sem X mi ps' Q) : m_Sem X mi (pc, L, S, w, bc, bs) Q := by
  intro p l e s m args below meth c N0 aI D Qf hC hF H locs ls k n hl hlen hP hS hk hb1 hb2
  have hok := (m_fetch_ok hf).2
  obtain ⟨hx, hb, hml, hown, hts, hin, hK, h0, hX⟩ := id hC
  unfold m_okb at hok
  simp only [Bool.and_eq_true] at hok
  obtain ⟨hok1, hok2⟩ := hok
  dsimp only at hok1 hok2 hl hlen hP hS hk hb1 hb2
  have hdec := of_decide_eq_true hok1
  dsimp only [m_len] at hdec
  have hw := m_csts_w _ (of_decide_eq_true hok2)
  simp only [m_exec] at he
  cases hy : Nat.beq y 0 with
  | true =>
    rw [hy] at he
    cases he
    refine lv_ldcw hx hb hown (hts _ (hw.1 (Nat.eq_of_beq_eq_true hy))) hdec ?_
    exact K p l e s m args below meth c N0 aI D Qf hC hF H locs ls k n hl hlen hP hS hk hb1 hb2
  | false =>
    rw [hy] at he
    cases he
set_option maxHeartbeats 4000000 in
set_option maxRecDepth 100000 in
theorem m_x_ldc2_w {X : Nat × Nat × (Nat → Int32)} {mi pc x y : Nat} {i : Nat} {z : Int} {L : List (Option mPV)} {S : List mPV} {w : mPW} {bc bs : Nat} {ps' : mPS} {Q : Option mPV → mPW → Prop} (hf : m_fetch mi pc = some (pc, (.ldc2_w i), x, y, z)) (he : m_exec mi (.ldc2_w i) x y z pc L S w bc bs = some ps') (K : m_Sem X mi ps' Q) : m_Sem X mi (pc, L, S, w, bc, bs) Q := by
  intro p l e s m args below meth c N0 aI D Qf hC hF H locs ls k n hl hlen hP hS hk hb1 hb2
  have hok := (m_fetch_ok hf).2
  obtain ⟨hx, hb, hml, hown, hts, hin, hK, h0, hX⟩ := id hC
  unfold m_okb at hok
  simp only [Bool.and_eq_true] at hok
  obtain ⟨hok1, hok2⟩ := hok
  dsimp only at hok1 hok2 hl hlen hP hS hk hb1 hb2
  have hdec := of_decide_eq_true hok1
  dsimp only [m_len] at hdec
  have hw := m_cstl_w _ (of_decide_eq_true hok2)
  cases he
  refine lv_ldc2 hx hb hown (hts _ hw) hdec ?_
  exact K p l e s m args below meth c N0 aI D Qf hC hF H locs ls k n hl hlen hP hS hk hb1 hb2
set_option maxHeartbeats 4000000 in
set_option maxRecDepth 100000 in
theorem m_x_lconst {X : Nat × Nat × (Nat → Int32)} {mi pc x y : Nat} {v : Fin 2} {z : Int} {L : List (Option mPV)} {S : List mPV} {w : mPW} {bc bs : Nat} {ps' : mPS} {Q : Option mPV → mPW → Prop} (hf : m_fetch mi pc = some (pc, (.lconst v), x, y, z)) (he : m_exec mi (.lconst v) x y z pc L S w bc bs = some ps') (K : m_Sem X mi ps' Q) : m_Sem X mi (pc, L, S, w, bc, bs) Q := by
  intro p l e s m args below meth c N0 aI D Qf hC hF H locs ls k n hl hlen hP hS hk hb1 hb2
  have hok := (m_fetch_ok hf).2
  obtain ⟨hx, hb, hml, hown, hts, hin, hK, h0, hX⟩ := id hC
  unfold m_okb at hok
  simp only [Bool.and_eq_true] at hok
  obtain ⟨hok1, hok2⟩ := hok
  dsimp only at hok1 hok2 hl hlen hP hS hk hb1 hb2
  have hdec := of_decide_eq_true hok1
  dsimp only [m_len] at hdec
  cases he
  refine lv_lconst hx hb hdec rfl ?_
  exact K p l e s m args below meth c N0 aI D Qf hC hF H locs ls k n hl hlen hP hS hk hb1 hb2
set_option maxHeartbeats 4000000 in
set_option maxRecDepth 100000 in
theorem m_x_fconst {X : Nat × Nat × (Nat → Int32)} {mi pc x y : Nat} {v : Fin 3} {z : Int} {L : List (Option mPV)} {S : List mPV} {w : mPW} {bc bs : Nat} {ps' : mPS} {Q : Option mPV → mPW → Prop} (hf : m_fetch mi pc = some (pc, (.fconst v), x, y, z)) (he : m_exec mi (.fconst v) x y z pc L S w bc bs = some ps') (K : m_Sem X mi ps' Q) : m_Sem X mi (pc, L, S, w, bc, bs) Q := by
  intro p l e s m args below meth c N0 aI D Qf hC hF H locs ls k n hl hlen hP hS hk hb1 hb2
  have hok := (m_fetch_ok hf).2
  obtain ⟨hx, hb, hml, hown, hts, hin, hK, h0, hX⟩ := id hC
  unfold m_okb at hok
  simp only [Bool.and_eq_true] at hok
  obtain ⟨hok1, hok2⟩ := hok
  dsimp only at hok1 hok2 hl hlen hP hS hk hb1 hb2
  have hdec := of_decide_eq_true hok1
  dsimp only [m_len] at hdec
  simp only [m_exec] at he
  split at he
  · cases he
    refine lv_fconst0 hx hb hdec ?_
    exact K p l e s m args below meth c N0 aI D Qf hC hF H locs ls k n hl hlen hP hS hk hb1 hb2
  · cases he
    refine lv_fconst1 hx hb hdec ?_
    exact K p l e s m args below meth c N0 aI D Qf hC hF H locs ls k n hl hlen hP hS hk hb1 hb2
  · cases he
    refine lv_fconst2 hx hb hdec ?_
    exact K p l e s m args below meth c N0 aI D Qf hC hF H locs ls k n hl hlen hP hS hk hb1 hb2
set_option maxHeartbeats 4000000 in
set_option maxRecDepth 100000 in
theorem m_x_iadd {X : Nat × Nat × (Nat → Int32)} {mi pc x y : Nat}  {z : Int} {L : List (Option mPV)} {S : List mPV} {w : mPW} {bc bs : Nat} {ps' : mPS} {Q : Option mPV → mPW → Prop} (hf : m_fetch mi pc = some (pc, .iadd, x, y, z)) (he : m_exec mi .iadd x y z pc L S w bc bs = some ps') (K : m_Sem X mi ps' Q) : m_Sem X mi (pc, L, S, w, bc, bs) Q := by
  intro p l e s m args below meth c N0 aI D Qf hC hF H locs ls k n hl hlen hP hS hk hb1 hb2
  have hok := (m_fetch_ok hf).2
  obtain ⟨hx, hb, hml, hown, hts, hin, hK, h0, hX⟩ := id hC
  unfold m_okb at hok
  simp only [Bool.and_eq_true] at hok
  obtain ⟨hok1, hok2⟩ := hok
  dsimp only at hok1 hok2 hl hlen hP hS hk hb1 hb2
  have hdec := of_decide_eq_true hok1
  dsimp only [m_len] at hdec
  simp only [m_exec] at he
  unfold m_bin at he
  split at he
  next b a S' =>
    cases he
    refine lv_iadd hx hb hdec ?_
    have hv : (Int32.ofInt a + Int32.ofInt b) = Int32.ofInt (a + b) := (m_of_add a b).symm
    rw [hv]
    exact K p l e s m args below meth c N0 aI D Qf hC hF H locs ls k n hl hlen hP hS hk hb1 hb2
  next => cases he
set_option maxHeartbeats 4000000 in
set_option maxRecDepth 100000 in
theorem m_x_isub {X : Nat × Nat × (Nat → Int32)} {mi pc x y : Nat}  {z : Int} {L : List (Option mPV)} {S : List mPV} {w : mPW} {bc bs : Nat} {ps' : mPS} {Q : Option mPV → mPW → Prop} (hf : m_fetch mi pc = some (pc, .isub, x, y, z)) (he : m_exec mi .isub x y z pc L S w bc bs = some ps') (K : m_Sem X mi ps' Q) : m_Sem X mi (pc, L, S, w, bc, bs) Q := by
  intro p l e s m args below meth c N0 aI D Qf hC hF H locs ls k n hl hlen hP hS hk hb1 hb2
  have hok := (m_fetch_ok hf).2
  obtain ⟨hx, hb, hml, hown, hts, hin, hK, h0, hX⟩ := id hC
  unfold m_okb at hok
  simp only [Bool.and_eq_true] at hok
  obtain ⟨hok1, hok2⟩ := hok
  dsimp only at hok1 hok2 hl hlen hP hS hk hb1 hb2
  have hdec := of_decide_eq_true hok1
  dsimp only [m_len] at hdec
  simp only [m_exec] at he
  unfold m_bin at he
  split at he
  next b a S' =>
    cases he
    refine lv_isub hx hb hdec ?_
    have hv : (Int32.ofInt a - Int32.ofInt b) = Int32.ofInt (a - b) := (m_of_sub a b).symm
    rw [hv]
    exact K p l e s m args below meth c N0 aI D Qf hC hF H locs ls k n hl hlen hP hS hk hb1 hb2
  next => cases he
set_option maxHeartbeats 4000000 in
set_option maxRecDepth 100000 in
theorem m_x_imul {X : Nat × Nat × (Nat → Int32)} {mi pc x y : Nat}  {z : Int} {L : List (Option mPV)} {S : List mPV} {w : mPW} {bc bs : Nat} {ps' : mPS} {Q : Option mPV → mPW → Prop} (hf : m_fetch mi pc = some (pc, .imul, x, y, z)) (he : m_exec mi .imul x y z pc L S w bc bs = some ps') (K : m_Sem X mi ps' Q) : m_Sem X mi (pc, L, S, w, bc, bs) Q := by
  intro p l e s m args below meth c N0 aI D Qf hC hF H locs ls k n hl hlen hP hS hk hb1 hb2
  have hok := (m_fetch_ok hf).2
  obtain ⟨hx, hb, hml, hown, hts, hin, hK, h0, hX⟩ := id hC
  unfold m_okb at hok
  simp only [Bool.and_eq_true] at hok
  obtain ⟨hok1, hok2⟩ := hok
  dsimp only at hok1 hok2 hl hlen hP hS hk hb1 hb2
  have hdec := of_decide_eq_true hok1
  dsimp only [m_len] at hdec
  simp only [m_exec] at he
  unfold m_bin at he
  split at he
  next b a S' =>
    cases he
    refine lv_imul hx hb hdec ?_
    have hv : (Int32.ofInt a * Int32.ofInt b) = Int32.ofInt (a * b) := (m_of_mul a b).symm
    rw [hv]
    exact K p l e s m args below meth c N0 aI D Qf hC hF H locs ls k n hl hlen hP hS hk hb1 hb2
  next => cases he
set_option maxHeartbeats 4000000 in
set_option maxRecDepth 100000 in
theorem m_x_iand {X : Nat × Nat × (Nat → Int32)} {mi pc x y : Nat}  {z : Int} {L : List (Option mPV)} {S : List mPV} {w : mPW} {bc bs : Nat} {ps' : mPS} {Q : Option mPV → mPW → Prop} (hf : m_fetch mi pc = some (pc, .iand, x, y, z)) (he : m_exec mi .iand x y z pc L S w bc bs = some ps') (K : m_Sem X mi ps' Q) : m_Sem X mi (pc, L, S, w, bc, bs) Q := by
  intro p l e s m args below meth c N0 aI D Qf hC hF H locs ls k n hl hlen hP hS hk hb1 hb2
  have hok := (m_fetch_ok hf).2
  obtain ⟨hx, hb, hml, hown, hts, hin, hK, h0, hX⟩ := id hC
  unfold m_okb at hok
  simp only [Bool.and_eq_true] at hok
  obtain ⟨hok1, hok2⟩ := hok
  dsimp only at hok1 hok2 hl hlen hP hS hk hb1 hb2
  have hdec := of_decide_eq_true hok1
  dsimp only [m_len] at hdec
  simp only [m_exec] at he
  unfold m_bin at he
  split at he
  next b a S' =>
    cases he
    refine lv_iand hx hb hdec  ?_
    have hv : (Int32.ofInt a &&& Int32.ofInt b) = Int32.ofInt ((Int32.ofInt a &&& Int32.ofInt b)).toInt := (Int32.ofInt_toInt _).symm
    rw [hv]
    exact K p l e s m args below meth c N0 aI D Qf hC hF H locs ls k n hl hlen hP hS hk hb1 hb2
  next => cases he
set_option maxHeartbeats 4000000 in
set_option maxRecDepth 100000 in
theorem m_x_ior {X : Nat × Nat × (Nat → Int32)} {mi pc x y : Nat}  {z : Int} {L : List (Option mPV)} {S : List mPV} {w : mPW} {bc bs : Nat} {ps' : mPS} {Q : Option mPV → mPW → Prop} (hf : m_fetch mi pc = some (pc, .ior, x, y, z)) (he : m_exec mi .ior x y z pc L S w bc bs = some ps') (K : m_Sem X mi ps' Q) : m_Sem X mi (pc, L, S, w, bc, bs) Q := by
  intro p l e s m args below meth c N0 aI D Qf hC hF H locs ls k n hl hlen hP hS hk hb1 hb2
  have hok := (m_fetch_ok hf).2
  obtain ⟨hx, hb, hml, hown, hts, hin, hK, h0, hX⟩ := id hC
  unfold m_okb at hok
  simp only [Bool.and_eq_true] at hok
  obtain ⟨hok1, hok2⟩ := hok
  dsimp only at hok1 hok2 hl hlen hP hS hk hb1 hb2
  have hdec := of_decide_eq_true hok1
  dsimp only [m_len] at hdec
  simp only [m_exec] at he
  unfold m_bin at he
  split at he
  next b a S' =>
    cases he
    refine lv_ior hx hb hdec  ?_
    have hv : (Int32.ofInt a ||| Int32.ofInt b) = Int32.ofInt ((Int32.ofInt a ||| Int32.ofInt b)).toInt := (Int32.ofInt_toInt _).symm
    rw [hv]
    exact K p l e s m args below meth c N0 aI D Qf hC hF H locs ls k n hl hlen hP hS hk hb1 hb2
  next => cases he
set_option maxHeartbeats 4000000 in
set_option maxRecDepth 100000 in
theorem m_x_ixor {X : Nat × Nat × (Nat → Int32)} {mi pc x y : Nat}  {z : Int} {L : List (Option mPV)} {S : List mPV} {w : mPW} {bc bs : Nat} {ps' : mPS} {Q : Option mPV → mPW → Prop} (hf : m_fetch mi pc = some (pc, .ixor, x, y, z)) (he : m_exec mi .ixor x y z pc L S w bc bs = some ps') (K : m_Sem X mi ps' Q) : m_Sem X mi (pc, L, S, w, bc, bs) Q := by
  intro p l e s m args below meth c N0 aI D Qf hC hF H locs ls k n hl hlen hP hS hk hb1 hb2
  have hok := (m_fetch_ok hf).2
  obtain ⟨hx, hb, hml, hown, hts, hin, hK, h0, hX⟩ := id hC
  unfold m_okb at hok
  simp only [Bool.and_eq_true] at hok
  obtain ⟨hok1, hok2⟩ := hok
  dsimp only at hok1 hok2 hl hlen hP hS hk hb1 hb2
  have hdec := of_decide_eq_true hok1
  dsimp only [m_len] at hdec
  simp only [m_exec] at he
  unfold m_bin at he
  split at he
  next b a S' =>
    cases he
    refine lv_ixor hx hb hdec  ?_
    have hv : (Int32.ofInt a ^^^ Int32.ofInt b) = Int32.ofInt ((Int32.ofInt a ^^^ Int32.ofInt b)).toInt := (Int32.ofInt_toInt _).symm
    rw [hv]
    exact K p l e s m args below meth c N0 aI D Qf hC hF H locs ls k n hl hlen hP hS hk hb1 hb2
  next => cases he
set_option maxHeartbeats 4000000 in
set_option maxRecDepth 100000 in
theorem m_x_ishl {X : Nat × Nat × (Nat → Int32)} {mi pc x y : Nat}  {z : Int} {L : List (Option mPV)} {S : List mPV} {w : mPW} {bc bs : Nat} {ps' : mPS} {Q : Option mPV → mPW → Prop} (hf : m_fetch mi pc = some (pc, .ishl, x, y, z)) (he : m_exec mi .ishl x y z pc L S w bc bs = some ps') (K : m_Sem X mi ps' Q) : m_Sem X mi (pc, L, S, w, bc, bs) Q := by
  intro p l e s m args below meth c N0 aI D Qf hC hF H locs ls k n hl hlen hP hS hk hb1 hb2
  have hok := (m_fetch_ok hf).2
  obtain ⟨hx, hb, hml, hown, hts, hin, hK, h0, hX⟩ := id hC
  unfold m_okb at hok
  simp only [Bool.and_eq_true] at hok
  obtain ⟨hok1, hok2⟩ := hok
  dsimp only at hok1 hok2 hl hlen hP hS hk hb1 hb2
  have hdec := of_decide_eq_true hok1
  dsimp only [m_len] at hdec
  simp only [m_exec] at he
  unfold m_bin at he
  split at he
  next b a S' =>
    cases he
    refine lv_ishl hx hb hdec  ?_
    have hv : (Int32.ofInt a <<< (Int32.ofInt b &&& 31)) = Int32.ofInt ((Int32.ofInt a <<< (Int32.ofInt b &&& 31))).toInt := (Int32.ofInt_toInt _).symm
    rw [hv]
    exact K p l e s m args below meth c N0 aI D Qf hC hF H locs ls k n hl hlen hP hS hk hb1 hb2
  next => cases he
set_option maxHeartbeats 4000000 in
set_option maxRecDepth 100000 in
theorem m_x_ishr {X : Nat × Nat × (Nat → Int32)} {mi pc x y : Nat}  {z : Int} {L : List (Option mPV)} {S : List mPV} {w : mPW} {bc bs : Nat} {ps' : mPS} {Q : Option mPV → mPW → Prop} (hf : m_fetch mi pc = some (pc, .ishr, x, y, z)) (he : m_exec mi .ishr x y z pc L S w bc bs = some ps') (K : m_Sem X mi ps' Q) : m_Sem X mi (pc, L, S, w, bc, bs) Q := by
  intro p l e s m args below meth c N0 aI D Qf hC hF H locs ls k n hl hlen hP hS hk hb1 hb2
  have hok := (m_fetch_ok hf).2
  obtain ⟨hx, hb, hml, hown, hts, hin, hK, h0, hX⟩ := id hC
  unfold m_okb at hok
  simp only [Bool.and_eq_true] at hok
  obtain ⟨hok1, hok2⟩ := hok
  dsimp only at hok1 hok2 hl hlen hP hS hk hb1 hb2
  have hdec := of_decide_eq_true hok1
  dsimp only [m_len] at hdec
  simp only [m_exec] at he
  unfold m_bin at he
  split at he
  next b a S' =>
    cases he
    refine lv_ishr hx hb hdec  ?_
    have hv : (Int32.ofInt a >>> (Int32.ofInt b &&& 31)) = Int32.ofInt ((Int32.ofInt a >>> (Int32.ofInt b &&& 31))).toInt := (Int32.ofInt_toInt _).symm
    rw [hv]
    exact K p l e s m args below meth c N0 aI D Qf hC hF H locs ls k n hl hlen hP hS hk hb1 hb2
  next => cases he
set_option maxHeartbeats 4000000 in
set_option maxRecDepth 100000 in
theorem m_x_iushr {X : Nat × Nat × (Nat → Int32)} {mi pc x y : Nat}  {z : Int} {L : List (Option mPV)} {S : List mPV} {w : mPW} {bc bs : Nat} {ps' : mPS} {Q : Option mPV → mPW → Prop} (hf : m_fetch mi pc = some (pc, .iushr, x, y, z)) (he : m_exec mi .iushr x y z pc L S w bc bs = some ps') (K : m_Sem X mi ps' Q) : m_Sem X mi (pc, L, S, w, bc, bs) Q := by
  intro p l e s m args below meth c N0 aI D Qf hC hF H locs ls k n hl hlen hP hS hk hb1 hb2
  have hok := (m_fetch_ok hf).2
  obtain ⟨hx, hb, hml, hown, hts, hin, hK, h0, hX⟩ := id hC
  unfold m_okb at hok
  simp only [Bool.and_eq_true] at hok
  obtain ⟨hok1, hok2⟩ := hok
  dsimp only at hok1 hok2 hl hlen hP hS hk hb1 hb2
  have hdec := of_decide_eq_true hok1
  dsimp only [m_len] at hdec
  simp only [m_exec] at he
  unfold m_bin at he
  split at he
  next b a S' =>
    cases he
    refine lv_iushr hx hb hdec rfl ?_
    have hv : ((Int32.ofInt a).toUInt32 >>> ((Int32.ofInt b).toUInt32 &&& Int32.toUInt32 31)).toInt32 = Int32.ofInt (((Int32.ofInt a).toUInt32 >>> ((Int32.ofInt b).toUInt32 &&& Int32.toUInt32 31)).toInt32).toInt := (Int32.ofInt_toInt _).symm
    rw [hv]
    exact K p l e s m args below meth c N0 aI D Qf hC hF H locs ls k n hl hlen hP hS hk hb1 hb2
  next => cases he
set_option maxHeartbeats 4000000 in
set_option maxRecDepth 100000 in
theorem m_x_land {X : Nat × Nat × (Nat → Int32)} {mi pc x y : Nat}  {z : Int} {L : List (Option mPV)} {S : List mPV} {w : mPW} {bc bs : Nat} {ps' : mPS} {Q : Option mPV → mPW → Prop} (hf : m_fetch mi pc = some (pc, .land, x, y, z)) (he : m_exec mi .land x y z pc L S w bc bs = some ps') (K : m_Sem X mi ps' Q) : m_Sem X mi (pc, L, S, w, bc, bs) Q := by
  intro p l e s m args below meth c N0 aI D Qf hC hF H locs ls k n hl hlen hP hS hk hb1 hb2
  have hok := (m_fetch_ok hf).2
  obtain ⟨hx, hb, hml, hown, hts, hin, hK, h0, hX⟩ := id hC
  unfold m_okb at hok
  simp only [Bool.and_eq_true] at hok
  obtain ⟨hok1, hok2⟩ := hok
  dsimp only at hok1 hok2 hl hlen hP hS hk hb1 hb2
  have hdec := of_decide_eq_true hok1
  dsimp only [m_len] at hdec
  simp only [m_exec] at he
  unfold m_binL at he
  split at he
  next b a S' =>
    cases he
    refine lv_land hx hb hdec ?_
    exact K p l e s m args below meth c N0 aI D Qf hC hF H locs ls k n hl hlen hP hS hk hb1 hb2
  next => cases he
set_option maxHeartbeats 4000000 in
set_option maxRecDepth 100000 in
theorem m_x_lor {X : Nat × Nat × (Nat → Int32)} {mi pc x y : Nat}  {z : Int} {L : List (Option mPV)} {S : List mPV} {w : mPW} {bc bs : Nat} {ps' : mPS} {Q : Option mPV → mPW → Prop} (hf : m_fetch mi pc = some (pc, .lor, x, y, z)) (he : m_exec mi .lor x y z pc L S w bc bs = some ps') (K : m_Sem X mi ps' Q) : m_Sem X mi (pc, L, S, w, bc, bs) Q := by
  intro p l e s m args below meth c N0 aI D Qf hC hF H locs ls k n hl hlen hP hS hk hb1 hb2
  have hok := (m_fetch_ok hf).2
  obtain ⟨hx, hb, hml, hown, hts, hin, hK, h0, hX⟩ := id hC
  unfold m_okb at hok
  simp only [Bool.and_eq_true] at hok
  obtain ⟨hok1, hok2⟩ := hok
  dsimp only at hok1 hok2 hl hlen hP hS hk hb1 hb2
  have hdec := of_decide_eq_true hok1
  dsimp only [m_len] at hdec
  simp only [m_exec] at he
  unfold m_binL at he
  split at he
  next b a S' =>
    cases he
    refine lv_lor hx hb hdec ?_
    exact K p l e s m args below meth c N0 aI D Qf hC hF H locs ls k n hl hlen hP hS hk hb1 hb2
  next => cases he
set_option maxHeartbeats 4000000 in
set_option maxRecDepth 100000 in
theorem m_x_lsub {X : Nat × Nat × (Nat → Int32)} {mi pc x y : Nat}  {z : Int} {L : List (Option mPV)} {S : List mPV} {w : mPW} {bc bs : Nat} {ps' : mPS} {Q : Option mPV → mPW → Prop} (hf : m_fetch mi pc = some (pc, .lsub, x, y, z)) (he : m_exec mi .lsub x y z pc L S w bc bs = some ps') (K : m_Sem X mi ps' Q) : m_Sem X mi (pc, L, S, w, bc, bs) Q := by
  intro p l e s m args below meth c N0 aI D Qf hC hF H locs ls k n hl hlen hP hS hk hb1 hb2
  have hok := (m_fetch_ok hf).2
  obtain ⟨hx, hb, hml, hown, hts, hin, hK, h0, hX⟩ := id hC
  unfold m_okb at hok
  simp only [Bool.and_eq_true] at hok
  obtain ⟨hok1, hok2⟩ := hok
  dsimp only at hok1 hok2 hl hlen hP hS hk hb1 hb2
  have hdec := of_decide_eq_true hok1
  dsimp only [m_len] at hdec
  simp only [m_exec] at he
  unfold m_binL at he
  split at he
  next b a S' =>
    cases he
    refine lv_lsub hx hb hdec ?_
    exact K p l e s m args below meth c N0 aI D Qf hC hF H locs ls k n hl hlen hP hS hk hb1 hb2
  next => cases he
set_option maxHeartbeats 4000000 in
set_option maxRecDepth 100000 in
theorem m_x_lxor {X : Nat × Nat × (Nat → Int32)} {mi pc x y : Nat}  {z : Int} {L : List (Option mPV)} {S : List mPV} {w : mPW} {bc bs : Nat} {ps' : mPS} {Q : Option mPV → mPW → Prop} (hf : m_fetch mi pc = some (pc, .lxor, x, y, z)) (he : m_exec mi .lxor x y z pc L S w bc bs = some ps') (K : m_Sem X mi ps' Q) : m_Sem X mi (pc, L, S, w, bc, bs) Q := by
  intro p l e s m args below meth c N0 aI D Qf hC hF H locs ls k n hl hlen hP hS hk hb1 hb2
  have hok := (m_fetch_ok hf).2
  obtain ⟨hx, hb, hml, hown, hts, hin, hK, h0, hX⟩ := id hC
  unfold m_okb at hok
  simp only [Bool.and_eq_true] at hok
  obtain ⟨hok1, hok2⟩ := hok
  dsimp only at hok1 hok2 hl hlen hP hS hk hb1 hb2
  have hdec := of_decide_eq_true hok1
  dsimp only [m_len] at hdec
  simp only [m_exec] at he
  unfold m_binL at he
  split at he
  next b a S' =>
    cases he
    refine lv_lxor hx hb hdec ?_
    exact K p l e s m args below meth c N0 aI D Qf hC hF H locs ls k n hl hlen hP hS hk hb1 hb2
  next => cases he
set_option maxHeartbeats 4000000 in
set_option maxRecDepth 100000 in
theorem m_x_lshl {X : Nat × Nat × (Nat → Int32)} {mi pc x y : Nat}  {z : Int} {L : List (Option mPV)} {S : List mPV} {w : mPW} {bc bs : Nat} {ps' : mPS} {Q : Option mPV → mPW → Prop} (hf : m_fetch mi pc = some (pc, .lshl, x, y, z)) (he : m_exec mi .lshl x y z pc L S w bc bs = some ps') (K : m_Sem X mi ps' Q) : m_Sem X mi (pc, L, S, w, bc, bs) Q := by
  intro p l e s m args below meth c N0 aI D Qf hC hF H locs ls k n hl hlen hP hS hk hb1 hb2
  have hok := (m_fetch_ok hf).2
  obtain ⟨hx, hb, hml, hown, hts, hin, hK, h0, hX⟩ := id hC
  unfold m_okb at hok
  simp only [Bool.and_eq_true] at hok
  obtain ⟨hok1, hok2⟩ := hok
  dsimp only at hok1 hok2 hl hlen hP hS hk hb1 hb2
  have hdec := of_decide_eq_true hok1
  dsimp only [m_len] at hdec
  simp only [m_exec] at he
  split at he
  next =>
    rename_i b a S'
    cases he
    refine lv_lshl hx hb hdec rfl ?_
    exact K p l e s m args below meth c N0 aI D Qf hC hF H locs ls k n hl hlen hP hS hk hb1 hb2
  next => cases he
set_option maxHeartbeats 4000000 in
set_option maxRecDepth 100000 in
theorem m_x_lshr {X : Nat × Nat × (Nat → Int32)} {mi pc x y : Nat}  {z : Int} {L : List (Option mPV)} {S : List mPV} {w : mPW} {bc bs : Nat} {ps' : mPS} {Q : Option mPV → mPW → Prop} (hf : m_fetch mi pc = some (pc, .lshr, x, y, z)) (he : m_exec mi .lshr x y z pc L S w bc bs = some ps') (K : m_Sem X mi ps' Q) : m_Sem X mi (pc, L, S, w, bc, bs) Q := by
  intro p l e s m args below meth c N0 aI D Qf hC hF H locs ls k n hl hlen hP hS hk hb1 hb2
  have hok := (m_fetch_ok hf).2
  obtain ⟨hx, hb, hml, hown, hts, hin, hK, h0, hX⟩ := id hC
  unfold m_okb at hok
  simp only [Bool.and_eq_true] at hok
  obtain ⟨hok1, hok2⟩ := hok
  dsimp only at hok1 hok2 hl hlen hP hS hk hb1 hb2
  have hdec := of_decide_eq_true hok1
  dsimp only [m_len] at hdec
  simp only [m_exec] at he
  split at he
  next =>
    rename_i b a S'
    cases he
    refine lv_lshr hx hb hdec rfl ?_
    exact K p l e s m args below meth c N0 aI D Qf hC hF H locs ls k n hl hlen hP hS hk hb1 hb2
  next => cases he
set_option maxHeartbeats 4000000 in
set_option maxRecDepth 100000 in
theorem m_x_lcmp {X : Nat × Nat × (Nat → Int32)} {mi pc x y : Nat}  {z : Int} {L : List (Option mPV)} {S : List mPV} {w : mPW} {bc bs : Nat} {ps' : mPS} {Q : Option mPV → mPW → Prop} (hf : m_fetch mi pc = some (pc, .lcmp, x, y, z)) (he : m_exec mi .lcmp x y z pc L S w bc bs = some ps') (K : m_Sem X mi ps' Q) : m_Sem X mi (pc, L, S, w, bc, bs) Q := by
  intro p l e s m args below meth c N0 aI D Qf hC hF H locs ls k n hl hlen hP hS hk hb1 hb2
  have hok := (m_fetch_ok hf).2
  obtain ⟨hx, hb, hml, hown, hts, hin, hK, h0, hX⟩ := id hC
  unfold m_okb at hok
  simp only [Bool.and_eq_true] at hok
  obtain ⟨hok1, hok2⟩ := hok
  dsimp only at hok1 hok2 hl hlen hP hS hk hb1 hb2
  have hdec := of_decide_eq_true hok1
  dsimp only [m_len] at hdec
  simp only [m_exec] at he
  split at he
  next =>
    rename_i b a S'
    cases he
    refine W.lcmp hx hb hdec  ?_
    have hv : (lg_cmp a b) = Int32.ofInt ((lg_cmp a b)).toInt := (Int32.ofInt_toInt _).symm
    rw [hv]
    exact K p l e s m args below meth c N0 aI D Qf hC hF H locs ls k n hl hlen hP hS hk hb1 hb2
  next => cases he
set_option maxHeartbeats 4000000 in
set_option maxRecDepth 100000 in
theorem m_x_l2i {X : Nat × Nat × (Nat → Int32)} {mi pc x y : Nat}  {z : Int} {L : List (Option mPV)} {S : List mPV} {w : mPW} {bc bs : Nat} {ps' : mPS} {Q : Option mPV → mPW → Prop} (hf : m_fetch mi pc = some (pc, .l2i, x, y, z)) (he : m_exec mi .l2i x y z pc L S w bc bs = some ps') (K : m_Sem X mi ps' Q) : m_Sem X mi (pc, L, S, w, bc, bs) Q := by
  intro p l e s m args below meth c N0 aI D Qf hC hF H locs ls k n hl hlen hP hS hk hb1 hb2
  have hok := (m_fetch_ok hf).2
  obtain ⟨hx, hb, hml, hown, hts, hin, hK, h0, hX⟩ := id hC
  unfold m_okb at hok
  simp only [Bool.and_eq_true] at hok
  obtain ⟨hok1, hok2⟩ := hok
  dsimp only at hok1 hok2 hl hlen hP hS hk hb1 hb2
  have hdec := of_decide_eq_true hok1
  dsimp only [m_len] at hdec
  simp only [m_exec] at he
  split at he
  next =>
    rename_i a S'
    cases he
    refine lv_l2i hx hb hdec rfl ?_
    have hv : a.toInt32 = Int32.ofInt (a.toInt32).toInt := (Int32.ofInt_toInt _).symm
    rw [hv]
    exact K p l e s m args below meth c N0 aI D Qf hC hF H locs ls k n hl hlen hP hS hk hb1 hb2
  next => cases he
set_option maxHeartbeats 4000000 in
set_option maxRecDepth 100000 in
theorem m_x_i2l {X : Nat × Nat × (Nat → Int32)} {mi pc x y : Nat}  {z : Int} {L : List (Option mPV)} {S : List mPV} {w : mPW} {bc bs : Nat} {ps' : mPS} {Q : Option mPV → mPW → Prop} (hf : m_fetch mi pc = some (pc, .i2l, x, y, z)) (he : m_exec mi .i2l x y z pc L S w bc bs = some ps') (K : m_Sem X mi ps' Q) : m_Sem X mi (pc, L, S, w, bc, bs) Q := by
  intro p l e s m args below meth c N0 aI D Qf hC hF H locs ls k n hl hlen hP hS hk hb1 hb2
  have hok := (m_fetch_ok hf).2
  obtain ⟨hx, hb, hml, hown, hts, hin, hK, h0, hX⟩ := id hC
  unfold m_okb at hok
  simp only [Bool.and_eq_true] at hok
  obtain ⟨hok1, hok2⟩ := hok
  dsimp only at hok1 hok2 hl hlen hP hS hk hb1 hb2
  have hdec := of_decide_eq_true hok1
  dsimp only [m_len] at hdec
  simp only [m_exec] at he
  split at he
  next =>
    rename_i a S'
    cases he
    refine lv_i2l hx hb hdec rfl ?_
    exact K p l e s m args below meth c N0 aI D Qf hC hF H locs ls k n hl hlen hP hS hk hb1 hb2
  next => cases he
set_option maxHeartbeats 4000000 in
set_option maxRecDepth 100000 in
theorem m_x_i2f {X : Nat × Nat × (Nat → Int32)} {mi pc x y : Nat}  {z : Int} {L : List (Option mPV)} {S : List mPV} {w : mPW} {bc bs : Nat} {ps' : mPS} {Q : Option mPV → mPW → Prop} (hf : m_fetch mi pc = some (pc, .i2f, x, y, z)) (he : m_exec mi .i2f x y z pc L S w bc bs = some ps') (K : m_Sem X mi ps' Q) : m_Sem X mi (pc, L, S, w, bc, bs) Q := by
  intro p l e s m args below meth c N0 aI D Qf hC hF H locs ls k n hl hlen hP hS hk hb1 hb2
  have hok := (m_fetch_ok hf).2
  obtain ⟨hx, hb, hml, hown, hts, hin, hK, h0, hX⟩ := id hC
  unfold m_okb at hok
  simp only [Bool.and_eq_true] at hok
  obtain ⟨hok1, hok2⟩ := hok
  dsimp only at hok1 hok2 hl hlen hP hS hk hb1 hb2
  have hdec := of_decide_eq_true hok1
  dsimp only [m_len] at hdec
  simp only [m_exec] at he
  split at he
  next =>
    rename_i a S'
    cases he
    refine lv_i2f hx hb hdec  ?_
    exact K p l e s m args below meth c N0 aI D Qf hC hF H locs ls k n hl hlen hP hS hk hb1 hb2
  next => cases he
set_option maxHeartbeats 4000000 in
set_option maxRecDepth 100000 in
theorem m_x_f2i {X : Nat × Nat × (Nat → Int32)} {mi pc x y : Nat}  {z : Int} {L : List (Option mPV)} {S : List mPV} {w : mPW} {bc bs : Nat} {ps' : mPS} {Q : Option mPV → mPW → Prop} (hf : m_fetch mi pc = some (pc, .f2i, x, y, z)) (he : m_exec mi .f2i x y z pc L S w bc bs = some ps') (K : m_Sem X mi ps' Q) : m_Sem X mi (pc, L, S, w, bc, bs) Q := by
  intro p l e s m args below meth c N0 aI D Qf hC hF H locs ls k n hl hlen hP hS hk hb1 hb2
  have hok := (m_fetch_ok hf).2
  obtain ⟨hx, hb, hml, hown, hts, hin, hK, h0, hX⟩ := id hC
  unfold m_okb at hok
  simp only [Bool.and_eq_true] at hok
  obtain ⟨hok1, hok2⟩ := hok
  dsimp only at hok1 hok2 hl hlen hP hS hk hb1 hb2
  have hdec := of_decide_eq_true hok1
  dsimp only [m_len] at hdec
  simp only [m_exec] at he
  split at he
  next =>
    rename_i a S'
    cases he
    refine lv_f2i hx hb hdec  ?_
    have hv : (FP.f2i a) = Int32.ofInt ((FP.f2i a)).toInt := (Int32.ofInt_toInt _).symm
    rw [hv]
    exact K p l e s m args below meth c N0 aI D Qf hC hF H locs ls k n hl hlen hP hS hk hb1 hb2
  next => cases he
set_option maxHeartbeats 4000000 in
set_option maxRecDepth 100000 in
theorem m_x_fcmp {X : Nat × Nat × (Nat → Int32)} {mi pc x y : Nat} {o : CmpOp} {z : Int} {L : List (Option mPV)} {S : List mPV} {w : mPW} {bc bs : Nat} {ps' : mPS} {Q : Option mPV → mPW → Prop} (hf : m_fetch mi pc = some (pc, (.fcmp o), x, y, z)) (he : m_exec mi (.fcmp o) x y z pc L S w bc bs = some ps') (K : m_Sem X mi ps' Q) : m_Sem X mi (pc, L, S, w, bc, bs) Q := by
  intro p l e s m args below meth c N0 aI D Qf hC hF H locs ls k n hl hlen hP hS hk hb1 hb2
  have hok := (m_fetch_ok hf).2
  obtain ⟨hx, hb, hml, hown, hts, hin, hK, h0, hX⟩ := id hC
  unfold m_okb at hok
  simp only [Bool.and_eq_true] at hok
  obtain ⟨hok1, hok2⟩ := hok
  dsimp only at hok1 hok2 hl hlen hP hS hk hb1 hb2
  have hdec := of_decide_eq_true hok1
  dsimp only [m_len] at hdec
  simp only [m_exec] at he
  split at he
  next =>
    rename_i b a S'
    cases he
    refine lv_fcmp hx hb hdec  ?_
    have hv : (Op.cmpValue (FP.fcmp a b) o) = Int32.ofInt ((Op.cmpValue (FP.fcmp a b) o)).toInt := (Int32.ofInt_toInt _).symm
    rw [hv]
    exact K p l e s m args below meth c N0 aI D Qf hC hF H locs ls k n hl hlen hP hS hk hb1 hb2
  next => cases he
set_option maxHeartbeats 4000000 in
set_option maxRecDepth 100000 in
theorem m_x_pop {X : Nat × Nat × (Nat → Int32)} {mi pc x y : Nat}  {z : Int} {L : List (Option mPV)} {S : List mPV} {w : mPW} {bc bs : Nat} {ps' : mPS} {Q : Option mPV → mPW → Prop} (hf : m_fetch mi pc = some (pc, .pop, x, y, z)) (he : m_exec mi .pop x y z pc L S w bc bs = some ps') (K : m_Sem X mi ps' Q) : m_Sem X mi (pc, L, S, w, bc, bs) Q := by
  intro p l e s m args below meth c N0 aI D Qf hC hF H locs ls k n hl hlen hP hS hk hb1 hb2
  have hok := (m_fetch_ok hf).2
  obtain ⟨hx, hb, hml, hown, hts, hin, hK, h0, hX⟩ := id hC
  unfold m_okb at hok
  simp only [Bool.and_eq_true] at hok
  obtain ⟨hok1, hok2⟩ := hok
  dsimp only at hok1 hok2 hl hlen hP hS hk hb1 hb2
  have hdec := of_decide_eq_true hok1
  dsimp only [m_len] at hdec
  simp only [m_exec] at he
  split at he
  next =>
    rename_i v S'
    cases hv : Nat.beq (m_cat v) 1 with
    | false => rw [hv] at he; cases he
    | true =>
      rw [hv] at he
      cases he
      refine lv_pop hx hb hdec (by rw [m_cat_cv]; exact Nat.eq_of_beq_eq_true hv) ?_
      exact K p l e s m args below meth c N0 aI D Qf hC hF H locs ls k n hl hlen hP hS hk hb1 hb2
  next => cases he
set_option maxHeartbeats 4000000 in
set_option maxRecDepth 100000 in
theorem m_x_dup {X : Nat × Nat × (Nat → Int32)} {mi pc x y : Nat}  {z : Int} {L : List (Option mPV)} {S : List mPV} {w : mPW} {bc bs : Nat} {ps' : mPS} {Q : Option mPV → mPW → Prop} (hf : m_fetch mi pc = some (pc, .dup, x, y, z)) (he : m_exec mi .dup x y z pc L S w bc bs = some ps') (K : m_Sem X mi ps' Q) : m_Sem X mi (pc, L, S, w, bc, bs) Q := by
  intro p l e s m args below meth c N0 aI D Qf hC hF H locs ls k n hl hlen hP hS hk hb1 hb2
  have hok := (m_fetch_ok hf).2
  obtain ⟨hx, hb, hml, hown, hts, hin, hK, h0, hX⟩ := id hC
  unfold m_okb at hok
  simp only [Bool.and_eq_true] at hok
  obtain ⟨hok1, hok2⟩ := hok
  dsimp only at hok1 hok2 hl hlen hP hS hk hb1 hb2
  have hdec := of_decide_eq_true hok1
  dsimp only [m_len] at hdec
  simp only [m_exec] at he
  split at he
  next =>
    rename_i v S'
    cases hv : Nat.beq (m_cat v) 1 with
    | false => rw [hv] at he; cases he
    | true =>
      rw [hv] at he
      cases he
      refine lv_dup hx hb hdec (by rw [m_cat_cv]; exact Nat.eq_of_beq_eq_true hv) ?_
      exact K p l e s m args below meth c N0 aI D Qf hC hF H locs ls k n hl hlen hP hS hk hb1 hb2
  next => cases he
set_option maxHeartbeats 4000000 in
set_option maxRecDepth 100000 in
theorem m_x_dup2 {X : Nat × Nat × (Nat → Int32)} {mi pc x y : Nat}  {z : Int} {L : List (Option mPV)} {S : List mPV} {w : mPW} {bc bs : Nat} {ps' : mPS} {Q : Option mPV → mPW → Prop} (hf : m_fetch mi pc = some (pc, .dup2, x, y, z)) (he : m_exec mi .dup2 x y z pc L S w bc bs = some ps') (K : m_Sem X mi ps' Q) : m_Sem X mi (pc, L, S, w, bc, bs) Q := by
  intro p l e s m args below meth c N0 aI D Qf hC hF H locs ls k n hl hlen hP hS hk hb1 hb2
  have hok := (m_fetch_ok hf).2
  obtain ⟨hx, hb, hml, hown, hts, hin, hK, h0, hX⟩ := id hC
  unfold m_okb at hok
  simp only [Bool.and_eq_true] at hok
  obtain ⟨hok1, hok2⟩ := hok
  dsimp only at hok1 hok2 hl hlen hP hS hk hb1 hb2
  have hdec := of_decide_eq_true hok1
  dsimp only [m_len] at hdec
  simp only [m_exec] at he
  split at he
  next =>
    rename_i u v S'
    cases hu : Nat.beq (m_cat u) 1 with
    | false => rw [hu] at he; cases he
    | true =>
      cases hv : Nat.beq (m_cat v) 1 with
      | false => rw [hu, hv] at he; cases he
      | true =>
        rw [hu, hv] at he
        cases he
        refine lv_dup2_11 hx hb hdec (by rw [m_cat_cv]; exact Nat.eq_of_beq_eq_true hu) (by rw [m_cat_cv]; exact Nat.eq_of_beq_eq_true hv) ?_
        exact K p l e s m args below meth c N0 aI D Qf hC hF H locs ls k n hl hlen hP hS hk hb1 hb2
  next => cases he
set_option maxHeartbeats 4000000 in
set_option maxRecDepth 100000 in
theorem m_x_goto {X : Nat × Nat × (Nat → Int32)} {mi pc x y : Nat} {o : Int} {z : Int} {L : List (Option mPV)} {S : List mPV} {w : mPW} {bc bs : Nat} {ps' : mPS} {Q : Option mPV → mPW → Prop} (hf : m_fetch mi pc = some (pc, (.goto o), x, y, z)) (he : m_exec mi (.goto o) x y z pc L S w bc bs = some ps') (K : m_Sem X mi ps' Q) : m_Sem X mi (pc, L, S, w, bc, bs) Q := by
  intro p l e s m args below meth c N0 aI D Qf hC hF H locs ls k n hl hlen hP hS hk hb1 hb2
  have hok := (m_fetch_ok hf).2
  obtain ⟨hx, hb, hml, hown, hts, hin, hK, h0, hX⟩ := id hC
  unfold m_okb at hok
  simp only [Bool.and_eq_true] at hok
  obtain ⟨hok1, hok2⟩ := hok
  dsimp only at hok1 hok2 hl hlen hP hS hk hb1 hb2
  have hdec := of_decide_eq_true hok1
  dsimp only [m_len] at hdec
  cases he
  refine lv_goto hx hb hdec (of_decide_eq_true hok2) ?_
  exact K p l e s m args below meth c N0 aI D Qf hC hF H locs ls k n hl hlen hP hS hk hb1 hb2
set_option maxHeartbeats 4000000 in
set_option maxRecDepth 100000 in
theorem m_x_iinc {X : Nat × Nat × (Nat → Int32)} {mi pc x y : Nat} {i : Nat} {d : Int} {z : Int} {L : List (Option mPV)} {S : List mPV} {w : mPW} {bc bs : Nat} {ps' : mPS} {Q : Option mPV → mPW → Prop} (hf : m_fetch mi pc = some (pc, (.iinc i d), x, y, z)) (he : m_exec mi (.iinc i d) x y z pc L S w bc bs = some ps') (K : m_Sem X mi ps' Q) : m_Sem X mi (pc, L, S, w, bc, bs) Q := by
  intro p l e s m args below meth c N0 aI D Qf hC hF H locs ls k n hl hlen hP hS hk hb1 hb2
  have hok := (m_fetch_ok hf).2
  obtain ⟨hx, hb, hml, hown, hts, hin, hK, h0, hX⟩ := id hC
  unfold m_okb at hok
  simp only [Bool.and_eq_true] at hok
  obtain ⟨hok1, hok2⟩ := hok
  dsimp only at hok1 hok2 hl hlen hP hS hk hb1 hb2
  have hdec := of_decide_eq_true hok1
  dsimp only [m_len] at hdec
  simp only [m_exec] at he
  split at he
  next v hv =>
    cases hi : Nat.blt i L.length with
    | false => rw [hi] at he; cases he
    | true =>
      rw [hi] at he
      cases he
      have hi := Nat.le_of_ble_eq_true hi
      have hm := m_as_get (N0 := N0) L 0 i _ hv
      rw [Nat.zero_add] at hm
      obtain ⟨j, hj⟩ := List.mem_iff_getElem?.mp hm
      refine lv_iinc hx hb hdec hl hj (m_of_add v d).symm (by rw [← hlen]; exact hi) rfl (fun ls2 hl2 => ?_)
      exact K p l e s m args below meth c N0 aI D Qf hC hF H locs ls2 k n (m_has_st rfl hl2) (by rw [m_st_len]; exact hlen) hP hS hk hb1 hb2
  next => cases he
set_option maxHeartbeats 4000000 in
set_option maxRecDepth 100000 in
theorem m_x_arraylength {X : Nat × Nat × (Nat → Int32)} {mi pc x y : Nat}  {z : Int} {L : List (Option mPV)} {S : List mPV} {w : mPW} {bc bs : Nat} {ps' : mPS} {Q : Option mPV → mPW → Prop} (hf : m_fetch mi pc = some (pc, .arraylength, x, y, z)) (he : m_exec mi .arraylength x y z pc L S w bc bs = some ps') (K : m_Sem X mi ps' Q) : m_Sem X mi (pc, L, S, w, bc, bs) Q := by
  intro p l e s m args below meth c N0 aI D Qf hC hF H locs ls k n hl hlen hP hS hk hb1 hb2
  have hok := (m_fetch_ok hf).2
  obtain ⟨hx, hb, hml, hown, hts, hin, hK, h0, hX⟩ := id hC
  unfold m_okb at hok
  simp only [Bool.and_eq_true] at hok
  obtain ⟨hok1, hok2⟩ := hok
  dsimp only at hok1 hok2 hl hlen hP hS hk hb1 hb2
  have hdec := of_decide_eq_true hok1
  dsimp only [m_len] at hdec
  simp only [m_exec] at he
  split at he
  next =>
    split at he
    next t v f hw =>
      cases ht : Nat.blt t 3 with
      | false => rw [ht] at he; cases he
      | true =>
        rw [ht] at he
        cases he
        have ht := Nat.le_of_ble_eq_true ht
        have hty : ∃ ty, (m_tys aI)[t]? = some (aI t, ty) := by
          rcases (show t = 0 ∨ t = 1 ∨ t = 2 by omega) with rfl | rfl | rfl
          · exact ⟨_, rfl⟩
          · exact ⟨_, rfl⟩
          · exact ⟨_, rfl⟩
        obtain ⟨ty, hty⟩ := hty
        have hv : Int32.ofInt (v : Int) = Int32.ofNat v := Int32.ofInt_eq_ofNat
        rcases f with f | f
        · refine va_alen hx hb hK hP _ t (m_cw_at hw) hty rfl hdec ?_
          show W p l e _ s m args below meth c H locs k n Qf (F0 m _ ls (.int (Int32.ofNat v) :: _))
          rw [← hv]
          exact K p l e s m args below meth c N0 aI D Qf hC hF H locs ls k n hl hlen hP hS hk hb1 hb2
        · refine va_alen hx hb hK hP _ t (m_cw_at hw) hty rfl hdec ?_
          show W p l e _ s m args below meth c H locs k n Qf (F0 m _ ls (.int (Int32.ofNat v) :: _))
          rw [← hv]
          exact K p l e s m args below meth c N0 aI D Qf hC hF H locs ls k n hl hlen hP hS hk hb1 hb2
    next => cases he
  next => cases he
set_option maxHeartbeats 4000000 in
set_option maxRecDepth 100000 in
theorem m_x_getfield {X : Nat × Nat × (Nat → Int32)} {mi pc x y : Nat} {i : Nat} {z : Int} {L : List (Option mPV)} {S : List mPV} {w : mPW} {bc bs : Nat} {ps' : mPS} {Q : Option mPV → mPW → Prop} (hf : m_fetch mi pc = some (pc, (.getfield i), x, y, z)) (he : m_exec mi (.getfield i) x y z pc L S w bc bs = some ps') (K : m_Sem X mi ps' Q) : m_Sem X mi (pc, L, S, w, bc, bs) Q := by
  intro p l e s m args below meth c N0 aI D Qf hC hF H locs ls k n hl hlen hP hS hk hb1 hb2
  have hok := (m_fetch_ok hf).2
  obtain ⟨hx, hb, hml, hown, hts, hin, hK, h0, hX⟩ := id hC
  unfold m_okb at hok
  simp only [Bool.and_eq_true] at hok
  obtain ⟨hok1, hok2⟩ := hok
  dsimp only at hok1 hok2 hl hlen hP hS hk hb1 hb2
  have hdec := of_decide_eq_true hok1
  dsimp only [m_len] at hdec
  obtain ⟨r, hr, hyN, hlink⟩ := m_flds_w _ (of_decide_eq_true hok2)
  simp only [m_exec] at he
  unfold m_getf at he
  split at he
  next q S' =>
    split at he
    next ci fs hw =>
      cases hci : Nat.beq ci x with
      | false => rw [hci] at he; cases he
      | true =>
        rw [hci] at he
        have hci := Nat.eq_of_beq_eq_true hci
        subst hci
        simp only [cond_true] at he
        split at he
        next v hv =>
          cases he
          refine va_get (C := r.1) (T := r.2.1) (N := r.2.2) hx hb hts (m_uw _ r hr) hown hK hP q (m_cw_at hw) hr y hyN (hts _ hlink) (fun _ h => h) (v := m_cv N0 v) (by rw [List.getElem?_map, hv]; rfl) hdec ?_
          exact K p l e s m args below meth c N0 aI D Qf hC hF H locs ls k n hl hlen hP hS hk hb1 hb2
        next => cases he
    next => cases he
  next => cases he
set_option maxHeartbeats 4000000 in
set_option maxRecDepth 100000 in
theorem m_x_putfield {X : Nat × Nat × (Nat → Int32)} {mi pc x y : Nat} {i : Nat} {z : Int} {L : List (Option mPV)} {S : List mPV} {w : mPW} {bc bs : Nat} {ps' : mPS} {Q : Option mPV → mPW → Prop} (hf : m_fetch mi pc = some (pc, (.putfield i), x, y, z)) (he : m_exec mi (.putfield i) x y z pc L S w bc bs = some ps') (K : m_Sem X mi ps' Q) : m_Sem X mi (pc, L, S, w, bc, bs) Q := by
  intro p l e s m args below meth c N0 aI D Qf hC hF H locs ls k n hl hlen hP hS hk hb1 hb2
  have hok := (m_fetch_ok hf).2
  obtain ⟨hx, hb, hml, hown, hts, hin, hK, h0, hX⟩ := id hC
  unfold m_okb at hok
  simp only [Bool.and_eq_true] at hok
  obtain ⟨hok1, hok2⟩ := hok
  dsimp only at hok1 hok2 hl hlen hP hS hk hb1 hb2
  have hdec := of_decide_eq_true hok1
  dsimp only [m_len] at hdec
  try simp only [Bool.and_eq_true] at hok2
  obtain ⟨hok2, hok3⟩ := hok2
  obtain ⟨r, hr, hyN, hlink⟩ := m_flds_w _ (of_decide_eq_true hok2)
  simp only [m_exec] at he
  have hr2 : vwCl[x]? = some r := hr
  rw [hr2] at hok3
  obtain ⟨ty0, hty, hnm, -⟩ := m_vt _ r hr
  by_cases hz : z = 0
  · rw [if_pos hz] at he
    simp only [hz, if_true] at hok3
    have hI : r.2.1 y = ((r.2.1 y).1, (r.2.1 y).2.1, "I", false) := of_decide_eq_true hok3
    unfold m_putI at he
    split at he
    next v q S' =>
      split at he
      next ci fs hw =>
        cases hci : Nat.beq ci x with
        | false => rw [hci] at he; cases he
        | true =>
          cases hyl : Nat.blt y fs.length with
          | false => rw [hci, hyl] at he; cases he
          | true =>
            rw [hci, hyl] at he
            have hci := Nat.eq_of_beq_eq_true hci
            subst hci
            have hyl := Nat.le_of_ble_eq_true hyl
            cases he
            refine va_put (C := r.1) (T := r.2.1) (N := r.2.2) (ty := .int) hx hb hts (m_uw _ r hr) ty0 hty hnm hown hK hP m_cw_D hS q (m_cw_at hw) hr y hyN (hts _ hlink) (fun _ h => h) (by rw [hI]) (by rw [hI]; show parseFieldDescriptor "I" = _; decide +kernel) rfl rfl (by rw [List.length_map]; exact hyl) hdec (fun H1 locs1 hP1 _ hS1 => ?_)
            have hP2 : va_P D vwCl (m_cw N0 aI 0 (w.set q (.inr (ci, fs.set y (.inl v))))) H1 := by
              rw [m_cw_set, Nat.zero_add]
              show va_P D vwCl ((m_cw N0 aI 0 w).set q (N0 + q, .inr (ci, (fs.set y (.inl v)).map (m_cv N0)))) H1
              rw [List.map_set]
              exact hP1
            exact K p l e s m args below meth c N0 aI D Qf hC hF H1 locs1 ls k n hl hlen hP2 hS1 (by rw [hk, List.length_set]) hb1 hb2
      next => cases he
    next => cases he
  · rw [if_neg hz] at he
    simp only [hz, if_false, Bool.and_eq_true] at hok3
    obtain ⟨⟨⟨g1, g2⟩, g3⟩, g4⟩ := hok3
    have hG : m_kind mi = 2 := of_decide_eq_true g2
    have hO : (r.2.1 y).1 = m_own mi := of_decide_eq_true g3
    unfold m_putA at he
    split at he
    next v q S' =>
      split at he
      next ci fs hw =>
        cases hci : Nat.beq ci x with
        | false => rw [hci] at he; cases he
        | true =>
          cases hyl : Nat.blt y fs.length with
          | false => rw [hci, hyl] at he; cases he
          | true =>
            rw [hci, hyl] at he
            have hci := Nat.eq_of_beq_eq_true hci
            subst hci
            have hyl := Nat.le_of_ble_eq_true hyl
            cases he
            obtain ⟨ty, hd, hn, hf⟩ : ∃ ty, parseFieldDescriptor (r.2.1 y).2.2.1 = some ty ∧ narrow ty (.ref (N0 + v)) = .ref (N0 + v) ∧ fits ty (.ref (N0 + v)) = true := by
              split at g4
              next o h => exact ⟨_, h, rfl, rfl⟩
              next o h => exact ⟨_, h, rfl, rfl⟩
              next => cases g4
            refine va_putF (C := r.1) (T := r.2.1) (N := r.2.2) (ty := ty) (v := .ref (N0 + v)) hx hb hts (m_uw _ r hr) ty0 hty hnm hown hK hP m_cw_D hS q (m_cw_at hw) hr y hyN (hts _ hlink) (fun _ h => h) g1 (hin hG) hO hd hn hf (by rw [List.length_map]; exact hyl) hdec (fun H1 locs1 hP1 _ hS1 => ?_)
            have hP2 : va_P D vwCl (m_cw N0 aI 0 (w.set q (.inr (ci, fs.set y (.inr (.inl v)))))) H1 := by
              rw [m_cw_set, Nat.zero_add]
              show va_P D vwCl ((m_cw N0 aI 0 w).set q (N0 + q, .inr (ci, (fs.set y (.inr (.inl v))).map (m_cv N0)))) H1
              rw [List.map_set]
              exact hP1
            exact K p l e s m args below meth c N0 aI D Qf hC hF H1 locs1 ls k n hl hlen hP2 hS1 (by rw [hk, List.length_set]) hb1 hb2
      next => cases he
    next => cases he
set_option maxHeartbeats 4000000 in
set_option maxRecDepth 100000 in
theorem m_x_new {X : Nat × Nat × (Nat → Int32)} {mi pc x y : Nat} {i : Nat} {z : Int} {L : List (Option mPV)} {S : List mPV} {w : mPW} {bc bs : Nat} {ps' : mPS} {Q : Option mPV → mPW → Prop} (hf : m_fetch mi pc = some (pc, (.new i), x, y, z)) (he : m_exec mi (.new i) x y z pc L S w bc bs = some ps') (K : m_Sem X mi ps' Q) : m_Sem X mi (pc, L, S, w, bc, bs) Q := by
  intro p l e s m args below meth c N0 aI D Qf hC hF H locs ls k n hl hlen hP hS hk hb1 hb2
  have hok := (m_fetch_ok hf).2
  obtain ⟨hx, hb, hml, hown, hts, hin, hK, h0, hX⟩ := id hC
  unfold m_okb at hok
  simp only [Bool.and_eq_true] at hok
  obtain ⟨hok1, hok2⟩ := hok
  dsimp only at hok1 hok2 hl hlen hP hS hk hb1 hb2
  have hdec := of_decide_eq_true hok1
  dsimp only [m_len] at hdec
  obtain ⟨r, hr, hcl, hin1, hin2⟩ := m_clss_w _ (of_decide_eq_true hok2)
  obtain ⟨ty0, hty, hnm, hdf⟩ := m_vt _ r hr
  simp only [m_exec] at he
  unfold m_newo at he
  split at he
  next r' fs b h1 h2 =>
    cases hr.symm.trans h1
    cases hbs : Nat.ble r.2.2 bs with
    | false => rw [hbs] at he; cases he
    | true =>
      rw [hbs] at he
      cases he
      have hbs := Nat.le_of_ble_eq_true hbs
      intro T hT XT
      subst hT
      have hz := m_size (X := X) (mi := mi) h0 hP hS hk XT
      have hKn := hK.1 x _ hr
      suffices key : W p l e (m_rm mi) s m args below meth c T.heap locs k n Qf (F0 m pc ls (S.map (m_cv N0))) from key T rfl XT
      refine W.newcK (C := r.1) (n := r.2.2) hx hb hown (hts _ hcl) (hts _ hin1) (hts _ hin2) rfl hdec (by omega) (by omega) hKn.2.1 hz (fun H1 kC hkC e1 z1 o1 => ?_)
      have hP2 : va_P D vwCl (m_cw N0 aI 0 (w ++ [.inr (x, fs)])) H1 := by
        rw [m_cw_app, Nat.zero_add]
        refine (hP.kept (fun j q hq => o1 q.1 (by have h3 : q.1 < T.heap.size := (hP j q hq).lt; omega))).app (fun j q hq => ?_)
        have hj : j < 1 := (List.getElem?_eq_some_iff.mp hq).1
        rw [show j = 0 by omega] at hq
        cases hq
        exact ⟨_, hr, (u_born ty0 hts (m_uw _ r hr) hKn hkC e1 hty).to (hdf fs h2 N0)⟩
      exact K p l e s m args below meth c N0 aI D Qf hC hF H1 locs ls (k + 1) (n + r.2.2) hl hlen hP2 ⟨Nat.le_trans hS.1 (by omega), fun q g1 g2 => (o1 q (by have := hS.1; omega)).trans (hS.2.1 q g1 g2), hS.2.2⟩ (by rw [List.length_append]; show _ = _ + (_ + 1); omega) (by show k + 1 + b = _; omega) (by show n + r.2.2 + (bs - r.2.2) ≤ _; omega)
  next => cases he
set_option maxHeartbeats 4000000 in
set_option maxRecDepth 100000 in
theorem m_x_newarray {X : Nat × Nat × (Nat → Int32)} {mi pc x y : Nat} {t : ArrayType} {z : Int} {L : List (Option mPV)} {S : List mPV} {w : mPW} {bc bs : Nat} {ps' : mPS} {Q : Option mPV → mPW → Prop} (hf : m_fetch mi pc = some (pc, (.newarray t), x, y, z)) (he : m_exec mi (.newarray t) x y z pc L S w bc bs = some ps') (K : m_Sem X mi ps' Q) : m_Sem X mi (pc, L, S, w, bc, bs) Q := by
  intro p l e s m args below meth c N0 aI D Qf hC hF H locs ls k n hl hlen hP hS hk hb1 hb2
  have hok := (m_fetch_ok hf).2
  obtain ⟨hx, hb, hml, hown, hts, hin, hK, h0, hX⟩ := id hC
  unfold m_okb at hok
  simp only [Bool.and_eq_true] at hok
  obtain ⟨hok1, hok2⟩ := hok
  dsimp only at hok1 hok2 hl hlen hP hS hk hb1 hb2
  have hdec := of_decide_eq_true hok1
  dsimp only [m_len] at hdec
  try simp only [Bool.and_eq_true] at hok2
  obtain ⟨hok2, hok3⟩ := hok2
  have hok2 := of_decide_eq_true hok2
  have hok3 := of_decide_eq_true hok3
  simp only [m_exec] at he
  unfold m_newr at he
  split at he
  next v S' =>
    split at he
    next b =>
      cases hbs : (Nat.ble v bs && Nat.ble v 65536 && Nat.blt x 3) with
      | false => rw [hbs] at he; cases he
      | true =>
        rw [hbs] at he
        cases he
        simp only [Bool.and_eq_true] at hbs
        obtain ⟨⟨hbs, hb6⟩, -⟩ := hbs
        have hbs := Nat.le_of_ble_eq_true hbs
        have hb6 := Nat.le_of_ble_eq_true hb6
        intro T hT XT
        subst hT
        have hz := m_size (X := X) (mi := mi) h0 hP hS hk XT
        have hR : m_R (Int.ofNat v) := ⟨by have := Int.natCast_nonneg v; show _ ≤ (v : Int); omega, by show (v : Int) < _; omega⟩
        have hv0 : ¬ Int32.ofInt (Int.ofNat v) < 0 := by
          have h3 := m_R_lt hR m_R_0
          rw [show (Int32.ofInt 0) = 0 from rfl] at h3
          rw [h3]
          have := Int.natCast_nonneg v
          show ¬ (v : Int) < 0
          omega
        have harr : (Cond.arrayClass (newarray.typeOf t)).before args s = true := by
          rw [hok2]
          rcases (show x = 0 ∨ x = 1 ∨ x = 2 by have : x < 3 := hok3; omega) with rfl | rfl | rfl
          · exact hts _ m_arr_w.1
          · exact hts _ m_arr_w.2.1
          · exact hts _ m_arr_w.2.2
        have hcb : componentBytes (newarray.typeOf t) ≤ 8 := by cases t <;> decide
        suffices key : W p l e (m_rm mi) s m args below meth c T.heap locs k n Qf (F0 m pc ls ((.inl (Int.ofNat v) :: S').map (m_cv N0))) from key T rfl XT
        refine va_newaK (N := v) hx hb harr rfl hdec rfl hv0 (by rw [m_R_nat hR]; rfl) (by have := Nat.mul_le_mul hb6 hcb; omega) (by omega) (by omega) hz (fun H1 cA e1 z1 o1 hA1 hA2 => ?_)
        have hP2 : va_P D vwCl (m_cw N0 aI 0 (w ++ [.inl (x, v, bif Nat.beq x 2 then .inr (fun _ => 0) else .inl (fun _ => 0))])) H1 := by
          rw [m_cw_app, Nat.zero_add]
          refine (hP.kept (fun j q hq => o1 q.1 (by have h3 : q.1 < T.heap.size := (hP j q hq).lt; omega))).app (fun j q hq => ?_)
          have hj : j < 1 := (List.getElem?_eq_some_iff.mp hq).1
          rw [show j = 0 by omega] at hq
          cases hq
          rw [hok2] at e1 hA2
          show va_at D vwCl (N0 + w.length, _) H1
          rcases (show x = 0 ∨ x = 1 ∨ x = 2 by have : x < 3 := hok3; omega) with rfl | rfl | rfl
          · have hc : aI 0 = cA := Option.some.inj ((hK.2 0 _ rfl).2.symm.trans hA2)
            show H1[N0 + w.length]? = some (vp_cell (aI 0) (v, .inl (fun _ => Int32.ofInt 0)))
            rw [hc, vp_cell_i]
            exact e1
          · have hc : aI 1 = cA := Option.some.inj ((hK.2 1 _ rfl).2.symm.trans hA2)
            show H1[N0 + w.length]? = some (vp_cell (aI 1) (v, .inl (fun _ => Int32.ofInt 0)))
            rw [hc, vp_cell_i]
            exact e1
          · have hc : aI 2 = cA := Option.some.inj ((hK.2 2 _ rfl).2.symm.trans hA2)
            show H1[N0 + w.length]? = some (vp_cell (aI 2) (v, .inr (.inl (fun _ => 0))))
            rw [hc, vp_cell_l]
            exact e1
        exact K p l e s m args below meth c N0 aI D Qf hC hF H1 locs ls (k + 1) (n + v) hl hlen hP2 ⟨Nat.le_trans hS.1 (by omega), fun q g1 g2 => (o1 q (by have := hS.1; omega)).trans (hS.2.1 q g1 g2), hS.2.2⟩ (by rw [List.length_append]; show _ = _ + (_ + 1); omega) (by show k + 1 + b = _; omega) (by show n + v + (bs - v) ≤ _; omega)
    next => cases he
  next => cases he
set_option maxHeartbeats 4000000 in
set_option maxRecDepth 100000 in
theorem m_x_invokespecial {X : Nat × Nat × (Nat → Int32)} {mi pc x y : Nat} {i : Nat} {z : Int} {L : List (Option mPV)} {S : List mPV} {w : mPW} {bc bs : Nat} {ps' : mPS} {Q : Option mPV → mPW → Prop} (hf : m_fetch mi pc = some (pc, (.invokespecial i), x, y, z)) (he : m_exec mi (.invokespecial i) x y z pc L S w bc bs = some ps') (K : m_Sem X mi ps' Q) : m_Sem X mi (pc, L, S, w, bc, bs) Q := by
  intro p l e s m args below meth c N0 aI D Qf hC hF H locs ls k n hl hlen hP hS hk hb1 hb2
  have hok := (m_fetch_ok hf).2
  obtain ⟨hx, hb, hml, hown, hts, hin, hK, h0, hX⟩ := id hC
  unfold m_okb at hok
  simp only [Bool.and_eq_true] at hok
  obtain ⟨hok1, hok2⟩ := hok
  dsimp only at hok1 hok2 hl hlen hP hS hk hb1 hb2
  have hdec := of_decide_eq_true hok1
  dsimp only [m_len] at hdec
  try simp only [Bool.and_eq_true] at hok2
  obtain ⟨hok2, hok3⟩ := hok2
  have hw := m_mths_w _ (of_decide_eq_true hok2)
  simp only [m_exec] at he
  split at he
  next q S' =>
    cases hg : (Nat.beq x 1000 && (Nat.ble 1 (m_rm mi).frames && Nat.ble ((S'.map m_cat).sum + 12) (m_rm mi).locals)) with
    | false => rw [hg] at he; cases he
    | true =>
      rw [hg] at he
      cases he
      simp only [Bool.and_eq_true] at hg
      obtain ⟨h1, h2, h3⟩ := hg
      have h1 := Nat.eq_of_beq_eq_true h1
      have h2 := Nat.le_of_ble_eq_true h2
      have h3 := Nat.le_of_ble_eq_true h3
      subst h1
      refine W.objInit hx hb hown (hts _ hw) (hts _ m_obj_w.1) (hts _ m_obj_w.2) rfl (by rw [hml]; exact hl.1) rfl hdec h2 (by show 2 * 0 + _ + 12 ≤ _; rw [m_cats]; omega) ?_
      exact K p l e s m args below meth c N0 aI D Qf hC hF H locs ls k n hl hlen hP hS hk hb1 hb2
  next => cases he
set_option maxHeartbeats 4000000 in
theorem m_step1 {X : Nat × Nat × (Nat → Int32)} {mi pc x y : Nat} {ins : Instr} {z : Int} {L : List (Option mPV)} {S : List mPV} {w : mPW} {bc bs : Nat} {ps' : mPS} {Q : Option mPV → mPW → Prop} (hf : m_fetch mi pc = some (pc, ins, x, y, z)) (he : m_exec mi ins x y z pc L S w bc bs = some ps') (K : m_Sem X mi ps' Q) : m_Sem X mi (pc, L, S, w, bc, bs) Q := by
  cases ins
  case iload i => exact m_x_iload hf he K
  case lload i => exact m_x_lload hf he K
  case iload_n i => exact m_x_iload_n hf he K
  case lload_n i => exact m_x_lload_n hf he K
  case fload_n i => exact m_x_fload_n hf he K
  case aload i => exact m_x_aload hf he K
  case aload_n i => exact m_x_aload_n hf he K
  case istore i => exact m_x_istore hf he K
  case istore_n i => exact m_x_istore_n hf he K
  case astore i => exact m_x_astore hf he K
  case astore_n i => exact m_x_astore_n hf he K
  case fstore_n i => exact m_x_fstore_n hf he K
  case lstore i => exact m_x_lstore hf he K
  case lstore_n i => exact m_x_lstore_n hf he K
  case iconst v => exact m_x_iconst hf he K
  case bipush v => exact m_x_bipush hf he K
  case sipush v => exact m_x_sipush hf he K
  case ldc i => exact m_x_ldc hf he K
  case ldc_w i => exact m_x_ldc_w hf he K
  case ldc2_w i => exact m_x_ldc2_w hf he K
  case lconst v => exact m_x_lconst hf he K
  case fconst v => exact m_x_fconst hf he K
  case iadd => exact m_x_iadd hf he K
  case isub => exact m_x_isub hf he K
  case imul => exact m_x_imul hf he K
  case iand => exact m_x_iand hf he K
  case ior => exact m_x_ior hf he K
  case ixor => exact m_x_ixor hf he K
  case ishl => exact m_x_ishl hf he K
  case ishr => exact m_x_ishr hf he K
  case iushr => exact m_x_iushr hf he K
  case land => exact m_x_land hf he K
  case lor => exact m_x_lor hf he K
  case lsub => exact m_x_lsub hf he K
  case lxor => exact m_x_lxor hf he K
  case lshl => exact m_x_lshl hf he K
  case lshr => exact m_x_lshr hf he K
  case lcmp => exact m_x_lcmp hf he K
  case l2i => exact m_x_l2i hf he K
  case i2l => exact m_x_i2l hf he K
  case i2f => exact m_x_i2f hf he K
  case f2i => exact m_x_f2i hf he K
  case fcmp o => exact m_x_fcmp hf he K
  case pop => exact m_x_pop hf he K
  case dup => exact m_x_dup hf he K
  case dup2 => exact m_x_dup2 hf he K
  case goto o => exact m_x_goto hf he K
  case iinc i d => exact m_x_iinc hf he K
  case arraylength => exact m_x_arraylength hf he K
  case getfield i => exact m_x_getfield hf he K
  case putfield i => exact m_x_putfield hf he K
  case new i => exact m_x_new hf he K
  case newarray t => exact m_x_newarray hf he K
  case invokespecial i => exact m_x_invokespecial hf he K
  all_goals (exact absurd he (fun h => by cases h))
end
section

def m_stp (mi : Nat) (ps : mPS) : Option mPS := match m_fetch mi ps.1 with
  | some e => m_exec mi e.2.1 e.2.2.1 e.2.2.2.1 e.2.2.2.2 ps.1 ps.2.1 ps.2.2.1 ps.2.2.2.1 ps.2.2.2.2.1 ps.2.2.2.2.2
  | none => none
def m_go : Nat → Nat → mPS → Option mPS
  | 0, _, ps => some ps
  | n + 1, mi, ps => match m_stp mi ps with
    | some q => m_go n mi q
    | none => none
theorem m_step {X : Nat × Nat × (Nat → Int32)} {mi : Nat} {ps ps' : mPS} {Q : Option mPV → mPW → Prop} (h : m_stp mi ps = some ps') (K : m_Sem X mi ps' Q) : m_Sem X mi ps Q := by
  obtain ⟨pc, L, S, w, bc, bs⟩ := ps
  unfold m_stp at h
  split at h
  next e hf =>
    obtain ⟨pc', ins, x, y, z⟩ := e
    have hpc : pc' = pc := (m_fetch_ok hf).1
    subst hpc
    exact m_step1 hf h K
  next => cases h
/-- some plain steps at once -/
theorem m_run {X : Nat × Nat × (Nat → Int32)} {mi : Nat} : ∀ (n : Nat) {ps ps' : mPS} {Q : Option mPV → mPW → Prop}, m_go n mi ps = some ps' → m_Sem X mi ps' Q → m_Sem X mi ps Q
  | 0, ps, ps', Q, h, K => by cases h; exact K
  | n + 1, ps, ps', Q, h, K => by
    unfold m_go at h
    split at h
    next q hq => exact m_step hq (m_run n h K)
    next => cases h
def m_cnd : Jvm.ClassFile.Cond → Int → Int → Prop
  | .eq, a, b => a = b
  | .ne, a, b => ¬ a = b
  | .lt, a, b => a < b
  | .ge, a, b => b ≤ a
  | .gt, a, b => b < a
  | .le, a, b => a ≤ b

set_option maxHeartbeats 4000000 in
set_option maxRecDepth 100000 in
theorem m_if {X : Nat × Nat × (Nat → Int32)} {mi pc x y : Nat} {z : Int} {L : List (Option mPV)} {S : List mPV} {w : mPW} {bc bs : Nat} {Q : Option mPV → mPW → Prop} {cd : Jvm.ClassFile.Cond} {off : Int} {a : Int} (hf : m_fetch mi pc = some (pc, .ifCond cd off, x, y, z)) (ha : m_R a) (kt : m_cnd cd a 0 → m_Sem X mi (x, L, S, w, bc, bs) Q) (kf : ¬ m_cnd cd a 0 → m_Sem X mi (pc + 3, L, S, w, bc, bs) Q) : m_Sem X mi (pc, L, .inl a :: S, w, bc, bs) Q := by
  intro p l e s m args below meth c N0 aI D Qf hC hF H locs ls k n hl hlen hP hS hk hb1 hb2
  have hok := (m_fetch_ok hf).2
  obtain ⟨hx, hb, hml, hown, hts, hin, hK, h0, hX⟩ := id hC
  unfold m_okb at hok
  simp only [Bool.and_eq_true] at hok
  obtain ⟨hok1, hok2⟩ := hok
  dsimp only at hok1 hok2 hl hlen hP hS hk hb1 hb2
  have hdec := of_decide_eq_true hok1
  dsimp only [m_len] at hdec
  have ht := of_decide_eq_true hok2
  cases cd
  case eq =>
    refine lv_if_eq hx hb hdec ht (fun h => ?_) (fun h => ?_)
    · exact kt ((m_R_eq ha m_R_0).mp h) p l e s m args below meth c N0 aI D Qf hC hF H locs ls k n hl hlen hP hS hk hb1 hb2
    · exact kf (fun hc => h ((m_R_eq ha m_R_0).mpr hc)) p l e s m args below meth c N0 aI D Qf hC hF H locs ls k n hl hlen hP hS hk hb1 hb2
  case ne =>
    refine lv_if_ne hx hb hdec ht (fun h => ?_) (fun h => ?_)
    · exact kt (fun hc => h ((m_R_eq ha m_R_0).mpr hc)) p l e s m args below meth c N0 aI D Qf hC hF H locs ls k n hl hlen hP hS hk hb1 hb2
    · exact kf (fun hc => hc ((m_R_eq ha m_R_0).mp h)) p l e s m args below meth c N0 aI D Qf hC hF H locs ls k n hl hlen hP hS hk hb1 hb2
  case lt =>
    refine lv_if_lt hx hb hdec ht (fun h => ?_) (fun h => ?_)
    · exact kt ((m_R_lt ha m_R_0).mp h) p l e s m args below meth c N0 aI D Qf hC hF H locs ls k n hl hlen hP hS hk hb1 hb2
    · exact kf (fun hc => h ((m_R_lt ha m_R_0).mpr hc)) p l e s m args below meth c N0 aI D Qf hC hF H locs ls k n hl hlen hP hS hk hb1 hb2
  case ge =>
    refine lv_if_ge hx hb hdec ht (fun h => ?_) (fun h => ?_)
    · exact kt ((m_R_le m_R_0 ha).mp h) p l e s m args below meth c N0 aI D Qf hC hF H locs ls k n hl hlen hP hS hk hb1 hb2
    · exact kf (fun hc => h ((m_R_le m_R_0 ha).mpr hc)) p l e s m args below meth c N0 aI D Qf hC hF H locs ls k n hl hlen hP hS hk hb1 hb2
  case gt =>
    refine lv_if_gt hx hb hdec ht (fun h => ?_) (fun h => ?_)
    · exact kt ((m_R_lt m_R_0 ha).mp h) p l e s m args below meth c N0 aI D Qf hC hF H locs ls k n hl hlen hP hS hk hb1 hb2
    · exact kf (fun hc => h ((m_R_lt m_R_0 ha).mpr hc)) p l e s m args below meth c N0 aI D Qf hC hF H locs ls k n hl hlen hP hS hk hb1 hb2
  case le =>
    refine lv_if_le hx hb hdec ht (fun h => ?_) (fun h => ?_)
    · exact kt ((m_R_le ha m_R_0).mp h) p l e s m args below meth c N0 aI D Qf hC hF H locs ls k n hl hlen hP hS hk hb1 hb2
    · exact kf (fun hc => h ((m_R_le ha m_R_0).mpr hc)) p l e s m args below meth c N0 aI D Qf hC hF H locs ls k n hl hlen hP hS hk hb1 hb2

set_option maxHeartbeats 4000000 in
set_option maxRecDepth 100000 in
theorem m_icmp {X : Nat × Nat × (Nat → Int32)} {mi pc x y : Nat} {z : Int} {L : List (Option mPV)} {S : List mPV} {w : mPW} {bc bs : Nat} {Q : Option mPV → mPW → Prop} {cd : Jvm.ClassFile.Cond} {off : Int} {a b : Int} (hf : m_fetch mi pc = some (pc, .if_icmp cd off, x, y, z)) (ha : m_R a) (hb0 : m_R b) (kt : m_cnd cd a b → m_Sem X mi (x, L, S, w, bc, bs) Q) (kf : ¬ m_cnd cd a b → m_Sem X mi (pc + 3, L, S, w, bc, bs) Q) : m_Sem X mi (pc, L, .inl b :: .inl a :: S, w, bc, bs) Q := by
  intro p l e s m args below meth c N0 aI D Qf hC hF H locs ls k n hl hlen hP hS hk hb1 hb2
  have hok := (m_fetch_ok hf).2
  obtain ⟨hx, hb, hml, hown, hts, hin, hK, h0, hX⟩ := id hC
  unfold m_okb at hok
  simp only [Bool.and_eq_true] at hok
  obtain ⟨hok1, hok2⟩ := hok
  dsimp only at hok1 hok2 hl hlen hP hS hk hb1 hb2
  have hdec := of_decide_eq_true hok1
  dsimp only [m_len] at hdec
  have ht := of_decide_eq_true hok2
  cases cd
  case eq =>
    refine lv_icmp_eq hx hb hdec ht (fun h => ?_) (fun h => ?_)
    · exact kt ((m_R_eq ha hb0).mp h) p l e s m args below meth c N0 aI D Qf hC hF H locs ls k n hl hlen hP hS hk hb1 hb2
    · exact kf (fun hc => h ((m_R_eq ha hb0).mpr hc)) p l e s m args below meth c N0 aI D Qf hC hF H locs ls k n hl hlen hP hS hk hb1 hb2
  case ne =>
    refine lv_icmp_ne hx hb hdec ht (fun h => ?_) (fun h => ?_)
    · exact kt (fun hc => h ((m_R_eq ha hb0).mpr hc)) p l e s m args below meth c N0 aI D Qf hC hF H locs ls k n hl hlen hP hS hk hb1 hb2
    · exact kf (fun hc => hc ((m_R_eq ha hb0).mp h)) p l e s m args below meth c N0 aI D Qf hC hF H locs ls k n hl hlen hP hS hk hb1 hb2
  case lt =>
    refine lv_icmp_lt hx hb hdec ht (fun h => ?_) (fun h => ?_)
    · exact kt ((m_R_lt ha hb0).mp h) p l e s m args below meth c N0 aI D Qf hC hF H locs ls k n hl hlen hP hS hk hb1 hb2
    · exact kf (fun hc => h ((m_R_lt ha hb0).mpr hc)) p l e s m args below meth c N0 aI D Qf hC hF H locs ls k n hl hlen hP hS hk hb1 hb2
  case ge =>
    refine lv_icmp_ge hx hb hdec ht (fun h => ?_) (fun h => ?_)
    · exact kt ((m_R_le hb0 ha).mp h) p l e s m args below meth c N0 aI D Qf hC hF H locs ls k n hl hlen hP hS hk hb1 hb2
    · exact kf (fun hc => h ((m_R_le hb0 ha).mpr hc)) p l e s m args below meth c N0 aI D Qf hC hF H locs ls k n hl hlen hP hS hk hb1 hb2
  case gt =>
    refine lv_icmp_gt hx hb hdec ht (fun h => ?_) (fun h => ?_)
    · exact kt ((m_R_lt hb0 ha).mp h) p l e s m args below meth c N0 aI D Qf hC hF H locs ls k n hl hlen hP hS hk hb1 hb2
    · exact kf (fun hc => h ((m_R_lt hb0 ha).mpr hc)) p l e s m args below meth c N0 aI D Qf hC hF H locs ls k n hl hlen hP hS hk hb1 hb2
  case le =>
    refine lv_icmp_le hx hb hdec ht (fun h => ?_) (fun h => ?_)
    · exact kt ((m_R_le ha hb0).mp h) p l e s m args below meth c N0 aI D Qf hC hF H locs ls k n hl hlen hP hS hk hb1 hb2
    · exact kf (fun hc => h ((m_R_le ha hb0).mpr hc)) p l e s m args below meth c N0 aI D Qf hC hF H locs ls k n hl hlen hP hS hk hb1 hb2


def m_up (f : Int → Int) (j v : Int) : Int → Int := fun i => if i = j then v else f i
theorem m_up_s (f : Int → Int) (j v : Int) : m_up f j v j = v := if_pos rfl
theorem m_up_n (f : Int → Int) {j i : Int} (v : Int) (h : ¬ i = j) : m_up f j v i = f i := if_neg h
theorem m_up_cv (f : Int → Int) {j : Int} (v : Int) (hj : 0 ≤ j) : (fun i : Nat => Int32.ofInt (m_up f j v (i : Int))) = upd (fun i : Nat => Int32.ofInt (f (i : Int))) j.toNat (Int32.ofInt v) := by
  funext i
  by_cases h : (i : Int) = j
  · have h2 : i = j.toNat := by omega
    rw [h, m_up_s]
    simp [upd, h2]
  · have h2 : ¬ i = j.toNat := by omega
    rw [m_up_n f v h]
    simp [upd, h2]
theorem m_vin {j : Int} {v : Nat} (h1 : 0 ≤ j) (h2 : j < v) (h3 : v < 2147483648) : vp_in (Int32.ofInt j) v := by
  have hR : m_R j := ⟨by omega, by omega⟩
  rw [vp_in_iff, m_R_to hR]
  exact ⟨h1, h2⟩
theorem m_nat {j : Int} {v : Nat} (h1 : 0 ≤ j) (h2 : j < v) (h3 : v < 2147483648) : (Int32.ofInt j).toNatClampNeg = j.toNat := m_R_nat ⟨by omega, by omega⟩

set_option maxHeartbeats 4000000 in
set_option maxRecDepth 100000 in
theorem m_iald {X : Nat × Nat × (Nat → Int32)} {mi pc x y : Nat} {z : Int} {L : List (Option mPV)} {S : List mPV} {w : mPW} {bc bs : Nat} {Q : Option mPV → mPW → Prop} {j : Int} {q v : Nat} {f : Int → Int} (hf : m_fetch mi pc = some (pc, .iaload, x, y, z)) (hw : w[q]? = some (.inl (0, v, .inl f))) (h1 : 0 ≤ j) (h2 : j < v) (h3 : v < 2147483648) (K : m_Sem X mi (pc + 1, L, .inl (f j) :: S, w, bc, bs) Q) : m_Sem X mi (pc, L, .inl j :: .inr (.inl q) :: S, w, bc, bs) Q := by
  intro p l e s m args below meth c N0 aI D Qf hC hF H locs ls k n hl hlen hP hS hk hb1 hb2
  have hok := (m_fetch_ok hf).2
  obtain ⟨hx, hb, hml, hown, hts, hin, hK, h0, hX⟩ := id hC
  unfold m_okb at hok
  simp only [Bool.and_eq_true] at hok
  obtain ⟨hok1, hok2⟩ := hok
  dsimp only at hok1 hok2 hl hlen hP hS hk hb1 hb2
  have hdec := of_decide_eq_true hok1
  dsimp only [m_len] at hdec
  refine va_iald hx hb hK hP q 0 (m_cw_at hw) rfl (m_vin h1 h2 h3) hdec ?_
  rw [m_nat h1 h2 h3]
  have hj : ((j.toNat : Nat) : Int) = j := Int.toNat_of_nonneg h1
  show W p l e _ s m args below meth c H locs k n Qf (F0 m _ ls (.int (Int32.ofInt (f ((j.toNat : Nat) : Int))) :: _))
  rw [hj]
  exact K p l e s m args below meth c N0 aI D Qf hC hF H locs ls k n hl hlen hP hS hk hb1 hb2

set_option maxHeartbeats 4000000 in
set_option maxRecDepth 100000 in
theorem m_cald {X : Nat × Nat × (Nat → Int32)} {mi pc x y : Nat} {z : Int} {L : List (Option mPV)} {S : List mPV} {w : mPW} {bc bs : Nat} {Q : Option mPV → mPW → Prop} {j : Int} {q v : Nat} {f : Int → Int} (hf : m_fetch mi pc = some (pc, .caload, x, y, z)) (hw : w[q]? = some (.inl (1, v, .inl f))) (h1 : 0 ≤ j) (h2 : j < v) (h3 : v < 2147483648) (K : m_Sem X mi (pc + 1, L, .inl (f j) :: S, w, bc, bs) Q) : m_Sem X mi (pc, L, .inl j :: .inr (.inl q) :: S, w, bc, bs) Q := by
  intro p l e s m args below meth c N0 aI D Qf hC hF H locs ls k n hl hlen hP hS hk hb1 hb2
  have hok := (m_fetch_ok hf).2
  obtain ⟨hx, hb, hml, hown, hts, hin, hK, h0, hX⟩ := id hC
  unfold m_okb at hok
  simp only [Bool.and_eq_true] at hok
  obtain ⟨hok1, hok2⟩ := hok
  dsimp only at hok1 hok2 hl hlen hP hS hk hb1 hb2
  have hdec := of_decide_eq_true hok1
  dsimp only [m_len] at hdec
  refine va_cald hx hb hK hP q 1 (m_cw_at hw) rfl (m_vin h1 h2 h3) hdec ?_
  rw [m_nat h1 h2 h3]
  have hj : ((j.toNat : Nat) : Int) = j := Int.toNat_of_nonneg h1
  show W p l e _ s m args below meth c H locs k n Qf (F0 m _ ls (.int (Int32.ofInt (f ((j.toNat : Nat) : Int))) :: _))
  rw [hj]
  exact K p l e s m args below meth c N0 aI D Qf hC hF H locs ls k n hl hlen hP hS hk hb1 hb2

set_option maxHeartbeats 4000000 in
set_option maxRecDepth 100000 in
theorem m_lald {X : Nat × Nat × (Nat → Int32)} {mi pc x y : Nat} {z : Int} {L : List (Option mPV)} {S : List mPV} {w : mPW} {bc bs : Nat} {Q : Option mPV → mPW → Prop} {j : Int} {q v : Nat} {f : Nat → Int64} (hf : m_fetch mi pc = some (pc, .laload, x, y, z)) (hw : w[q]? = some (.inl (2, v, .inr f))) (h1 : 0 ≤ j) (h2 : j < v) (h3 : v < 2147483648) (K : m_Sem X mi (pc + 1, L, .inr (.inr (.long (f j.toNat))) :: S, w, bc, bs) Q) : m_Sem X mi (pc, L, .inl j :: .inr (.inl q) :: S, w, bc, bs) Q := by
  intro p l e s m args below meth c N0 aI D Qf hC hF H locs ls k n hl hlen hP hS hk hb1 hb2
  have hok := (m_fetch_ok hf).2
  obtain ⟨hx, hb, hml, hown, hts, hin, hK, h0, hX⟩ := id hC
  unfold m_okb at hok
  simp only [Bool.and_eq_true] at hok
  obtain ⟨hok1, hok2⟩ := hok
  dsimp only at hok1 hok2 hl hlen hP hS hk hb1 hb2
  have hdec := of_decide_eq_true hok1
  dsimp only [m_len] at hdec
  refine va_lald hx hb hK hP q 2 (m_cw_at hw) rfl (m_vin h1 h2 h3) hdec ?_
  rw [m_nat h1 h2 h3]
  exact K p l e s m args below meth c N0 aI D Qf hC hF H locs ls k n hl hlen hP hS hk hb1 hb2

set_option maxHeartbeats 4000000 in
set_option maxRecDepth 100000 in
theorem m_iast {X : Nat × Nat × (Nat → Int32)} {mi pc x y : Nat} {z : Int} {L : List (Option mPV)} {S : List mPV} {w : mPW} {bc bs : Nat} {Q : Option mPV → mPW → Prop} {j u : Int} {q v : Nat} {f : Int → Int} (hf : m_fetch mi pc = some (pc, .iastore, x, y, z)) (hw : w[q]? = some (.inl (0, v, .inl f))) (h1 : 0 ≤ j) (h2 : j < v) (h3 : v < 2147483648) (K : m_Sem X mi (pc + 1, L, S, w.set q (.inl (0, v, .inl (m_up f j u))), bc, bs) Q) : m_Sem X mi (pc, L, .inl u :: .inl j :: .inr (.inl q) :: S, w, bc, bs) Q := by
  intro p l e s m args below meth c N0 aI D Qf hC hF H locs ls k n hl hlen hP hS hk hb1 hb2
  have hok := (m_fetch_ok hf).2
  obtain ⟨hx, hb, hml, hown, hts, hin, hK, h0, hX⟩ := id hC
  unfold m_okb at hok
  simp only [Bool.and_eq_true] at hok
  obtain ⟨hok1, hok2⟩ := hok
  dsimp only at hok1 hok2 hl hlen hP hS hk hb1 hb2
  have hdec := of_decide_eq_true hok1
  dsimp only [m_len] at hdec
  refine va_iast hx hb hK hP m_cw_D hS q 0 (m_cw_at hw) rfl (m_vin h1 h2 h3) hdec (fun H1 locs1 hP1 _ hS1 => ?_)
  have hP2 : va_P D vwCl (m_cw N0 aI 0 (w.set q (.inl (0, v, .inl (m_up f j u))))) H1 := by
    rw [m_cw_set, Nat.zero_add]
    show va_P D vwCl ((m_cw N0 aI 0 w).set q (N0 + q, .inl (aI 0, v, .inl (fun i : Nat => Int32.ofInt (m_up f j u (i : Int)))))) H1
    rw [m_nat h1 h2 h3] at hP1
    rw [m_up_cv f u h1]
    exact hP1
  exact K p l e s m args below meth c N0 aI D Qf hC hF H1 locs1 ls k n hl hlen hP2 hS1 (by rw [hk, List.length_set]) hb1 hb2

theorem m_chr {u : Int} (h4 : 0 ≤ u) (h5 : u < 65536) : vp_nar .char (Int32.ofInt u) = Int32.ofInt u := by
  have e : Int32.ofInt u = nI u.toNat := by
    rw [nI, ← Int32.ofInt_eq_ofNat, Int.toNat_of_nonneg h4]
  rw [e]
  have h := (pk_charN (q := u.toNat) (by omega)).1
  unfold vp_nar
  rw [h]
set_option maxHeartbeats 4000000 in
set_option maxRecDepth 100000 in
theorem m_cast {X : Nat × Nat × (Nat → Int32)} {mi pc x y : Nat} {z : Int} {L : List (Option mPV)} {S : List mPV} {w : mPW} {bc bs : Nat} {Q : Option mPV → mPW → Prop} {j u : Int} {q v : Nat} {f : Int → Int} (hf : m_fetch mi pc = some (pc, .castore, x, y, z)) (hw : w[q]? = some (.inl (1, v, .inl f))) (h1 : 0 ≤ j) (h2 : j < v) (h3 : v < 2147483648) (h4 : 0 ≤ u) (h5 : u < 65536) (K : m_Sem X mi (pc + 1, L, S, w.set q (.inl (1, v, .inl (m_up f j u))), bc, bs) Q) : m_Sem X mi (pc, L, .inl u :: .inl j :: .inr (.inl q) :: S, w, bc, bs) Q := by
  intro p l e s m args below meth c N0 aI D Qf hC hF H locs ls k n hl hlen hP hS hk hb1 hb2
  have hok := (m_fetch_ok hf).2
  obtain ⟨hx, hb, hml, hown, hts, hin, hK, h0, hX⟩ := id hC
  unfold m_okb at hok
  simp only [Bool.and_eq_true] at hok
  obtain ⟨hok1, hok2⟩ := hok
  dsimp only at hok1 hok2 hl hlen hP hS hk hb1 hb2
  have hdec := of_decide_eq_true hok1
  dsimp only [m_len] at hdec
  refine va_cast hx hb hK hP m_cw_D hS q 1 (m_cw_at hw) rfl (m_vin h1 h2 h3) hdec (fun H1 locs1 hP1 _ hS1 => ?_)
  have hP2 : va_P D vwCl (m_cw N0 aI 0 (w.set q (.inl (1, v, .inl (m_up f j u))))) H1 := by
    rw [m_cw_set, Nat.zero_add]
    show va_P D vwCl ((m_cw N0 aI 0 w).set q (N0 + q, .inl (aI 1, v, .inl (fun i : Nat => Int32.ofInt (m_up f j u (i : Int)))))) H1
    rw [m_nat h1 h2 h3] at hP1
    rw [show vp_nar .char (Int32.ofInt u) = Int32.ofInt u from m_chr h4 h5] at hP1
    rw [m_up_cv f u h1]
    exact hP1
  exact K p l e s m args below meth c N0 aI D Qf hC hF H1 locs1 ls k n hl hlen hP2 hS1 (by rw [hk, List.length_set]) hb1 hb2

set_option maxHeartbeats 4000000 in
set_option maxRecDepth 100000 in
theorem m_last {X : Nat × Nat × (Nat → Int32)} {mi pc x y : Nat} {z : Int} {L : List (Option mPV)} {S : List mPV} {w : mPW} {bc bs : Nat} {Q : Option mPV → mPW → Prop} {j : Int} {u : Int64} {q v : Nat} {f : Nat → Int64} (hf : m_fetch mi pc = some (pc, .lastore, x, y, z)) (hw : w[q]? = some (.inl (2, v, .inr f))) (h1 : 0 ≤ j) (h2 : j < v) (h3 : v < 2147483648) (K : m_Sem X mi (pc + 1, L, S, w.set q (.inl (2, v, .inr (vp_updL f j.toNat u))), bc, bs) Q) : m_Sem X mi (pc, L, .inr (.inr (.long u)) :: .inl j :: .inr (.inl q) :: S, w, bc, bs) Q := by
  intro p l e s m args below meth c N0 aI D Qf hC hF H locs ls k n hl hlen hP hS hk hb1 hb2
  have hok := (m_fetch_ok hf).2
  obtain ⟨hx, hb, hml, hown, hts, hin, hK, h0, hX⟩ := id hC
  unfold m_okb at hok
  simp only [Bool.and_eq_true] at hok
  obtain ⟨hok1, hok2⟩ := hok
  dsimp only at hok1 hok2 hl hlen hP hS hk hb1 hb2
  have hdec := of_decide_eq_true hok1
  dsimp only [m_len] at hdec
  refine va_last hx hb hK hP m_cw_D hS q 2 (m_cw_at hw) rfl (m_vin h1 h2 h3) hdec (fun H1 locs1 hP1 _ hS1 => ?_)
  have hP2 : va_P D vwCl (m_cw N0 aI 0 (w.set q (.inl (2, v, .inr (vp_updL f j.toNat u))))) H1 := by
    rw [m_cw_set, Nat.zero_add]
    show va_P D vwCl ((m_cw N0 aI 0 w).set q (N0 + q, .inl (aI 2, v, .inr (.inl (vp_updL f j.toNat u))))) H1
    rw [m_nat h1 h2 h3] at hP1
    exact hP1
  exact K p l e s m args below meth c N0 aI D Qf hC hF H1 locs1 ls k n hl hlen hP2 hS1 (by rw [hk, List.length_set]) hb1 hb2

set_option maxHeartbeats 4000000 in
set_option maxRecDepth 100000 in
theorem m_div {X : Nat × Nat × (Nat → Int32)} {mi pc x y : Nat} {z : Int} {L : List (Option mPV)} {S : List mPV} {w : mPW} {bc bs : Nat} {Q : Option mPV → mPW → Prop} {a b : Int} (hf : m_fetch mi pc = some (pc, .idiv, x, y, z)) (h1 : 0 ≤ a) (h2 : a < 2147483648) (h3 : 0 < b) (h4 : b < 2147483648) (K : m_Sem X mi (pc + 1, L, .inl (a / b) :: S, w, bc, bs) Q) : m_Sem X mi (pc, L, .inl b :: .inl a :: S, w, bc, bs) Q := by
  intro p l e s m args below meth c N0 aI D Qf hC hF H locs ls k n hl hlen hP hS hk hb1 hb2
  have hok := (m_fetch_ok hf).2
  obtain ⟨hx, hb, hml, hown, hts, hin, hK, h0, hX⟩ := id hC
  unfold m_okb at hok
  simp only [Bool.and_eq_true] at hok
  obtain ⟨hok1, hok2⟩ := hok
  dsimp only at hok1 hok2 hl hlen hP hS hk hb1 hb2
  have hdec := of_decide_eq_true hok1
  dsimp only [m_len] at hdec
  have hne : ¬ Int32.ofInt b = 0 := by
    have h := m_R_eq (x := b) (y := 0) ⟨by omega, h4⟩ m_R_0
    rw [show Int32.ofInt 0 = 0 from rfl] at h
    rw [h]
    omega
  refine lv_idiv hx hb hdec hne ?_
  rw [← m_R_div h1 h2 h3 h4]
  exact K p l e s m args below meth c N0 aI D Qf hC hF H locs ls k n hl hlen hP hS hk hb1 hb2

set_option maxHeartbeats 4000000 in
set_option maxRecDepth 100000 in
theorem m_rem {X : Nat × Nat × (Nat → Int32)} {mi pc x y : Nat} {z : Int} {L : List (Option mPV)} {S : List mPV} {w : mPW} {bc bs : Nat} {Q : Option mPV → mPW → Prop} {a b : Int} (hf : m_fetch mi pc = some (pc, .irem, x, y, z)) (h1 : 0 ≤ a) (h2 : a < 2147483648) (h3 : 0 < b) (h4 : b < 2147483648) (K : m_Sem X mi (pc + 1, L, .inl (a % b) :: S, w, bc, bs) Q) : m_Sem X mi (pc, L, .inl b :: .inl a :: S, w, bc, bs) Q := by
  intro p l e s m args below meth c N0 aI D Qf hC hF H locs ls k n hl hlen hP hS hk hb1 hb2
  have hok := (m_fetch_ok hf).2
  obtain ⟨hx, hb, hml, hown, hts, hin, hK, h0, hX⟩ := id hC
  unfold m_okb at hok
  simp only [Bool.and_eq_true] at hok
  obtain ⟨hok1, hok2⟩ := hok
  dsimp only at hok1 hok2 hl hlen hP hS hk hb1 hb2
  have hdec := of_decide_eq_true hok1
  dsimp only [m_len] at hdec
  have hne : ¬ Int32.ofInt b = 0 := by
    have h := m_R_eq (x := b) (y := 0) ⟨by omega, h4⟩ m_R_0
    rw [show Int32.ofInt 0 = 0 from rfl] at h
    rw [h]
    omega
  refine lv_irem hx hb hdec hne ?_
  rw [← m_R_rem h1 h2 h3 h4]
  exact K p l e s m args below meth c N0 aI D Qf hC hF H locs ls k n hl hlen hP hS hk hb1 hb2

set_option maxHeartbeats 4000000 in
set_option maxRecDepth 100000 in
theorem m_i2c {X : Nat × Nat × (Nat → Int32)} {mi pc x y : Nat} {z : Int} {L : List (Option mPV)} {S : List mPV} {w : mPW} {bc bs : Nat} {Q : Option mPV → mPW → Prop} {a : Int} (hf : m_fetch mi pc = some (pc, .i2c, x, y, z)) (h1 : 0 ≤ a) (h2 : a < 65536) (K : m_Sem X mi (pc + 1, L, .inl a :: S, w, bc, bs) Q) : m_Sem X mi (pc, L, .inl a :: S, w, bc, bs) Q := by
  intro p l e s m args below meth c N0 aI D Qf hC hF H locs ls k n hl hlen hP hS hk hb1 hb2
  have hok := (m_fetch_ok hf).2
  obtain ⟨hx, hb, hml, hown, hts, hin, hK, h0, hX⟩ := id hC
  unfold m_okb at hok
  simp only [Bool.and_eq_true] at hok
  obtain ⟨hok1, hok2⟩ := hok
  dsimp only at hok1 hok2 hl hlen hP hS hk hb1 hb2
  have hdec := of_decide_eq_true hok1
  dsimp only [m_len] at hdec
  have hv : ((Int32.ofInt a).toUInt32 % 65536).toInt32 = Int32.ofInt a := by
    have e : Int32.ofInt a = nI a.toNat := by
      rw [nI, ← Int32.ofInt_eq_ofNat, Int.toNat_of_nonneg h1]
    rw [pk_char, e, pk_tn (by omega), Nat.mod_eq_of_lt (by omega)]
  refine lv_i2c hx hb hdec hv ?_
  exact K p l e s m args below meth c N0 aI D Qf hC hF H locs ls k n hl hlen hP hS hk hb1 hb2

set_option maxHeartbeats 4000000 in
set_option maxRecDepth 100000 in
theorem m_fdiv {X : Nat × Nat × (Nat → Int32)} {mi pc x y : Nat} {z : Int} {L : List (Option mPV)} {S : List mPV} {w : mPW} {bc bs : Nat} {Q : Option mPV → mPW → Prop} {a b v : UInt32} (hf : m_fetch mi pc = some (pc, .fdiv, x, y, z)) (hv : FP.fdiv a b = v) (hn : vf_n32 v) (K : m_Sem X mi (pc + 1, L, .inr (.inr (.float v)) :: S, w, bc, bs) Q) : m_Sem X mi (pc, L, .inr (.inr (.float b)) :: .inr (.inr (.float a)) :: S, w, bc, bs) Q := by
  intro p l e s m args below meth c N0 aI D Qf hC hF H locs ls k n hl hlen hP hS hk hb1 hb2
  have hok := (m_fetch_ok hf).2
  obtain ⟨hx, hb, hml, hown, hts, hin, hK, h0, hX⟩ := id hC
  unfold m_okb at hok
  simp only [Bool.and_eq_true] at hok
  obtain ⟨hok1, hok2⟩ := hok
  dsimp only at hok1 hok2 hl hlen hP hS hk hb1 hb2
  have hdec := of_decide_eq_true hok1
  dsimp only [m_len] at hdec
  subst hv
  refine lv_fdiv hx hb hdec hn ?_
  exact K p l e s m args below meth c N0 aI D Qf hC hF H locs ls k n hl hlen hP hS hk hb1 hb2

set_option maxHeartbeats 4000000 in
set_option maxRecDepth 100000 in
theorem m_fmul {X : Nat × Nat × (Nat → Int32)} {mi pc x y : Nat} {z : Int} {L : List (Option mPV)} {S : List mPV} {w : mPW} {bc bs : Nat} {Q : Option mPV → mPW → Prop} {a b v : UInt32} (hf : m_fetch mi pc = some (pc, .fmul, x, y, z)) (hv : FP.fmul a b = v) (hn : vf_n32 v) (K : m_Sem X mi (pc + 1, L, .inr (.inr (.float v)) :: S, w, bc, bs) Q) : m_Sem X mi (pc, L, .inr (.inr (.float b)) :: .inr (.inr (.float a)) :: S, w, bc, bs) Q := by
  intro p l e s m args below meth c N0 aI D Qf hC hF H locs ls k n hl hlen hP hS hk hb1 hb2
  have hok := (m_fetch_ok hf).2
  obtain ⟨hx, hb, hml, hown, hts, hin, hK, h0, hX⟩ := id hC
  unfold m_okb at hok
  simp only [Bool.and_eq_true] at hok
  obtain ⟨hok1, hok2⟩ := hok
  dsimp only at hok1 hok2 hl hlen hP hS hk hb1 hb2
  have hdec := of_decide_eq_true hok1
  dsimp only [m_len] at hdec
  subst hv
  refine lv_fmul hx hb hdec hn ?_
  exact K p l e s m args below meth c N0 aI D Qf hC hF H locs ls k n hl hlen hP hS hk hb1 hb2

set_option maxHeartbeats 4000000 in
set_option maxRecDepth 100000 in
theorem m_fsub {X : Nat × Nat × (Nat → Int32)} {mi pc x y : Nat} {z : Int} {L : List (Option mPV)} {S : List mPV} {w : mPW} {bc bs : Nat} {Q : Option mPV → mPW → Prop} {a b v : UInt32} (hf : m_fetch mi pc = some (pc, .fsub, x, y, z)) (hv : FP.fsub a b = v) (hn : vf_n32 v) (K : m_Sem X mi (pc + 1, L, .inr (.inr (.float v)) :: S, w, bc, bs) Q) : m_Sem X mi (pc, L, .inr (.inr (.float b)) :: .inr (.inr (.float a)) :: S, w, bc, bs) Q := by
  intro p l e s m args below meth c N0 aI D Qf hC hF H locs ls k n hl hlen hP hS hk hb1 hb2
  have hok := (m_fetch_ok hf).2
  obtain ⟨hx, hb, hml, hown, hts, hin, hK, h0, hX⟩ := id hC
  unfold m_okb at hok
  simp only [Bool.and_eq_true] at hok
  obtain ⟨hok1, hok2⟩ := hok
  dsimp only at hok1 hok2 hl hlen hP hS hk hb1 hb2
  have hdec := of_decide_eq_true hok1
  dsimp only [m_len] at hdec
  subst hv
  refine lv_fsub hx hb hdec hn ?_
  exact K p l e s m args below meth c N0 aI D Qf hC hF H locs ls k n hl hlen hP hS hk hb1 hb2

set_option maxHeartbeats 4000000 in
set_option maxRecDepth 100000 in
theorem m_tabIn {X : Nat × Nat × (Nat → Int32)} {mi pc x y : Nat} {z : Int} {L : List (Option mPV)} {S : List mPV} {w : mPW} {bc bs : Nat} {Q : Option mPV → mPW → Prop} {df lo hi : Int} {offs : Array Int} {a off : Int} {tgt : Nat} (hf : m_fetch mi pc = some (pc, .tableswitch df lo hi offs, x, y, z)) (ha : m_R a) (h1 : lo ≤ a) (h2 : a ≤ hi) (ho : offs[(a - lo).toNat]? = some off) (ht : (pc : Int) + off = (tgt : Int)) (K : m_Sem X mi (tgt, L, S, w, bc, bs) Q) : m_Sem X mi (pc, L, .inl a :: S, w, bc, bs) Q := by
  intro p l e s m args below meth c N0 aI D Qf hC hF H locs ls k n hl hlen hP hS hk hb1 hb2
  have hok := (m_fetch_ok hf).2
  obtain ⟨hx, hb, hml, hown, hts, hin, hK, h0, hX⟩ := id hC
  unfold m_okb at hok
  simp only [Bool.and_eq_true] at hok
  obtain ⟨hok1, hok2⟩ := hok
  dsimp only at hok1 hok2 hl hlen hP hS hk hb1 hb2
  obtain ⟨len, hdec⟩ : ∃ len, decode (m_cd mi) pc = .ok (.tableswitch df lo hi offs, len) := by
    split at hok1
    next i len h =>
      have h2 := of_decide_eq_true hok1
      rw [h2] at h
      exact ⟨len, h⟩
    next => cases hok1
  refine lv_tableIn hx hb hdec (by rw [m_R_to ha]; omega) (by rw [m_R_to ha]; omega) (by rw [m_R_to ha]; exact ho) ht ?_
  exact K p l e s m args below meth c N0 aI D Qf hC hF H locs ls k n hl hlen hP hS hk hb1 hb2

set_option maxHeartbeats 4000000 in
set_option maxRecDepth 100000 in
theorem m_tabOut {X : Nat × Nat × (Nat → Int32)} {mi pc x y : Nat} {z : Int} {L : List (Option mPV)} {S : List mPV} {w : mPW} {bc bs : Nat} {Q : Option mPV → mPW → Prop} {df lo hi : Int} {offs : Array Int} {a : Int} {tgt : Nat} (hf : m_fetch mi pc = some (pc, .tableswitch df lo hi offs, x, y, z)) (ha : m_R a) (h1 : a < lo ∨ hi < a) (ht : (pc : Int) + df = (tgt : Int)) (K : m_Sem X mi (tgt, L, S, w, bc, bs) Q) : m_Sem X mi (pc, L, .inl a :: S, w, bc, bs) Q := by
  intro p l e s m args below meth c N0 aI D Qf hC hF H locs ls k n hl hlen hP hS hk hb1 hb2
  have hok := (m_fetch_ok hf).2
  obtain ⟨hx, hb, hml, hown, hts, hin, hK, h0, hX⟩ := id hC
  unfold m_okb at hok
  simp only [Bool.and_eq_true] at hok
  obtain ⟨hok1, hok2⟩ := hok
  dsimp only at hok1 hok2 hl hlen hP hS hk hb1 hb2
  obtain ⟨len, hdec⟩ : ∃ len, decode (m_cd mi) pc = .ok (.tableswitch df lo hi offs, len) := by
    split at hok1
    next i len h =>
      have h2 := of_decide_eq_true hok1
      rw [h2] at h
      exact ⟨len, h⟩
    next => cases hok1
  refine lv_tableOut hx hb hdec (by rw [m_R_to ha]; exact h1) ht ?_
  exact K p l e s m args below meth c N0 aI D Qf hC hF H locs ls k n hl hlen hP hS hk hb1 hb2

set_option maxHeartbeats 4000000 in
set_option maxRecDepth 100000 in
theorem m_ret1 {X : Nat × Nat × (Nat → Int32)} {mi pc x y : Nat} {z : Int} {L : List (Option mPV)} {w : mPW} {bc bs : Nat} {Q : Option mPV → mPW → Prop} {a : Int} (hf : m_fetch mi pc = some (pc, .ireturn, x, y, z)) (hr : m_rok mi (some (.inl a))) (hc : bc = 0) (K : Q (some (.inl a)) w) : m_Sem X mi (pc, L, [.inl a], w, bc, bs) Q := by
  intro p l e s m args below meth c N0 aI D Qf hC hF H locs ls k n hl hlen hP hS hk hb1 hb2
  have hok := (m_fetch_ok hf).2
  obtain ⟨hx, hb, hml, hown, hts, hin, hK, h0, hX⟩ := id hC
  unfold m_okb at hok
  simp only [Bool.and_eq_true] at hok
  obtain ⟨hok1, hok2⟩ := hok
  dsimp only at hok1 hok2 hl hlen hP hS hk hb1 hb2
  have hdec := of_decide_eq_true hok1
  dsimp only [m_len] at hdec
  subst hc
  have hk2 : k = (m_rm mi).cells := by omega
  subst hk2
  exact hF (some (.inl a)) w H locs n pc ls K hr hP hS (Or.inr hk) (by omega) hdec

set_option maxHeartbeats 4000000 in
set_option maxRecDepth 100000 in
theorem m_ret0 {X : Nat × Nat × (Nat → Int32)} {mi pc x y : Nat} {z : Int} {L : List (Option mPV)} {w : mPW} {bc bs : Nat} {Q : Option mPV → mPW → Prop} (hf : m_fetch mi pc = some (pc, .return_, x, y, z)) (hr : m_rok mi none) (hc : bc = 0) (K : Q none w) : m_Sem X mi (pc, L, [], w, bc, bs) Q := by
  intro p l e s m args below meth c N0 aI D Qf hC hF H locs ls k n hl hlen hP hS hk hb1 hb2
  have hok := (m_fetch_ok hf).2
  obtain ⟨hx, hb, hml, hown, hts, hin, hK, h0, hX⟩ := id hC
  unfold m_okb at hok
  simp only [Bool.and_eq_true] at hok
  obtain ⟨hok1, hok2⟩ := hok
  dsimp only at hok1 hok2 hl hlen hP hS hk hb1 hb2
  have hdec := of_decide_eq_true hok1
  dsimp only [m_len] at hdec
  subst hc
  have hk2 : k = (m_rm mi).cells := by omega
  subst hk2
  exact hF none w H locs n pc ls K hr hP hS (Or.inr hk) (by omega) hdec

set_option maxHeartbeats 4000000 in
set_option maxRecDepth 100000 in
theorem m_retz {X : Nat × Nat × (Nat → Int32)} {pc x y : Nat} {z : Int} {L : List (Option mPV)} {w : mPW} {bc bs : Nat} {Q : Option mPV → mPW → Prop} {a : Int} (hf : m_fetch 0 pc = some (pc, .ireturn, x, y, z)) (hr : m_rok 0 (some (.inl a))) (K : Q (some (.inl a)) w) : m_Sem X 0 (pc, L, [.inl a], w, bc, bs) Q := by
  intro p l e s m args below meth c N0 aI D Qf hC hF H locs ls k n hl hlen hP hS hk hb1 hb2
  have hok := (m_fetch_ok hf).2
  obtain ⟨hx, hb, hml, hown, hts, hin, hK, h0, hX⟩ := id hC
  unfold m_okb at hok
  simp only [Bool.and_eq_true] at hok
  obtain ⟨hok1, hok2⟩ := hok
  dsimp only at hok1 hok2 hl hlen hP hS hk hb1 hb2
  have hdec := of_decide_eq_true hok1
  dsimp only [m_len] at hdec
  refine W.widen (show k ≤ (m_rm 0).cells by omega) (Nat.le_refl n) ?_
  exact hF (some (.inl a)) w H locs n pc ls K hr hP hS (Or.inl rfl) (by omega) hdec


def m_sub : List (Option mPV) → List (Option mPV) → Prop
  | [], [] => True
  | none :: a, _ :: b => m_sub a b
  | some v :: a, o :: b => o = some v ∧ m_sub a b
  | _, _ => False
theorem m_sub_len : ∀ {a b : List (Option mPV)}, m_sub a b → a.length = b.length
  | [], [], _ => rfl
  | none :: a, _ :: b, h => congrArg Nat.succ (m_sub_len (a := a) (b := b) h)
  | some v :: a, o :: b, h => congrArg Nat.succ (m_sub_len (a := a) (b := b) h.2)
  | [], _ :: _, h => h.elim
  | none :: _, [], h => h.elim
  | some _ :: _, [], h => h.elim
theorem m_sub_as {N0 : Nat} : ∀ {a b : List (Option mPV)} {k : Nat}, m_sub a b → ∀ q ∈ m_as N0 k a, q ∈ m_as N0 k b
  | [], [], _, _ => fun _ h => h
  | none :: a, o :: b, k, h => fun q hq => m_as_cons.mpr (Or.inr (m_sub_as (a := a) (b := b) h q hq))
  | some v :: a, o :: b, k, h => fun q hq => by
    rcases m_as_cons.mp hq with ⟨v', h1, h2⟩ | hq
    · exact m_as_cons.mpr (Or.inl ⟨v', by rw [h.1]; exact h1, h2⟩)
    · exact m_as_cons.mpr (Or.inr (m_sub_as (a := a) (b := b) h.2 q hq))
  | [], _ :: _, _, h => h.elim
  | none :: _, [], _, h => h.elim
  | some _ :: _, [], _, h => h.elim

set_option maxHeartbeats 4000000 in
set_option maxRecDepth 100000 in
theorem m_weak {X : Nat × Nat × (Nat → Int32)} {mi pc : Nat} {L : List (Option mPV)} {S : List mPV} {w : mPW} {bc bs : Nat} {Q : Option mPV → mPW → Prop} (L' : List (Option mPV)) (h : m_sub L' L) (K : m_Sem X mi (pc, L', S, w, bc, bs) Q) : m_Sem X mi (pc, L, S, w, bc, bs) Q := by
  intro p l e s m args below meth c N0 aI D Qf hC hF H locs ls k n hl hlen hP hS hk hb1 hb2
  exact K p l e s m args below meth c N0 aI D Qf hC hF H locs ls k n (m_has_mono hl (m_sub_as h)) ((m_sub_len h).trans hlen) hP hS hk hb1 hb2
theorem m_cons {X : Nat × Nat × (Nat → Int32)} {mi : Nat} {ps : mPS} {Q Q' : Option mPV → mPW → Prop} (K : m_Sem X mi ps Q) (h : ∀ r w, Q r w → Q' r w) : m_Sem X mi ps Q' := by
  intro p l e s m args below meth c N0 aI D Qf hC hF H locs ls k n hl hlen hP hS hk hb1 hb2
  exact K p l e s m args below meth c N0 aI D Qf hC (fun r w H locs n pc ls hq => hF r w H locs n pc ls (h r w hq)) H locs ls k n hl hlen hP hS hk hb1 hb2

set_option maxHeartbeats 4000000 in
set_option maxRecDepth 100000 in
theorem m_slen {b Ls : Nat} {xs : Nat → Int32} {mi pc x y : Nat} {z : Int} {L : List (Option mPV)} {S : List mPV} {w : mPW} {bc bs : Nat} {Q : Option mPV → mPW → Prop} (hf : m_fetch mi pc = some (pc, .arraylength, x, y, z)) (K : m_Sem (b, Ls, xs) mi (pc + 1, L, .inl (Ls : Int) :: S, w, bc, bs) Q) : m_Sem (b, Ls, xs) mi (pc, L, .inr (.inr (.ref b)) :: S, w, bc, bs) Q := by
  intro p l e s m args below meth c N0 aI D Qf hC hF H locs ls k n hl hlen hP hS hk hb1 hb2
  have hok := (m_fetch_ok hf).2
  obtain ⟨hx, hb, hml, hown, hts, hin, hK, h0, hX⟩ := id hC
  unfold m_okb at hok
  simp only [Bool.and_eq_true] at hok
  obtain ⟨hok1, hok2⟩ := hok
  dsimp only at hok1 hok2 hl hlen hP hS hk hb1 hb2
  have hdec := of_decide_eq_true hok1
  dsimp only [m_len] at hdec
  obtain ⟨hX1, hX2⟩ := hX
  dsimp only at hX1 hX2
  refine va_slen hx hb hX1 (show b < s.heap.size by omega) (show ¬ N0 ≤ b by omega) hS hdec ?_
  rw [show Int32.ofNat Ls = Int32.ofInt (Ls : Int) from Int32.ofInt_eq_ofNat.symm]
  exact K p l e s m args below meth c N0 aI D Qf hC hF H locs ls k n hl hlen hP hS hk hb1 hb2

set_option maxHeartbeats 4000000 in
set_option maxRecDepth 100000 in
theorem m_sld {b Ls : Nat} {xs : Nat → Int32} {mi pc x y : Nat} {z : Int} {L : List (Option mPV)} {S : List mPV} {w : mPW} {bc bs : Nat} {Q : Option mPV → mPW → Prop} {j : Int} (hf : m_fetch mi pc = some (pc, .iaload, x, y, z)) (h1 : 0 ≤ j) (h2 : j < Ls) (h3 : Ls < 2147483648) (K : m_Sem (b, Ls, xs) mi (pc + 1, L, .inl (xs j.toNat).toInt :: S, w, bc, bs) Q) : m_Sem (b, Ls, xs) mi (pc, L, .inl j :: .inr (.inr (.ref b)) :: S, w, bc, bs) Q := by
  intro p l e s m args below meth c N0 aI D Qf hC hF H locs ls k n hl hlen hP hS hk hb1 hb2
  have hok := (m_fetch_ok hf).2
  obtain ⟨hx, hb, hml, hown, hts, hin, hK, h0, hX⟩ := id hC
  unfold m_okb at hok
  simp only [Bool.and_eq_true] at hok
  obtain ⟨hok1, hok2⟩ := hok
  dsimp only at hok1 hok2 hl hlen hP hS hk hb1 hb2
  have hdec := of_decide_eq_true hok1
  dsimp only [m_len] at hdec
  obtain ⟨hX1, hX2⟩ := hX
  dsimp only at hX1 hX2
  refine va_sld hx hb hX1 (show b < s.heap.size by omega) (show ¬ N0 ≤ b by omega) hS (m_vin h1 h2 h3) hdec ?_
  rw [m_nat h1 h2 h3]
  have hv : xs j.toNat = Int32.ofInt (xs j.toNat).toInt := (Int32.ofInt_toInt _).symm
  rw [hv]
  exact K p l e s m args below meth c N0 aI D Qf hC hF H locs ls k n hl hlen hP hS hk hb1 hb2


def m_cpy (f g : Int → Int) (sp dp n : Int) : Int → Int := fun k => if dp ≤ k ∧ k < dp + n then f (sp + (k - dp)) else g k
theorem m_cpy_cv (f g : Int → Int) {sp dp n : Int} (h1 : 0 ≤ sp) (h2 : 0 ≤ dp) (h3 : 0 ≤ n) : (fun i : Nat => Int32.ofInt (m_cpy f g sp dp n (i : Int))) = va_cpy (fun i : Nat => Int32.ofInt (f (i : Int))) (fun i : Nat => Int32.ofInt (g (i : Int))) sp.toNat dp.toNat n.toNat := by
  funext i
  unfold m_cpy va_cpy
  by_cases h : dp ≤ (i : Int) ∧ (i : Int) < dp + n
  · have h' : dp.toNat ≤ i ∧ i < dp.toNat + n.toNat := by omega
    rw [if_pos h, if_pos h']
    show _ = Int32.ofInt (f ((sp.toNat + (i - dp.toNat) : Nat) : Int))
    rw [show ((sp.toNat + (i - dp.toNat) : Nat) : Int) = sp + ((i : Int) - dp) by omega]
  · have h' : ¬ (dp.toNat ≤ i ∧ i < dp.toNat + n.toNat) := by omega
    rw [if_neg h, if_neg h']

set_option maxHeartbeats 4000000 in
set_option maxRecDepth 100000 in
theorem m_acp {X : Nat × Nat × (Nat → Int32)} {mi pc y : Nat} {z : Int} {L : List (Option mPV)} {S : List mPV} {w : mPW} {bc bs : Nat} {Q : Option mPV → mPW → Prop} {i : Nat} {sp dp v : Int} {q q' a b : Nat} {f g : Int → Int} (hf : m_fetch mi pc = some (pc, .invokestatic i, 1001, y, z)) (hw : w[q]? = some (.inl (0, a, .inl f))) (hw' : w[q']? = some (.inl (0, b, .inl g))) (h1 : 0 ≤ sp) (h2 : 0 ≤ dp) (h3 : 0 ≤ v) (h4 : sp + v ≤ a) (h5 : dp + v ≤ b) (h6 : a < 2147483648) (h7 : b < 2147483648) (hr : Nat.ble 1 (m_rm mi).frames = true) (hr2 : Nat.ble ((S.map m_cat).sum + 18) (m_rm mi).locals = true) (K : m_Sem X mi (pc + 3, L, S, w.set q' (.inl (0, b, .inl (m_cpy f g sp dp v))), bc, bs) Q) : m_Sem X mi (pc, L, .inl v :: .inl dp :: .inr (.inl q') :: .inl sp :: .inr (.inl q) :: S, w, bc, bs) Q := by
  intro p l e s m args below meth c N0 aI D Qf hC hF H locs ls k n hl hlen hP hS hk hb1 hb2
  have hok := (m_fetch_ok hf).2
  obtain ⟨hx, hb, hml, hown, hts, hin, hK, h0, hX⟩ := id hC
  unfold m_okb at hok
  simp only [Bool.and_eq_true] at hok
  obtain ⟨hok1, hok2⟩ := hok
  dsimp only at hok1 hok2 hl hlen hP hS hk hb1 hb2
  have hdec := of_decide_eq_true hok1
  dsimp only [m_len] at hdec
  have hlk := m_mths_w _ (of_decide_eq_true hok2.1)
  have nn : ∀ u : Int, 0 ≤ u → m_R u → ¬ Int32.ofInt u < 0 := by
    intro u hu hR h
    have h8 := (m_R_lt hR m_R_0).mp h
    omega
  have R1 : m_R sp := ⟨by omega, by omega⟩
  have R2 : m_R dp := ⟨by omega, by omega⟩
  have R3 : m_R v := ⟨by omega, by omega⟩
  have hnw : nativeFrameWords "java/lang/System" "arraycopy" 5 ≤ 7 := by decide
  have hr2 := Nat.le_of_ble_eq_true hr2
  refine va_copyi hx hb (by rw [hml]; exact hl.1.symm) hown (hts _ hlk) (hts _ m_acp_w.1) (hts _ m_acp_w.2.1) (hts _ m_acp_w.2.2) hK hP m_cw_D hS q q' 0 0 (m_cw_at hw) (m_cw_at hw') rfl rfl rfl (nn sp h1 R1) (nn dp h2 R2) (nn v h3 R3) (by rw [m_R_nat R1, m_R_nat R3]; omega) (by rw [m_R_nat R2, m_R_nat R3]; omega) (fun _ _ => rfl) (Nat.le_of_ble_eq_true hr) (by rw [m_cats]; omega) hdec (fun H1 locs1 hP1 _ hS1 => ?_)
  have hP2 : va_P D vwCl (m_cw N0 aI 0 (w.set q' (.inl (0, b, .inl (m_cpy f g sp dp v))))) H1 := by
    rw [m_cw_set, Nat.zero_add]
    show va_P D vwCl ((m_cw N0 aI 0 w).set q' (N0 + q', .inl (aI 0, b, .inl (fun i : Nat => Int32.ofInt (m_cpy f g sp dp v (i : Int)))))) H1
    rw [m_cpy_cv f g h1 h2 h3]
    rw [m_R_nat R1, m_R_nat R2, m_R_nat R3] at hP1
    exact hP1
  exact K p l e s m args below meth c N0 aI D Qf hC hF H1 locs1 ls k n hl hlen hP2 hS1 (by rw [hk, List.length_set]) hb1 hb2


def m_ws (mi : Nat) : List Cond := Cond.code (m_y mi) (m_cd mi) (m_ml mi) (m_ret mi) :: lw_g
def m_Pc (X : Nat × Nat × (Nat → Int32)) (N0 : Nat) (aI : Nat → ClassId) (D : va_G) (as : List mPV) (w : mPW) : Array Value → State → Prop := fun a U => a = (as.map (m_cv N0)).toArray ∧ va_P D vwCl (m_cw N0 aI 0 w) U.heap ∧ U.heap.size = N0 + w.length ∧ va_K D vwCl (m_tys aI) U ∧ va_X X.1 X.2.1 X.2.2 U U.heap ∧ X.1 < N0
def m_Qc (mi N0 : Nat) (aI : Nat → ClassId) (D : va_G) (w : mPW) (Q : Option mPV → mPW → Prop) : Array Value → State → Outcome → State → Prop := fun _ st oc t => ∃ (r : Option mPV) (w' : mPW), Q r w' ∧ m_rok mi r ∧ oc = .returned (r.map (m_cv N0)) ∧ va_P D vwCl (m_cw N0 aI 0 w') t.heap ∧ w'.length = w.length + (m_rm mi).cells ∧ va_F (fun q => N0 ≤ q) st t
/-- a method's run from its entry -/
def m_Run (X : Nat × Nat × (Nat → Int32)) (mi : Nat) (as : List mPV) (w : mPW) (Q : Option mPV → mPW → Prop) : Prop := m_Sem X mi (0, m_ent as (m_ml mi), [], w, (m_rm mi).cells, (m_rm mi).slots) Q
theorem m_ofW {l : Launch} {y : MethodName} {ws ws' : List Cond} {rm : Room} {Pc : Array Value → State → Prop} {Qc : Array Value → State → Outcome → State → Prop} {mc ms : Nat} {free : Addr → Prop} {cc : ByteArray} {maxL : Nat} {ret : Option FieldType}
    (hy : plainFor y = true) (hw : ws = Cond.code y cc maxL ret :: ws')
    (body : ∀ p e s m args below meth c s₁, BodyLoose p l y (headSpec ws rm) cc maxL ret e s m args below meth c s₁ → c.maxLocals = maxL → Pc args s →
      W p l e (headSpec ws rm).room s m args below meth c s.heap [] 0 0 (MQ below Qc args s mc ms free) (entryFrame m args maxL)) : Met l y ws rm Pc Qc mc ms free := by
  refine MetFree.of_bodySF (code := cc) (maxLocals := maxL) (ret := ret) hy ?_ ?_
  · intro args s m h hn
    obtain ⟨meth, c, h1, h2, h3, h4, h5, h6, -, -⟩ := Cond.code_spec hn (atoms_spec (ws := ws) h _ (by rw [hw]; exact List.mem_cons_self))
    exact ⟨meth, c, h1, h2, h3, h4, h5, h6⟩
  · intro p e s m args below meth c s₁ B hml hP _
    have hh0 : s₁.heap = s.heap := by rw [B.state]; rfl
    obtain ⟨t, a1, o, b1, b2, b3⟩ := body p e s m args below meth c s₁ B hml hP s₁ hh0 (Stand.of_body B)
    exact ⟨t, o, a1, b1, b2, ⟨b3.1, b3.2⟩⟩
theorem m_blind {X : Nat × Nat × (Nat → Int32)} {N0 : Nat} {aI : Nat → ClassId} {D : va_G} {as : List mPV} {w : mPW} : FrameBlind (m_Pc X N0 aI D as w) := fun a U g mk h => ⟨h.1, h.2.1, h.2.2.1, va_K.moved (u := U) (U := U.calling g mk a) (Vm.Alike.refl U.vm) h.2.2.2.1, va_X.moved (u := U) (U := U.calling g mk a) (Vm.Alike.refl U.vm) h.2.2.2.2.1, h.2.2.2.2.2⟩

set_option maxHeartbeats 4000000 in
set_option maxRecDepth 100000 in
theorem m_met {X : Nat × Nat × (Nat → Int32)} {mi : Nat} {as : List mPV} {w : mPW} {Q : Option mPV → mPW → Prop} (l : Launch) (N0 : Nat) (aI : Nat → ClassId) (D : va_G) (h0 : 0 < mi) (h1 : mi < 62) (hwd : m_words as ≤ m_ml mi) (hr : m_Run X mi as w Q) : Met l (m_y mi) (m_ws mi) (m_rm mi) (m_Pc X N0 aI D as w) (m_Qc mi N0 aI D w Q) (m_rm mi).cells (m_rm mi).slots (fun q => N0 ≤ q) := by
  obtain ⟨g1, g2, g3, g4, g5, g6, ⟨g7, -, -, -⟩, g8⟩ := m_met_w mi h0 h1
  refine m_ofW (cc := m_cd mi) (maxL := m_ml mi) (ret := m_ret mi) g8 rfl ?_
  intro p e s m args below meth c s₁ B hml hv
  obtain ⟨rfl, hP, hz, hK, hX9⟩ := hv
  have hx := B.exec
  have hb := B.bytes
  have hret := B.returns
  have hts0 := atoms_spec (ws := m_ws mi) B.pre
  have hts : ∀ w ∈ lw_g, w.before _ s = true := fun w hw => hts0 w (List.mem_cons_of_mem _ hw)
  have hown : s.vm.findClass (m_y mi).cls = some m.cls := findClass_of_methodNamed B.named
  have hlocks := B.notSynchronized
  rw [g7] at hown
  obtain ⟨ls, hls, hl⟩ := m_entry (N0 := N0) as hwd
  rw [hls]
  refine hr p l e s m _ below meth c N0 aI D _ ⟨hx, hb, hml, hown, hts, fun hk => ?_, hK, by omega, hX9⟩ ?_ s.heap [] ls 0 0 hl (m_ent_len as _ hwd) hP va_S.rf (by show s.heap.size + 0 = N0 + w.length; omega) (by show 0 + (m_rm mi).cells = _; omega) (by show 0 + (m_rm mi).slots ≤ _; omega)
  · rw [(name_of_methodNamed B.named B.method).1]
    exact (g6 hk).1
  · intro r w' H locs n pc ls hq hrok hP' hS hk hn hdec
    have hk : s.heap.size + (m_rm mi).cells = N0 + w'.length := hk.resolve_left (by omega)
    refine W.widen (Nat.le_refl _) hn ?_
    have hend : ∀ t : State, t.heap = H → m_Qc mi N0 aI D w Q (as.map (m_cv N0)).toArray s (.returned (r.map (m_cv N0))) t := fun t ht => ⟨r, w', hq, hrok, rfl, by rw [ht]; exact hP', by omega, hS.F ht⟩
    rcases r with _ | v
    · have hr0 : m_ret mi = none := hrok
      exact W.vret hx hb (hret.trans hr0) (fun t ht _ => hend t ht) hS.2.2 hdec
    · rcases v with a | v
      · rcases (show m_ret mi = some .int ∨ (m_ret mi = some .boolean ∧ (a = 0 ∨ a = 1)) from hrok) with hr1 | ⟨hr1, ha⟩
        · exact W.iret hx hb (hret.trans hr1) (fun t ht _ => hend t ht) hS.2.2 hdec
        · exact W.zret hx hb (hret.trans hr1) (by rcases ha with rfl | rfl <;> rfl) (fun t ht _ => hend t ht) hS.2.2 hdec
      · exact absurd hrok id
theorem m_back {p : Program} {l : Launch} {e : Env} {R : Room} {s : State} {m : MethodId} {args : Array Value} {below : List Frame} {meth : Method} {c : Code} {H : Heap} {locs : List Loc} {k n mc ms pc mi N0 : Nat} {ls : Array Slot} {st0 rest : List Value} {aI : Nat → ClassId} {D : va_G} {w : mPW} {Q' : Option mPV → mPW → Prop} {a : Array Value} {Qf : State → Prop}
    (hr : va_Run p l e R s m args below meth c H locs k n mc ms (F0 m pc ls st0) rest (m_Qc mi N0 aI D w Q' a) (fun q => N0 ≤ q)) (hS : va_S (fun q => N0 ≤ q) s.heap H locs)
    (kk : ∀ (r : Option mPV) (w1 : mPW) (H1 : Heap) (locs1 : List Loc), Q' r w1 → m_rok mi r → va_P D vwCl (m_cw N0 aI 0 w1) H1 → va_S (fun q => N0 ≤ q) s.heap H1 locs1 → w1.length = w.length + (m_rm mi).cells → W p l e R s m args below meth c H1 locs1 (k + mc) (n + ms) Qf (F0 m (pc + 3) ls ((r.map (m_cv N0)).toList ++ rest))) : W p l e R s m args below meth c H locs k n Qf (F0 m pc ls st0) := by
  intro T hT X
  obtain ⟨v, st₀, t, T', L, h0, X', hL, e1, e2, ⟨r, w1, hq1, hrok, hv, hP1, hlen1, hz, hk⟩, st⟩ := hr T hT X
  have hv := Outcome.returned.inj hv
  subst hv
  rw [h0] at hz hk
  obtain ⟨t2, a1, b1⟩ := kk r w1 T'.heap (locs ++ L) hq1 hrok (by rw [e1]; exact hP1) ⟨Nat.le_trans hS.1 (by rw [e1]; exact hz), fun q h1 h2 => by rw [e1, hk q (Nat.lt_of_lt_of_le h1 hS.1) h2]; exact hS.2.1 q h1 h2, fun q hq => by
      rcases List.mem_append.mp hq with h | h
      · exact hS.2.2 q h
      · exact hL q h⟩ hlen1 T' rfl X'
  exact ⟨t2, st t2 a1, b1⟩
theorem m_good {ws : List Cond} (h : ∀ w ∈ ws, w ∈ lw_g) : GoodIn lw_g ws := fun w hw => ⟨h w hw, good_of_word (List.mem_filter.mp (h w hw)).2⟩
theorem m_ws_in {mi : Nat} (h0 : 0 < mi) (h1 : mi < 62) : ∀ w ∈ m_ws mi, w ∈ lw_g := by
  intro w hw
  rcases List.mem_cons.mp hw with rfl | hw
  · exact (m_met_w mi h0 h1).1
  · exact hw
/-- what a call asks of the room, by numbers -/
def m_cok (mi mi' na nw : Nat) (S : List mPV) (bc bs : Nat) : Bool :=
  (Nat.ble ((m_rm mi').frames + 1) (m_rm mi).frames && Nat.ble (8 + (m_ml mi' + 11) + (m_rm mi').locals) (m_rm mi).locals) && ((Nat.ble ((S.map m_cat).sum) 8 && Nat.ble nw (m_ml mi')) && ((Nat.beq na (m_np mi') && Nat.blt mi' 62) && (Nat.ble (m_rm mi').cells bc && Nat.ble (m_rm mi').slots bs)))
theorem m_cok_ok {mi mi' na nw : Nat} {S : List mPV} {bc bs : Nat} (h : m_cok mi mi' na nw S bc bs = true) : ((m_rm mi').frames + 1 ≤ (m_rm mi).frames ∧ 8 + (m_ml mi' + 11) + (m_rm mi').locals ≤ (m_rm mi).locals) ∧ (S.map m_cat).sum ≤ 8 ∧ nw ≤ m_ml mi' ∧ na = m_np mi' ∧ mi' < 62 ∧ (m_rm mi').cells ≤ bc ∧ (m_rm mi').slots ≤ bs := by
  unfold m_cok at h
  simp only [Bool.and_eq_true] at h
  obtain ⟨⟨h1, h2⟩, ⟨h3, h4⟩, ⟨h5, h6⟩, h7, h8⟩ := h
  exact ⟨⟨Nat.le_of_ble_eq_true h1, Nat.le_of_ble_eq_true h2⟩, Nat.le_of_ble_eq_true h3, Nat.le_of_ble_eq_true h4, Nat.eq_of_beq_eq_true h5, Nat.le_of_ble_eq_true h6, Nat.le_of_ble_eq_true h7, Nat.le_of_ble_eq_true h8⟩

set_option maxHeartbeats 4000000 in
set_option maxRecDepth 100000 in
theorem m_callV {X : Nat × Nat × (Nat → Int32)} {mi pc i mi' y : Nat} {z : Int} {L : List (Option mPV)} {S : List mPV} {w : mPW} {bc bs : Nat} {Q Q' : Option mPV → mPW → Prop} {q ci : Nat} {fs : List mPV} (as S' : List mPV) (hf : m_fetch mi pc = some (pc, .invokevirtual i, mi', y, z)) (hw : w[q]? = some (.inr (ci, fs))) (hc : ∃ r : vw_C, vwCl[ci]? = some r ∧ r.1 = (m_y mi').cls) (hst : S = as.reverse ++ .inr (.inl q) :: S') (hok0 : m_cok mi mi' as.length (m_words (.inr (.inl q) :: as)) S' bc bs = true) (C : m_Run X mi' (.inr (.inl q) :: as) w Q') (K : ∀ r w1, Q' r w1 → m_rok mi' r → m_Sem X mi (pc + 3, L, r.toList ++ S', w1, bc - (m_rm mi').cells, bs - (m_rm mi').slots) Q) : m_Sem X mi (pc, L, S, w, bc, bs) Q := by
  intro p l e s m args below meth c N0 aI D Qf hC hF H locs ls k n hl hlen hP hS hk hb1 hb2
  have hok := (m_fetch_ok hf).2
  obtain ⟨hx, hb, hml, hown, hts, hin, hK, h0, hX⟩ := id hC
  unfold m_okb at hok
  simp only [Bool.and_eq_true] at hok
  obtain ⟨hok1, hok2⟩ := hok
  dsimp only at hok1 hok2 hl hlen hP hS hk hb1 hb2
  have hdec := of_decide_eq_true hok1
  dsimp only [m_len] at hdec
  obtain ⟨hr1, hr2, hr3, hr4, hr5, hr6, hr7⟩ := m_cok_ok hok0
  have hlk := m_mths_w _ (of_decide_eq_true hok2.1)
  have hkd := of_decide_eq_true hok2.2
  have hkk : 0 < mi' ∧ m_kind mi' = 1 := ⟨hkd.2.1, hkd.2.2⟩
  have hlk : Cond.methodLink (m_own mi) i (m_y mi') ∈ lw_g := by
    have h : Cond.methodLink (m_own mi) i (m_yy mi') ∈ lw_g := hlk
    unfold m_yy at h
    rw [if_pos (by omega)] at h
    exact h
  obtain ⟨g1, g2, g3, g4, g5, g6, ⟨g7, g9, g10, g11⟩, g8⟩ := m_met_w mi' hkk.1 hr5
  intro T hT XT
  subst hT
  have hz := m_size (X := X) (mi := mi) h0 hP hS hk XT
  suffices key : W p l e (m_rm mi) s m args below meth c T.heap locs k n Qf (F0 m pc ls (S.map (m_cv N0))) from key T rfl XT
  have cw : CallW (m_rm mi) s args (m_own mi) (m_y mi').cls i (m_y mi') (m_cd mi') (m_ml mi') (m_ret mi') (m_ws mi') (m_rm mi') (m_rm mi').cells (m_rm mi').slots (m_np mi') := cwV (m_np mi') hts (m_good (fun w hw => by
    rcases List.mem_append.mp (show w ∈ ([.methodLink (m_own mi) i (m_y mi'), .instanceMethod (m_y mi'), .selects (m_y mi').cls (m_y mi') (m_y mi'), .initialized (m_y mi').cls] : List Cond) ++ m_ws mi' from hw) with hw | hw
    · simp only [List.mem_cons, List.not_mem_nil, or_false] at hw
      rcases hw with rfl | rfl | rfl | rfl
      · exact hlk
      · exact g4 (by omega)
      · exact g5 hkk.2
      · exact g2
    · exact m_ws_in hkk.1 hr5 w hw)) rfl rfl rfl ⟨rfl, g9, g10, g11⟩ hr1
  obtain ⟨rr, hc1, hc2⟩ := hc
  have hrecv := va_recv hK hP hc1 (m_cw_at hw)
  rw [hc2] at hrecv
  refine m_back (va_runV (b := N0 + q) (As := as.map (m_cv N0)) (rest := S'.map (m_cv N0)) ⟨hx, hb, hml, hown, hts⟩ (m_met l N0 aI D hkk.1 hr5 hr3 C) cw ⟨m_blind, hrecv, fun U hU hW => ⟨rfl, by rw [hU]; exact hP, by rw [hU]; exact hz, va_K.moved hW.alike hK, by rw [hU]; exact (hX.1.kept (hS.2.1 _ (Nat.lt_of_lt_of_le hX.2 h0) (Nat.not_le.mpr hX.2))).moved hW.alike, hX.2⟩⟩ rfl (by rw [List.length_map]; exact hr4) hl.1 (by rw [hst]; show (List.map (m_cv N0) _) = _; simp [List.map_append, List.map_reverse, m_cv]) (by show 2 * 0 + _ ≤ 8; rw [m_cats]; omega) hdec ⟨by omega, by omega⟩) hS ?_
  intro r w1 H1 locs1 hq hrok hP1 hS1 hlen1
  have hst2 : (r.map (m_cv N0)).toList ++ S'.map (m_cv N0) = (r.toList ++ S').map (m_cv N0) := by cases r <;> rfl
  rw [hst2]
  exact K r w1 hq hrok p l e s m args below meth c N0 aI D Qf hC hF H1 locs1 ls (k + (m_rm mi').cells) (n + (m_rm mi').slots) hl hlen hP1 hS1 (by rw [hlen1]; omega) (by show k + (m_rm mi').cells + (bc - (m_rm mi').cells) = _; omega) (by show n + (m_rm mi').slots + (bs - (m_rm mi').slots) ≤ _; omega)

set_option maxHeartbeats 4000000 in
set_option maxRecDepth 100000 in
theorem m_callS {X : Nat × Nat × (Nat → Int32)} {mi pc i mi' y : Nat} {z : Int} {L : List (Option mPV)} {S : List mPV} {w : mPW} {bc bs : Nat} {Q Q' : Option mPV → mPW → Prop} (as S' : List mPV) (hf : m_fetch mi pc = some (pc, .invokestatic i, mi', y, z)) (hst : S = as.reverse ++ S') (hok0 : m_cok mi mi' as.length (m_words as) S' bc bs = true) (C : m_Run X mi' as w Q') (K : ∀ r w1, Q' r w1 → m_rok mi' r → m_Sem X mi (pc + 3, L, r.toList ++ S', w1, bc - (m_rm mi').cells, bs - (m_rm mi').slots) Q) : m_Sem X mi (pc, L, S, w, bc, bs) Q := by
  intro p l e s m args below meth c N0 aI D Qf hC hF H locs ls k n hl hlen hP hS hk hb1 hb2
  have hok := (m_fetch_ok hf).2
  obtain ⟨hx, hb, hml, hown, hts, hin, hK, h0, hX⟩ := id hC
  unfold m_okb at hok
  simp only [Bool.and_eq_true] at hok
  obtain ⟨hok1, hok2⟩ := hok
  dsimp only at hok1 hok2 hl hlen hP hS hk hb1 hb2
  have hdec := of_decide_eq_true hok1
  dsimp only [m_len] at hdec
  obtain ⟨hr1, hr2, hr3, hr4, hr5, hr6, hr7⟩ := m_cok_ok hok0
  have hlk := m_mths_w _ (of_decide_eq_true hok2.1)
  have hkd := of_decide_eq_true hok2.2
  have hkk : 0 < mi' ∧ m_kind mi' = 0 := by
    rcases hkd with h | h | h
    · omega
    · omega
    · exact ⟨h.2.1, h.2.2⟩
  have hlk : Cond.methodLink (m_own mi) i (m_y mi') ∈ lw_g := by
    have h : Cond.methodLink (m_own mi) i (m_yy mi') ∈ lw_g := hlk
    unfold m_yy at h
    rw [if_pos (by omega)] at h
    exact h
  obtain ⟨g1, g2, g3, g4, g5, g6, ⟨g7, g9, g10, g11⟩, g8⟩ := m_met_w mi' hkk.1 hr5
  intro T hT XT
  subst hT
  have hz := m_size (X := X) (mi := mi) h0 hP hS hk XT
  suffices key : W p l e (m_rm mi) s m args below meth c T.heap locs k n Qf (F0 m pc ls (S.map (m_cv N0))) from key T rfl XT
  have cw : CallB (m_rm mi) s args (m_own mi) i (m_y mi') (m_cd mi') (m_ml mi') (m_ret mi') (m_ws mi') (m_rm mi') (m_rm mi').cells (m_rm mi').slots (m_np mi') ∧ (Cond.static (m_y mi')).before args s = true := ⟨callB_of (m_np mi') hts (m_good (m_ws_in hkk.1 hr5)) rfl rfl rfl (hts _ g2) (hts _ hlk) ⟨g9, g10, g11⟩ hr1, hts _ (g3 hkk.2)⟩
  refine m_back (va_runS (As := as.map (m_cv N0)) (rest := S'.map (m_cv N0)) ⟨hx, hb, hml, hown, hts⟩ (m_met l N0 aI D hkk.1 hr5 hr3 C) cw ⟨m_blind, fun U hU hW => ⟨rfl, by rw [hU]; exact hP, by rw [hU]; exact hz, va_K.moved hW.alike hK, by rw [hU]; exact (hX.1.kept (hS.2.1 _ (Nat.lt_of_lt_of_le hX.2 h0) (Nat.not_le.mpr hX.2))).moved hW.alike, hX.2⟩⟩ rfl (by rw [List.length_map]; exact hr4) hl.1 (by rw [hst]; show (List.map (m_cv N0) _) = _; simp [List.map_append, List.map_reverse, m_cv]) (by show 2 * 0 + _ ≤ 8; rw [m_cats]; omega) hdec ⟨by omega, by omega⟩) hS ?_
  intro r w1 H1 locs1 hq hrok hP1 hS1 hlen1
  have hst2 : (r.map (m_cv N0)).toList ++ S'.map (m_cv N0) = (r.toList ++ S').map (m_cv N0) := by cases r <;> rfl
  rw [hst2]
  exact K r w1 hq hrok p l e s m args below meth c N0 aI D Qf hC hF H1 locs1 ls (k + (m_rm mi').cells) (n + (m_rm mi').slots) hl hlen hP1 hS1 (by rw [hlen1]; omega) (by show k + (m_rm mi').cells + (bc - (m_rm mi').cells) = _; omega) (by show n + (m_rm mi').slots + (bs - (m_rm mi').slots) ≤ _; omega)

set_option maxHeartbeats 4000000 in
set_option maxRecDepth 100000 in
theorem m_callI {X : Nat × Nat × (Nat → Int32)} {mi pc i mi' y : Nat} {z : Int} {L : List (Option mPV)} {S : List mPV} {w : mPW} {bc bs : Nat} {Q Q' : Option mPV → mPW → Prop} {q : Nat} (as S' : List mPV) (hf : m_fetch mi pc = some (pc, .invokespecial i, mi', y, z)) (hst : S = as.reverse ++ .inr (.inl q) :: S') (hok0 : m_cok mi mi' as.length (m_words (.inr (.inl q) :: as)) S' bc bs = true) (C : m_Run X mi' (.inr (.inl q) :: as) w Q') (K : ∀ r w1, Q' r w1 → m_rok mi' r → m_Sem X mi (pc + 3, L, r.toList ++ S', w1, bc - (m_rm mi').cells, bs - (m_rm mi').slots) Q) : m_Sem X mi (pc, L, S, w, bc, bs) Q := by
  intro p l e s m args below meth c N0 aI D Qf hC hF H locs ls k n hl hlen hP hS hk hb1 hb2
  have hok := (m_fetch_ok hf).2
  obtain ⟨hx, hb, hml, hown, hts, hin, hK, h0, hX⟩ := id hC
  unfold m_okb at hok
  simp only [Bool.and_eq_true] at hok
  obtain ⟨hok1, hok2⟩ := hok
  dsimp only at hok1 hok2 hl hlen hP hS hk hb1 hb2
  have hdec := of_decide_eq_true hok1
  dsimp only [m_len] at hdec
  obtain ⟨hr1, hr2, hr3, hr4, hr5, hr6, hr7⟩ := m_cok_ok hok0
  have hlk := m_mths_w _ (of_decide_eq_true hok2.1)
  have hkd := of_decide_eq_true hok2.2
  have hkk : 0 < mi' ∧ m_kind mi' = 2 := by
    rcases hkd with h | h
    · omega
    · exact ⟨h.2.1, h.2.2⟩
  have hlk : Cond.methodLink (m_own mi) i (m_y mi') ∈ lw_g := by
    have h : Cond.methodLink (m_own mi) i (m_yy mi') ∈ lw_g := hlk
    unfold m_yy at h
    rw [if_pos (by omega)] at h
    exact h
  obtain ⟨g1, g2, g3, g4, g5, g6, ⟨g7, g9, g10, g11⟩, g8⟩ := m_met_w mi' hkk.1 hr5
  intro T hT XT
  subst hT
  have hz := m_size (X := X) (mi := mi) h0 hP hS hk XT
  suffices key : W p l e (m_rm mi) s m args below meth c T.heap locs k n Qf (F0 m pc ls (S.map (m_cv N0))) from key T rfl XT
  have hret := (g6 hkk.2).2
  have cw : CallB (m_rm mi) s args (m_own mi) i (m_y mi') (m_cd mi') (m_ml mi') none (m_ws mi') (m_rm mi') (m_rm mi').cells (m_rm mi').slots (m_np mi') ∧ (m_y mi').name = "<init>" ∧ (Cond.instanceMethod (m_y mi')).before args s = true := cwI (m_np mi') hts (m_good (m_ws_in hkk.1 hr5)) (by unfold m_ws; rw [hret]) rfl rfl (hts _ g2) (hts _ hlk) (hts _ (g4 (by omega))) (g6 hkk.2).1 ⟨g9, g10, g11⟩ hr1
  refine m_back (va_runI (b := N0 + q) (As := as.map (m_cv N0)) (rest := S'.map (m_cv N0)) ⟨hx, hb, hml, hown, hts⟩ (m_met l N0 aI D hkk.1 hr5 hr3 C) cw ⟨m_blind, fun U hU hW => ⟨rfl, by rw [hU]; exact hP, by rw [hU]; exact hz, va_K.moved hW.alike hK, by rw [hU]; exact (hX.1.kept (hS.2.1 _ (Nat.lt_of_lt_of_le hX.2 h0) (Nat.not_le.mpr hX.2))).moved hW.alike, hX.2⟩⟩ rfl (by rw [List.length_map]; exact hr4) hl.1 (by rw [hst]; show (List.map (m_cv N0) _) = _; simp [List.map_append, List.map_reverse, m_cv]) (by show 2 * 0 + _ ≤ 8; rw [m_cats]; omega) hdec ⟨by omega, by omega⟩) hS ?_
  intro r w1 H1 locs1 hq hrok hP1 hS1 hlen1
  have hst2 : (r.map (m_cv N0)).toList ++ S'.map (m_cv N0) = (r.toList ++ S').map (m_cv N0) := by cases r <;> rfl
  rw [hst2]
  exact K r w1 hq hrok p l e s m args below meth c N0 aI D Qf hC hF H1 locs1 ls (k + (m_rm mi').cells) (n + (m_rm mi').slots) hl hlen hP1 hS1 (by rw [hlen1]; omega) (by show k + (m_rm mi').cells + (bc - (m_rm mi').cells) = _; omega) (by show n + (m_rm mi').slots + (bs - (m_rm mi').slots) ≤ _; omega)

set_option maxHeartbeats 4000000 in
set_option maxRecDepth 100000 in
theorem m_callS2 {X : Nat × Nat × (Nat → Int32)} {mi pc i mi' mi0 y : Nat} {z : Int} {L : List (Option mPV)} {S : List mPV} {w : mPW} {bc bs : Nat} {Q Q' : Option mPV → mPW → Prop} (as S' : List mPV) (hf : m_fetch mi pc = some (pc, .invokestatic i, mi0, y, z)) (h90 : m_y mi' = m_y mi0) (h91 : mi0 < 1000) (h92 : 0 < mi' ∧ m_kind mi' = 0) (hst : S = as.reverse ++ S') (hok0 : m_cok mi mi' as.length (m_words as) S' bc bs = true) (C : m_Run X mi' as w Q') (K : ∀ r w1, Q' r w1 → m_rok mi' r → m_Sem X mi (pc + 3, L, r.toList ++ S', w1, bc - (m_rm mi').cells, bs - (m_rm mi').slots) Q) : m_Sem X mi (pc, L, S, w, bc, bs) Q := by
  intro p l e s m args below meth c N0 aI D Qf hC hF H locs ls k n hl hlen hP hS hk hb1 hb2
  have hok := (m_fetch_ok hf).2
  obtain ⟨hx, hb, hml, hown, hts, hin, hK, h0, hX⟩ := id hC
  unfold m_okb at hok
  simp only [Bool.and_eq_true] at hok
  obtain ⟨hok1, hok2⟩ := hok
  dsimp only at hok1 hok2 hl hlen hP hS hk hb1 hb2
  have hdec := of_decide_eq_true hok1
  dsimp only [m_len] at hdec
  obtain ⟨hr1, hr2, hr3, hr4, hr5, hr6, hr7⟩ := m_cok_ok hok0
  have hlk := m_mths_w _ (of_decide_eq_true hok2.1)
  have hkd := of_decide_eq_true hok2.2
  have hkk := h92
  have hlk : Cond.methodLink (m_own mi) i (m_y mi') ∈ lw_g := by
    have h : Cond.methodLink (m_own mi) i (m_yy mi0) ∈ lw_g := hlk
    unfold m_yy at h
    rw [if_pos h91] at h
    rw [h90]
    exact h
  obtain ⟨g1, g2, g3, g4, g5, g6, ⟨g7, g9, g10, g11⟩, g8⟩ := m_met_w mi' hkk.1 hr5
  intro T hT XT
  subst hT
  have hz := m_size (X := X) (mi := mi) h0 hP hS hk XT
  suffices key : W p l e (m_rm mi) s m args below meth c T.heap locs k n Qf (F0 m pc ls (S.map (m_cv N0))) from key T rfl XT
  have cw : CallB (m_rm mi) s args (m_own mi) i (m_y mi') (m_cd mi') (m_ml mi') (m_ret mi') (m_ws mi') (m_rm mi') (m_rm mi').cells (m_rm mi').slots (m_np mi') ∧ (Cond.static (m_y mi')).before args s = true := ⟨callB_of (m_np mi') hts (m_good (m_ws_in hkk.1 hr5)) rfl rfl rfl (hts _ g2) (hts _ hlk) ⟨g9, g10, g11⟩ hr1, hts _ (g3 hkk.2)⟩
  refine m_back (va_runS (As := as.map (m_cv N0)) (rest := S'.map (m_cv N0)) ⟨hx, hb, hml, hown, hts⟩ (m_met l N0 aI D hkk.1 hr5 hr3 C) cw ⟨m_blind, fun U hU hW => ⟨rfl, by rw [hU]; exact hP, by rw [hU]; exact hz, va_K.moved hW.alike hK, by rw [hU]; exact (hX.1.kept (hS.2.1 _ (Nat.lt_of_lt_of_le hX.2 h0) (Nat.not_le.mpr hX.2))).moved hW.alike, hX.2⟩⟩ rfl (by rw [List.length_map]; exact hr4) hl.1 (by rw [hst]; show (List.map (m_cv N0) _) = _; simp [List.map_append, List.map_reverse, m_cv]) (by show 2 * 0 + _ ≤ 8; rw [m_cats]; omega) hdec ⟨by omega, by omega⟩) hS ?_
  intro r w1 H1 locs1 hq hrok hP1 hS1 hlen1
  have hst2 : (r.map (m_cv N0)).toList ++ S'.map (m_cv N0) = (r.toList ++ S').map (m_cv N0) := by cases r <;> rfl
  rw [hst2]
  exact K r w1 hq hrok p l e s m args below meth c N0 aI D Qf hC hF H1 locs1 ls (k + (m_rm mi').cells) (n + (m_rm mi').slots) hl hlen hP1 hS1 (by rw [hlen1]; omega) (by show k + (m_rm mi').cells + (bc - (m_rm mi').cells) = _; omega) (by show n + (m_rm mi').slots + (bs - (m_rm mi').slots) ≤ _; omega)
end
section
/-! The world of one run: the class's thirteen cells, then the law's own. Truth values, ends of calls, loops. -/
def bI (b : Bool) : Int := bif b then 1 else 0
theorem bI_e0 {b : Bool} : bI b = 0 ↔ b = false := by cases b <;> decide
theorem bI_n0 {b : Bool} : ¬ bI b = 0 ↔ b = true := by cases b <;> decide
theorem bI_01 (b : Bool) : bI b = 0 ∨ bI b = 1 := by cases b <;> decide
theorem bI_R (b : Bool) : m_R (bI b) := by cases b <;> exact ⟨by decide, by decide⟩
abbrev HS : Type := Int × (Int → Int) × (Int → Int)
abbrev TS : Type := Int × (Int → Int)
abbrev XS : Type := (Int → Int) × (Int → Int) × (Int → Int) × Int × Int × Int
abbrev CS : Type := Int × (Int → Int) × HS × TS × XS
/-- the cells that the class does not have: the law's own -/
abbrev MS : Type := mPW
def mW (c : CS) (m : MS) : mPW :=
  .inr (5, [.inr (.inl 1), .inr (.inl 2), .inr (.inl 4), .inr (.inl 7), .inr (.inl 9)]) ::
   .inr (2, [.inr (.inl 2)]) ::
   .inr (3, [.inl c.1, .inr (.inl 3)]) ::
   .inl (0, 81, .inl c.2.1) ::
   .inr (0, [.inr (.inl 5), .inr (.inl 6), .inl c.2.2.1.1]) ::
   .inl (0, 4, .inl c.2.2.1.2.1) ::
   .inl (0, 324, .inl c.2.2.1.2.2) ::
   .inr (4, [.inr (.inl 8), .inl c.2.2.2.1.1]) ::
   .inl (1, 60, .inl c.2.2.2.1.2) ::
   .inr (1, [.inr (.inl 10), .inr (.inl 11), .inr (.inl 12), .inl c.2.2.2.2.2.2.2.1, .inl c.2.2.2.2.2.2.2.2.1, .inl c.2.2.2.2.2.2.2.2.2]) ::
   .inl (0, 91, .inl c.2.2.2.2.1) ::
   .inl (0, 91, .inl c.2.2.2.2.2.1) ::
   .inl (0, 91, .inl c.2.2.2.2.2.2.1) :: m
def m_V (v : Int) (w' : mPW) : Option mPV → mPW → Prop := fun r w => r = some (.inl v) ∧ w = w'
def m_U (w' : mPW) : Option mPV → mPW → Prop := fun r w => r = none ∧ w = w'
theorem m_Vi {v a : Int} {w : mPW} (h : a = v) : m_V v w (some (.inl a)) w := ⟨by rw [h], rfl⟩
theorem m_Vw {v a : Int} {w w' : mPW} (h : a = v) (hw : w = w') : m_V v w' (some (.inl a)) w := ⟨by rw [h], hw⟩
theorem m_callVF {X : Nat × Nat × (Nat → Int32)} {mi pc i mi' y : Nat} {z : Int} {L : List (Option mPV)} {S : List mPV} {w w1 : mPW} {bc bs : Nat} {Q : Option mPV → mPW → Prop} {v : Int} {q ci : Nat} {fs : List mPV} (as S' : List mPV) (hf : m_fetch mi pc = some (pc, .invokevirtual i, mi', y, z)) (hw : w[q]? = some (.inr (ci, fs))) (hc : ∃ r : vw_C, vwCl[ci]? = some r ∧ r.1 = (m_y mi').cls) (hst : S = as.reverse ++ .inr (.inl q) :: S') (hok0 : m_cok mi mi' as.length (m_words (.inr (.inl q) :: as)) S' bc bs = true) (C : m_Run X mi' (.inr (.inl q) :: as) w (m_V v w1)) (K : m_Sem X mi (pc + 3, L, .inl v :: S', w1, bc - (m_rm mi').cells, bs - (m_rm mi').slots) Q) : m_Sem X mi (pc, L, S, w, bc, bs) Q :=
  m_callV as S' hf hw hc hst hok0 C (fun r w2 hq _ => by obtain ⟨rfl, rfl⟩ := hq; exact K)
theorem m_callVU {X : Nat × Nat × (Nat → Int32)} {mi pc i mi' y : Nat} {z : Int} {L : List (Option mPV)} {S : List mPV} {w w1 : mPW} {bc bs : Nat} {Q : Option mPV → mPW → Prop} {q ci : Nat} {fs : List mPV} (as S' : List mPV) (hf : m_fetch mi pc = some (pc, .invokevirtual i, mi', y, z)) (hw : w[q]? = some (.inr (ci, fs))) (hc : ∃ r : vw_C, vwCl[ci]? = some r ∧ r.1 = (m_y mi').cls) (hst : S = as.reverse ++ .inr (.inl q) :: S') (hok0 : m_cok mi mi' as.length (m_words (.inr (.inl q) :: as)) S' bc bs = true) (C : m_Run X mi' (.inr (.inl q) :: as) w (m_U w1)) (K : m_Sem X mi (pc + 3, L, S', w1, bc - (m_rm mi').cells, bs - (m_rm mi').slots) Q) : m_Sem X mi (pc, L, S, w, bc, bs) Q :=
  m_callV as S' hf hw hc hst hok0 C (fun r w2 hq _ => by obtain ⟨rfl, rfl⟩ := hq; exact K)
theorem m_callSF {X : Nat × Nat × (Nat → Int32)} {mi pc i mi' y : Nat} {z : Int} {L : List (Option mPV)} {S : List mPV} {w w1 : mPW} {bc bs : Nat} {Q : Option mPV → mPW → Prop} {v : Int} (as S' : List mPV) (hf : m_fetch mi pc = some (pc, .invokestatic i, mi', y, z)) (hst : S = as.reverse ++ S') (hok0 : m_cok mi mi' as.length (m_words as) S' bc bs = true) (C : m_Run X mi' as w (m_V v w1)) (K : m_Sem X mi (pc + 3, L, .inl v :: S', w1, bc - (m_rm mi').cells, bs - (m_rm mi').slots) Q) : m_Sem X mi (pc, L, S, w, bc, bs) Q :=
  m_callS as S' hf hst hok0 C (fun r w2 hq _ => by obtain ⟨rfl, rfl⟩ := hq; exact K)
theorem m_callIU {X : Nat × Nat × (Nat → Int32)} {mi pc i mi' y : Nat} {z : Int} {L : List (Option mPV)} {S : List mPV} {w w1 : mPW} {bc bs : Nat} {Q : Option mPV → mPW → Prop} {q : Nat} (as S' : List mPV) (hf : m_fetch mi pc = some (pc, .invokespecial i, mi', y, z)) (hst : S = as.reverse ++ .inr (.inl q) :: S') (hok0 : m_cok mi mi' as.length (m_words (.inr (.inl q) :: as)) S' bc bs = true) (C : m_Run X mi' (.inr (.inl q) :: as) w (m_U w1)) (K : m_Sem X mi (pc + 3, L, S', w1, bc - (m_rm mi').cells, bs - (m_rm mi').slots) Q) : m_Sem X mi (pc, L, S, w, bc, bs) Q :=
  m_callI as S' hf hst hok0 C (fun r w2 hq _ => by obtain ⟨rfl, rfl⟩ := hq; exact K)
/-- a loop that counts up: from its end backwards -/
theorem m_down {P : Int → Prop} (lo hi : Int) (h1 : P hi) (h2 : ∀ i, lo ≤ i → i < hi → P (i + 1) → P i) : ∀ i, lo ≤ i → i ≤ hi → P i := by
  have key : ∀ (k : Nat) (i : Int), lo ≤ i → i + k = hi → P i := by
    intro k
    induction k with
    | zero => intro i _ h; rw [show i = hi by omega]; exact h1
    | succ k ih => intro i h h'; exact h2 i h (by omega) (ih (i + 1) (by omega) (by omega))
  intro i h h'
  exact key (hi - i).toNat i h (by omega)
def okN (n : Int) : Prop := n = 2 ∨ n = 3 ∨ n = 4 ∨ n = 5 ∨ n = 7 ∨ n = 9
theorem okN_lo {n : Int} (h : okN n) : 2 ≤ n ∧ n ≤ 9 := by unfold okN at h; omega
def repC (n : Int) (T : Int → Int) (tb : Int → Int → Int) : Prop := okN n ∧ ∀ a b, 0 ≤ a → a < n → 0 ≤ b → b < n → T (9 * a + b) = tb a b ∧ 0 ≤ tb a b ∧ tb a b < n
def repM (n : Int) (s : Int → Int) (tb : Int → Int → Int) : Prop := okN n ∧ s 0 = n ∧ ∀ a b, 0 ≤ a → a < n → 0 ≤ b → b < n → s (1 + 9 * a + b) = tb a b ∧ 0 ≤ tb a b ∧ tb a b < n
def sumS (n a b : Int) : Int := if n = 4 then (Int32.ofInt a ^^^ Int32.ofInt b).toInt else if n = 9 then 3 * ((a / 3 + b / 3) % 3) + (a % 3 + b % 3) % 3 else if a + b < n then a + b else a + b - n
def difS (n a b : Int) : Int := if n = 4 then (Int32.ofInt a ^^^ Int32.ofInt b).toInt else if n = 9 then 3 * ((a / 3 - b / 3 + 3) % 3) + (a % 3 - b % 3 + 3) % 3 else if a < b then a - b + n else a - b
def fpS (n a b : Int) : Int := if n = 4 then (if a = 0 ∨ b = 0 then 0 else 1 + (a + b - 2) % 3) else if n = 9 then 3 * ((a / 3 * (b % 3) + a % 3 * (b / 3)) % 3) + (a % 3 * (b % 3) - a / 3 * (b / 3) + 6) % 3 else a * b % n
/-- what a program decides for all sizes and elements -/
theorem all2 {P : Int → Int → Int → Prop} (h : ∀ n ∈ ([2, 3, 4, 5, 7, 9] : List Nat), ∀ a, a < n → ∀ b, b < n → P (n : Int) (a : Int) (b : Int)) {n a b : Int} (hn : okN n) (ha : 0 ≤ a) (ha' : a < n) (hb : 0 ≤ b) (hb' : b < n) : P n a b := by
  have hl := okN_lo hn
  have h1 := h n.toNat (by unfold okN at hn; simp only [List.mem_cons, List.not_mem_nil, or_false]; omega) a.toNat (by omega) b.toNat (by omega)
  rw [Int.toNat_of_nonneg (by omega), Int.toNat_of_nonneg ha, Int.toNat_of_nonneg hb] at h1
  exact h1
theorem sumS_in {n a b : Int} (hn : okN n) (ha : 0 ≤ a) (ha' : a < n) (hb : 0 ≤ b) (hb' : b < n) : 0 ≤ sumS n a b ∧ sumS n a b < n := all2 (P := fun n a b => 0 ≤ sumS n a b ∧ sumS n a b < n) (by decide +kernel) hn ha ha' hb hb'
theorem difS_in {n a b : Int} (hn : okN n) (ha : 0 ≤ a) (ha' : a < n) (hb : 0 ≤ b) (hb' : b < n) : 0 ≤ difS n a b ∧ difS n a b < n := all2 (P := fun n a b => 0 ≤ difS n a b ∧ difS n a b < n) (by decide +kernel) hn ha ha' hb hb'
theorem fpS_in {n a b : Int} (hn : okN n) (ha : 0 ≤ a) (ha' : a < n) (hb : 0 ≤ b) (hb' : b < n) : 0 ≤ fpS n a b ∧ fpS n a b < n := all2 (P := fun n a b => 0 ≤ fpS n a b ∧ fpS n a b < n) (by decide +kernel) hn ha ha' hb hb'
theorem sum_dif {n a b : Int} (hn : okN n) (ha : 0 ≤ a) (ha' : a < n) (hb : 0 ≤ b) (hb' : b < n) : sumS n b (difS n a b) = a := all2 (P := fun n a b => sumS n b (difS n a b) = a) (by decide +kernel) hn ha ha' hb hb'
theorem dif_sum {n a b : Int} (hn : okN n) (ha : 0 ≤ a) (ha' : a < n) (hb : 0 ≤ b) (hb' : b < n) : difS n (sumS n b a) b = a := all2 (P := fun n a b => difS n (sumS n b a) b = a) (by decide +kernel) hn ha ha' hb hb'
theorem sum_comm {n a b : Int} (hn : okN n) (ha : 0 ≤ a) (ha' : a < n) (hb : 0 ≤ b) (hb' : b < n) : sumS n a b = sumS n b a := all2 (P := fun n a b => sumS n a b = sumS n b a) (by decide +kernel) hn ha ha' hb hb'
end
section
/-! What the loops compute: the first, the sum, all, the first of some kind; k steps from i on. -/
def fstF (p : Int → Bool) : Nat → Int → Int
  | 0, _ => -1
  | k + 1, i => bif p i then i else fstF p k (i + 1)
def sumF (f : Int → Int) : Nat → Int → Int
  | 0, _ => 0
  | k + 1, i => f i + sumF f k (i + 1)
def allF (p : Int → Bool) : Nat → Int → Bool
  | 0, _ => true
  | k + 1, i => p i && allF p k (i + 1)
def optF {α : Type} (f : Int → Option α) : Nat → Int → Option α
  | 0, _ => none
  | k + 1, i => match f i with
    | some a => some a
    | none => optF f k (i + 1)
theorem nat_end (n : Int) : (n - n).toNat = 0 := by omega
theorem nat_step {n i : Int} (h : i < n) : (n - i).toNat = (n - (i + 1)).toNat + 1 := by omega
theorem fst_end (p : Int → Bool) (n : Int) : fstF p (n - n).toNat n = -1 := by rw [nat_end]; rfl
theorem fst_t {p : Int → Bool} {n i : Int} (h : i < n) (hp : p i = true) : fstF p (n - i).toNat i = i := by
  rw [nat_step h]
  show (bif p i then i else fstF p (n - (i + 1)).toNat (i + 1)) = _
  rw [hp]; rfl
theorem fst_f {p : Int → Bool} {n i : Int} (h : i < n) (hp : p i = false) : fstF p (n - i).toNat i = fstF p (n - (i + 1)).toNat (i + 1) := by
  rw [nat_step h]
  show (bif p i then i else fstF p (n - (i + 1)).toNat (i + 1)) = _
  rw [hp]; rfl
theorem sum_end (f : Int → Int) (n : Int) : sumF f (n - n).toNat n = 0 := by rw [nat_end]; rfl
theorem sum_step {f : Int → Int} {n i : Int} (h : i < n) : sumF f (n - i).toNat i = f i + sumF f (n - (i + 1)).toNat (i + 1) := by rw [nat_step h]; rfl
theorem all_end (p : Int → Bool) (n : Int) : allF p (n - n).toNat n = true := by rw [nat_end]; rfl
theorem all_t {p : Int → Bool} {n i : Int} (h : i < n) (hp : p i = true) : allF p (n - i).toNat i = allF p (n - (i + 1)).toNat (i + 1) := by
  rw [nat_step h]
  show (p i && allF p (n - (i + 1)).toNat (i + 1)) = _
  rw [hp]; rfl
theorem all_f {p : Int → Bool} {n i : Int} (h : i < n) (hp : p i = false) : allF p (n - i).toNat i = false := by
  rw [nat_step h]
  show (p i && allF p (n - (i + 1)).toNat (i + 1)) = _
  rw [hp]; rfl
theorem opt_end {α : Type} (f : Int → Option α) (n : Int) : optF f (n - n).toNat n = none := by rw [nat_end]; rfl
theorem opt_s {α : Type} {f : Int → Option α} {n i : Int} {a : α} (h : i < n) (hp : f i = some a) : optF f (n - i).toNat i = some a := by
  rw [nat_step h]
  show (match f i with | some a => some a | none => optF f (n - (i + 1)).toNat (i + 1)) = _
  rw [hp]
theorem opt_n {α : Type} {f : Int → Option α} {n i : Int} (h : i < n) (hp : f i = none) : optF f (n - i).toNat i = optF f (n - (i + 1)).toNat (i + 1) := by
  rw [nat_step h]
  show (match f i with | some a => some a | none => optF f (n - (i + 1)).toNat (i + 1)) = _
  rw [hp]
theorem z_sub (n : Int) : (n - 0).toNat = n.toNat := by rw [Int.sub_zero]
theorem fst_congr {p q : Int → Bool} : ∀ (k : Nat) (i : Int), (∀ j, i ≤ j → j < i + k → p j = q j) → fstF p k i = fstF q k i
  | 0, _, _ => rfl
  | k + 1, i, h => by
    unfold fstF
    rw [h i (by omega) (by omega), fst_congr k (i + 1) (fun j h1 h2 => h j (by omega) (by omega))]
theorem sum_congr {p q : Int → Int} : ∀ (k : Nat) (i : Int), (∀ j, i ≤ j → j < i + k → p j = q j) → sumF p k i = sumF q k i
  | 0, _, _ => rfl
  | k + 1, i, h => by
    unfold sumF
    rw [h i (by omega) (by omega), sum_congr k (i + 1) (fun j h1 h2 => h j (by omega) (by omega))]
theorem all_congr {p q : Int → Bool} : ∀ (k : Nat) (i : Int), (∀ j, i ≤ j → j < i + k → p j = q j) → allF p k i = allF q k i
  | 0, _, _ => rfl
  | k + 1, i, h => by
    unfold allF
    rw [h i (by omega) (by omega), all_congr k (i + 1) (fun j h1 h2 => h j (by omega) (by omega))]
theorem opt_congr {α : Type} {p q : Int → Option α} : ∀ (k : Nat) (i : Int), (∀ j, i ≤ j → j < i + k → p j = q j) → optF p k i = optF q k i
  | 0, _, _ => rfl
  | k + 1, i, h => by
    unfold optF
    rw [h i (by omega) (by omega), opt_congr k (i + 1) (fun j h1 h2 => h j (by omega) (by omega))]
theorem all_iff {p : Int → Bool} : ∀ (k : Nat) (i : Int), allF p k i = true ↔ ∀ j, i ≤ j → j < i + k → p j = true
  | 0, i => ⟨fun _ j h1 h2 => absurd h2 (by omega), fun _ => rfl⟩
  | k + 1, i => by
    unfold allF
    rw [Bool.and_eq_true, all_iff k (i + 1)]
    refine ⟨fun h j h1 h2 => ?_, fun h => ⟨h i (by omega) (by omega), fun j h1 h2 => h j (by omega) (by omega)⟩⟩
    by_cases hj : j = i
    · rw [hj]; exact h.1
    · exact h.2 j (by omega) (by omega)
theorem sum_bound {f : Int → Int} {B : Int} : ∀ (k : Nat) (i : Int), (∀ j, i ≤ j → j < i + k → 0 ≤ f j ∧ f j ≤ B) → 0 ≤ sumF f k i ∧ sumF f k i ≤ k * B
  | 0, _, _ => ⟨Int.le_refl 0, by simp [sumF]⟩
  | k + 1, i, h => by
    have h1 := h i (by omega) (by omega)
    have h2 := sum_bound k (i + 1) (fun j h1 h2 => h j (by omega) (by omega))
    unfold sumF
    have h3 : ((k + 1 : Nat) : Int) * B = k * B + B := by rw [Int.natCast_add, Int.add_mul]; simp
    omega
end
section
def inN (n e : Int) : Bool := decide (0 ≤ e) && decide (e < n)
theorem inN_t {n e : Int} (h1 : 0 ≤ e) (h2 : e < n) : inN n e = true := by unfold inN; rw [decide_eq_true h1, decide_eq_true h2]; rfl
theorem inN_f {n e : Int} (h : e < 0 ∨ n ≤ e) : inN n e = false := by
  unfold inN
  rcases h with h | h
  · rw [decide_eq_false (by omega : ¬ 0 ≤ e)]; rfl
  · rw [decide_eq_false (by omega : ¬ e < n), Bool.and_false]
theorem inN_i {n e : Int} : inN n e = true ↔ 0 ≤ e ∧ e < n := by unfold inN; simp
theorem inN_i2 {n e : Int} : inN n e = false ↔ e < 0 ∨ n ≤ e := by
  unfold inN
  rw [Bool.and_eq_false_iff, decide_eq_false_iff_not, decide_eq_false_iff_not]
  omega
set_option maxHeartbeats 4000000 in
set_option maxRecDepth 100000 in
theorem k_has {X : Nat × Nat × (Nat → Int32)} {n : Int} {T : Int → Int} {h : HS} {t : TS} {x : XS} {M : MS} {e : Int} (hn : okN n) (he : m_R e) : m_Run X 14 [.inr (.inl 2), .inl e] (mW (n, T, h, t, x) M) (m_V (bI (inN n e)) (mW (n, T, h, t, x) M)) := by
  have hl := okN_lo hn
  show m_Sem X 14 (0, [some (.inr (.inl 2)), some (.inl e)], [], mW (n, T, h, t, x) M, 0, 0) _
  refine m_run 1 (ps' := (1, [some (.inr (.inl 2)), some (.inl e)], [.inl e], mW (n, T, h, t, x) M, 0, 0)) rfl ?_
  refine m_if rfl he (fun (zc1 : e < 0) => ?_) (fun (zc1 : ¬ e < 0) => ?_)
  · refine m_run 1 (ps' := (17, [some (.inr (.inl 2)), some (.inl e)], [.inl 0], mW (n, T, h, t, x) M, 0, 0)) rfl ?_
    exact m_ret1 rfl (Or.inr ⟨rfl, Or.inl rfl⟩) rfl (m_Vi (by rw [inN_f (by omega)]; rfl))
  · refine m_run 3 (ps' := (9, [some (.inr (.inl 2)), some (.inl e)], [.inl n, .inl e], mW (n, T, h, t, x) M, 0, 0)) rfl ?_
    refine m_icmp rfl he ⟨by omega, by omega⟩ (fun (zc2 : n ≤ e) => ?_) (fun (zc2 : ¬ n ≤ e) => ?_)
    · refine m_run 1 (ps' := (17, [some (.inr (.inl 2)), some (.inl e)], [.inl 0], mW (n, T, h, t, x) M, 0, 0)) rfl ?_
      exact m_ret1 rfl (Or.inr ⟨rfl, Or.inl rfl⟩) rfl (m_Vi (by rw [inN_f (by omega)]; rfl))
    · refine m_run 2 (ps' := (17, [some (.inr (.inl 2)), some (.inl e)], [.inl 1], mW (n, T, h, t, x) M, 0, 0)) rfl ?_
      exact m_ret1 rfl (Or.inr ⟨rfl, Or.inr rfl⟩) rfl (m_Vi (by rw [inN_t (by omega) (by omega)]; rfl))
set_option maxHeartbeats 4000000 in
set_option maxRecDepth 100000 in
theorem k_sum {X : Nat × Nat × (Nat → Int32)} {n : Int} {T : Int → Int} {h : HS} {t : TS} {x : XS} {M : MS} {a b : Int} (hn : okN n) (ha : 0 ≤ a) (ha2 : a < n) (hb : 0 ≤ b) (hb2 : b < n) : m_Run X 15 [.inr (.inl 2), .inl a, .inl b] (mW (n, T, h, t, x) M) (m_V (sumS n a b) (mW (n, T, h, t, x) M)) := by
  have hl := okN_lo hn
  show m_Sem X 15 (0, [some (.inr (.inl 2)), some (.inl a), some (.inl b)], [], mW (n, T, h, t, x) M, 0, 0) _
  refine m_run 3 (ps' := (5, [some (.inr (.inl 2)), some (.inl a), some (.inl b)], [.inl 4, .inl n], mW (n, T, h, t, x) M, 0, 0)) rfl ?_
  refine m_icmp rfl ⟨by omega, by omega⟩ ⟨by omega, by omega⟩ (fun (zc1 : ¬ n = 4) => ?_) (fun (zc1 : ¬ ¬ n = 4) => ?_)
  · refine m_run 3 (ps' := (18, [some (.inr (.inl 2)), some (.inl a), some (.inl b)], [.inl 9, .inl n], mW (n, T, h, t, x) M, 0, 0)) rfl ?_
    refine m_icmp rfl ⟨by omega, by omega⟩ ⟨by omega, by omega⟩ (fun (zc2 : ¬ n = 9) => ?_) (fun (zc2 : ¬ ¬ n = 9) => ?_)
    · refine m_run 5 (ps' := (50, [some (.inr (.inl 2)), some (.inl a), some (.inl b)], [.inl n, .inl (a + b)], mW (n, T, h, t, x) M, 0, 0)) rfl ?_
      refine m_icmp rfl ⟨by omega, by omega⟩ ⟨by omega, by omega⟩ (fun (zc3 : n ≤ (a + b)) => ?_) (fun (zc3 : ¬ n ≤ (a + b)) => ?_)
      · refine m_run 6 (ps' := (67, [some (.inr (.inl 2)), some (.inl a), some (.inl b)], [.inl ((a + b) - n)], mW (n, T, h, t, x) M, 0, 0)) rfl ?_
        exact m_ret1 rfl (Or.inl rfl) rfl (m_Vi (by unfold sumS; (repeat' split) <;> first | rfl | omega))
      · refine m_run 4 (ps' := (67, [some (.inr (.inl 2)), some (.inl a), some (.inl b)], [.inl (a + b)], mW (n, T, h, t, x) M, 0, 0)) rfl ?_
        exact m_ret1 rfl (Or.inl rfl) rfl (m_Vi (by unfold sumS; (repeat' split) <;> first | rfl | omega))
    · replace zc2 : n = 9 := Decidable.not_not.mp zc2
      refine m_run 3 (ps' := (24, [some (.inr (.inl 2)), some (.inl a), some (.inl b)], [.inl 3, .inl a, .inl 3], mW (n, T, h, t, x) M, 0, 0)) rfl ?_
      refine m_div rfl (by omega) (by omega) (by omega) (by omega) ?_
      refine m_run 2 (ps' := (27, [some (.inr (.inl 2)), some (.inl a), some (.inl b)], [.inl 3, .inl b, .inl (a / 3), .inl 3], mW (n, T, h, t, x) M, 0, 0)) rfl ?_
      refine m_div rfl (by omega) (by omega) (by omega) (by omega) ?_
      refine m_run 2 (ps' := (30, [some (.inr (.inl 2)), some (.inl a), some (.inl b)], [.inl 3, .inl ((a / 3) + (b / 3)), .inl 3], mW (n, T, h, t, x) M, 0, 0)) rfl ?_
      refine m_rem rfl (by omega) (by omega) (by omega) (by omega) ?_
      refine m_run 3 (ps' := (34, [some (.inr (.inl 2)), some (.inl a), some (.inl b)], [.inl 3, .inl a, .inl (3 * (((a / 3) + (b / 3)) % 3))], mW (n, T, h, t, x) M, 0, 0)) rfl ?_
      refine m_rem rfl (by omega) (by omega) (by omega) (by omega) ?_
      refine m_run 2 (ps' := (37, [some (.inr (.inl 2)), some (.inl a), some (.inl b)], [.inl 3, .inl b, .inl (a % 3), .inl (3 * (((a / 3) + (b / 3)) % 3))], mW (n, T, h, t, x) M, 0, 0)) rfl ?_
      refine m_rem rfl (by omega) (by omega) (by omega) (by omega) ?_
      refine m_run 2 (ps' := (40, [some (.inr (.inl 2)), some (.inl a), some (.inl b)], [.inl 3, .inl ((a % 3) + (b % 3)), .inl (3 * (((a / 3) + (b / 3)) % 3))], mW (n, T, h, t, x) M, 0, 0)) rfl ?_
      refine m_rem rfl (by omega) (by omega) (by omega) (by omega) ?_
      refine m_run 1 (ps' := (42, [some (.inr (.inl 2)), some (.inl a), some (.inl b)], [.inl ((3 * (((a / 3) + (b / 3)) % 3)) + (((a % 3) + (b % 3)) % 3))], mW (n, T, h, t, x) M, 0, 0)) rfl ?_
      exact m_ret1 rfl (Or.inl rfl) rfl (m_Vi (by unfold sumS; (repeat' split) <;> first | rfl | omega))
  · replace zc1 : n = 4 := Decidable.not_not.mp zc1
    refine m_run 3 (ps' := (11, [some (.inr (.inl 2)), some (.inl a), some (.inl b)], [.inl ((Int32.ofInt a ^^^ Int32.ofInt b).toInt)], mW (n, T, h, t, x) M, 0, 0)) rfl ?_
    exact m_ret1 rfl (Or.inl rfl) rfl (m_Vi (by unfold sumS; (repeat' split) <;> first | rfl | omega))
set_option maxHeartbeats 4000000 in
set_option maxRecDepth 100000 in
theorem k_dif {X : Nat × Nat × (Nat → Int32)} {n : Int} {T : Int → Int} {h : HS} {t : TS} {x : XS} {M : MS} {a b : Int} (hn : okN n) (ha : 0 ≤ a) (ha2 : a < n) (hb : 0 ≤ b) (hb2 : b < n) : m_Run X 16 [.inr (.inl 2), .inl a, .inl b] (mW (n, T, h, t, x) M) (m_V (difS n a b) (mW (n, T, h, t, x) M)) := by
  have hl := okN_lo hn
  show m_Sem X 16 (0, [some (.inr (.inl 2)), some (.inl a), some (.inl b)], [], mW (n, T, h, t, x) M, 0, 0) _
  refine m_run 3 (ps' := (5, [some (.inr (.inl 2)), some (.inl a), some (.inl b)], [.inl 4, .inl n], mW (n, T, h, t, x) M, 0, 0)) rfl ?_
  refine m_icmp rfl ⟨by omega, by omega⟩ ⟨by omega, by omega⟩ (fun (zc1 : ¬ n = 4) => ?_) (fun (zc1 : ¬ ¬ n = 4) => ?_)
  · refine m_run 3 (ps' := (18, [some (.inr (.inl 2)), some (.inl a), some (.inl b)], [.inl 9, .inl n], mW (n, T, h, t, x) M, 0, 0)) rfl ?_
    refine m_icmp rfl ⟨by omega, by omega⟩ ⟨by omega, by omega⟩ (fun (zc2 : ¬ n = 9) => ?_) (fun (zc2 : ¬ ¬ n = 9) => ?_)
    · refine m_run 2 (ps' := (49, [some (.inr (.inl 2)), some (.inl a), some (.inl b)], [.inl b, .inl a], mW (n, T, h, t, x) M, 0, 0)) rfl ?_
      refine m_icmp rfl ⟨by omega, by omega⟩ ⟨by omega, by omega⟩ (fun (zc3 : b ≤ a) => ?_) (fun (zc3 : ¬ b ≤ a) => ?_)
      · refine m_run 3 (ps' := (66, [some (.inr (.inl 2)), some (.inl a), some (.inl b)], [.inl (a - b)], mW (n, T, h, t, x) M, 0, 0)) rfl ?_
        exact m_ret1 rfl (Or.inl rfl) rfl (m_Vi (by unfold difS; (repeat' split) <;> first | rfl | omega))
      · refine m_run 7 (ps' := (66, [some (.inr (.inl 2)), some (.inl a), some (.inl b)], [.inl ((a - b) + n)], mW (n, T, h, t, x) M, 0, 0)) rfl ?_
        exact m_ret1 rfl (Or.inl rfl) rfl (m_Vi (by unfold difS; (repeat' split) <;> first | rfl | omega))
    · replace zc2 : n = 9 := Decidable.not_not.mp zc2
      refine m_run 3 (ps' := (24, [some (.inr (.inl 2)), some (.inl a), some (.inl b)], [.inl 3, .inl a, .inl 3], mW (n, T, h, t, x) M, 0, 0)) rfl ?_
      refine m_div rfl (by omega) (by omega) (by omega) (by omega) ?_
      refine m_run 2 (ps' := (27, [some (.inr (.inl 2)), some (.inl a), some (.inl b)], [.inl 3, .inl b, .inl (a / 3), .inl 3], mW (n, T, h, t, x) M, 0, 0)) rfl ?_
      refine m_div rfl (by omega) (by omega) (by omega) (by omega) ?_
      refine m_run 4 (ps' := (32, [some (.inr (.inl 2)), some (.inl a), some (.inl b)], [.inl 3, .inl (((a / 3) - (b / 3)) + 3), .inl 3], mW (n, T, h, t, x) M, 0, 0)) rfl ?_
      refine m_rem rfl (by omega) (by omega) (by omega) (by omega) ?_
      refine m_run 3 (ps' := (36, [some (.inr (.inl 2)), some (.inl a), some (.inl b)], [.inl 3, .inl a, .inl (3 * ((((a / 3) - (b / 3)) + 3) % 3))], mW (n, T, h, t, x) M, 0, 0)) rfl ?_
      refine m_rem rfl (by omega) (by omega) (by omega) (by omega) ?_
      refine m_run 2 (ps' := (39, [some (.inr (.inl 2)), some (.inl a), some (.inl b)], [.inl 3, .inl b, .inl (a % 3), .inl (3 * ((((a / 3) - (b / 3)) + 3) % 3))], mW (n, T, h, t, x) M, 0, 0)) rfl ?_
      refine m_rem rfl (by omega) (by omega) (by omega) (by omega) ?_
      refine m_run 4 (ps' := (44, [some (.inr (.inl 2)), some (.inl a), some (.inl b)], [.inl 3, .inl (((a % 3) - (b % 3)) + 3), .inl (3 * ((((a / 3) - (b / 3)) + 3) % 3))], mW (n, T, h, t, x) M, 0, 0)) rfl ?_
      refine m_rem rfl (by omega) (by omega) (by omega) (by omega) ?_
      refine m_run 1 (ps' := (46, [some (.inr (.inl 2)), some (.inl a), some (.inl b)], [.inl ((3 * ((((a / 3) - (b / 3)) + 3) % 3)) + ((((a % 3) - (b % 3)) + 3) % 3))], mW (n, T, h, t, x) M, 0, 0)) rfl ?_
      exact m_ret1 rfl (Or.inl rfl) rfl (m_Vi (by unfold difS; (repeat' split) <;> first | rfl | omega))
  · replace zc1 : n = 4 := Decidable.not_not.mp zc1
    refine m_run 3 (ps' := (11, [some (.inr (.inl 2)), some (.inl a), some (.inl b)], [.inl ((Int32.ofInt a ^^^ Int32.ofInt b).toInt)], mW (n, T, h, t, x) M, 0, 0)) rfl ?_
    exact m_ret1 rfl (Or.inl rfl) rfl (m_Vi (by unfold difS; (repeat' split) <;> first | rfl | omega))
set_option maxHeartbeats 4000000 in
set_option maxRecDepth 100000 in
theorem k_times {X : Nat × Nat × (Nat → Int32)} {n : Int} {T : Int → Int} {h : HS} {t : TS} {x : XS} {M : MS} {tb : Int → Int → Int} {a b : Int} (hR : repC n T tb) (ha : 0 ≤ a) (ha2 : a < n) (hb : 0 ≤ b) (hb2 : b < n) : m_Run X 17 [.inr (.inl 2), .inl a, .inl b] (mW (n, T, h, t, x) M) (m_V (tb a b) (mW (n, T, h, t, x) M)) := by
  have hn := hR.1
  have hl := okN_lo hn
  show m_Sem X 17 (0, [some (.inr (.inl 2)), some (.inl a), some (.inl b), none], [], mW (n, T, h, t, x) M, 0, 0) _
  refine m_run 7 (ps' := (8, [some (.inr (.inl 2)), some (.inl a), some (.inl b), some (.inl ((9 * a) + b))], [.inl ((9 * a) + b)], mW (n, T, h, t, x) M, 0, 0)) rfl ?_
  refine m_if rfl ⟨by omega, by omega⟩ (fun (zc1 : ((9 * a) + b) < 0) => absurd zc1 (by omega)) (fun (zc1 : ¬ ((9 * a) + b) < 0) => ?_)
  refine m_run 4 (ps' := (17, [some (.inr (.inl 2)), some (.inl a), some (.inl b), some (.inl ((9 * a) + b))], [.inl 81, .inl ((9 * a) + b)], mW (n, T, h, t, x) M, 0, 0)) rfl ?_
  refine m_icmp rfl ⟨by omega, by omega⟩ ⟨by omega, by omega⟩ (fun (zc2 : 81 ≤ ((9 * a) + b)) => absurd zc2 (by omega)) (fun (zc2 : ¬ 81 ≤ ((9 * a) + b)) => ?_)
  refine m_run 3 (ps' := (25, [some (.inr (.inl 2)), some (.inl a), some (.inl b), some (.inl ((9 * a) + b))], [.inl ((9 * a) + b), .inr (.inl 3)], mW (n, T, h, t, x) M, 0, 0)) rfl ?_
  refine m_iald rfl rfl (by omega) (by omega) (by decide) ?_
  refine m_run 1 (ps' := (30, [some (.inr (.inl 2)), some (.inl a), some (.inl b), some (.inl ((9 * a) + b))], [.inl (T ((9 * a) + b))], mW (n, T, h, t, x) M, 0, 0)) rfl ?_
  exact m_ret1 rfl (Or.inl rfl) rfl (m_Vi (hR.2 a b ha ha2 hb hb2).1)
def sideS (tb : Int → Int → Int) (r : Bool) (a x : Int) : Int := bif r then tb a x else tb x a
set_option maxHeartbeats 4000000 in
set_option maxRecDepth 100000 in
theorem k_side {X : Nat × Nat × (Nat → Int32)} {n : Int} {T : Int → Int} {h : HS} {t : TS} {x : XS} {M : MS} {tb : Int → Int → Int} {r : Bool} {a b : Int} (hR : repC n T tb) (ha : 0 ≤ a) (ha2 : a < n) (hb : 0 ≤ b) (hb2 : b < n) : m_Run X 18 [.inr (.inl 2), .inl a, .inl b, .inl (bI r)] (mW (n, T, h, t, x) M) (m_V (sideS tb r a b) (mW (n, T, h, t, x) M)) := by
  have hn := hR.1
  have hl := okN_lo hn
  show m_Sem X 18 (0, [some (.inr (.inl 2)), some (.inl a), some (.inl b), some (.inl (bI r))], [], mW (n, T, h, t, x) M, 0, 0) _
  refine m_run 1 (ps' := (1, [some (.inr (.inl 2)), some (.inl a), some (.inl b), some (.inl (bI r))], [.inl (bI r)], mW (n, T, h, t, x) M, 0, 0)) rfl ?_
  refine m_if rfl (bI_R r) (fun (zc1 : (bI r) = 0) => ?_) (fun (zc1 : ¬ (bI r) = 0) => ?_)
  · replace zc1 : r = false := bI_e0.mp zc1
    refine m_run 3 (ps' := (16, [some (.inr (.inl 2)), some (.inl a), some (.inl b), some (.inl (bI r))], [.inl a, .inl b, .inr (.inl 2)], mW (n, T, h, t, x) M, 0, 0)) rfl ?_
    refine m_callVF [.inl b, .inl a] [] rfl rfl ⟨_, rfl, rfl⟩ rfl rfl (k_times (a := b) (b := a) hR (by omega) (by omega) (by omega) (by omega)) ?_
    have zt1 := (hR.2 b a (by omega) (by omega) (by omega) (by omega)).2
    show m_Sem X 18 (19, [some (.inr (.inl 2)), some (.inl a), some (.inl b), some (.inl (bI r))], [.inl (tb b a)], mW (n, T, h, t, x) M, 0, 0) _
    exact m_ret1 rfl (Or.inl rfl) rfl (m_Vi (by unfold sideS; rw [zc1]; rfl))
  · replace zc1 : r = true := bI_n0.mp zc1
    refine m_run 3 (ps' := (7, [some (.inr (.inl 2)), some (.inl a), some (.inl b), some (.inl (bI r))], [.inl b, .inl a, .inr (.inl 2)], mW (n, T, h, t, x) M, 0, 0)) rfl ?_
    refine m_callVF [.inl a, .inl b] [] rfl rfl ⟨_, rfl, rfl⟩ rfl rfl (k_times (a := a) (b := b) hR (by omega) (by omega) (by omega) (by omega)) ?_
    have zt1 := (hR.2 a b (by omega) (by omega) (by omega) (by omega)).2
    show m_Sem X 18 (10, [some (.inr (.inl 2)), some (.inl a), some (.inl b), some (.inl (bI r))], [.inl (tb a b)], mW (n, T, h, t, x) M, 0, 0) _
    refine m_run 1 (ps' := (19, [some (.inr (.inl 2)), some (.inl a), some (.inl b), some (.inl (bI r))], [.inl (tb a b)], mW (n, T, h, t, x) M, 0, 0)) rfl ?_
    exact m_ret1 rfl (Or.inl rfl) rfl (m_Vi (by unfold sideS; rw [zc1]; rfl))
theorem sideS_in {n : Int} {T : Int → Int} {tb : Int → Int → Int} (hR : repC n T tb) {r : Bool} {a x : Int} (ha : 0 ≤ a) (ha2 : a < n) (hb : 0 ≤ x) (hb2 : x < n) : 0 ≤ sideS tb r a x ∧ sideS tb r a x < n := by
  cases r
  · exact (hR.2 x a hb hb2 ha ha2).2
  · exact (hR.2 a x ha ha2 hb hb2).2
set_option maxHeartbeats 4000000 in
set_option maxRecDepth 100000 in
theorem l_low {X : Nat × Nat × (Nat → Int32)} {n : Int} {T : Int → Int} {h : HS} {t : TS} {x : XS} {M : MS} {tb : Int → Int → Int} {a b : Int} {r : Bool} (hR : repC n T tb) (ha : 0 ≤ a) (ha2 : a < n) (hb : 0 ≤ b) (hb2 : b < n) : ∀ i : Int, 0 ≤ i → i ≤ n → m_Sem X 19 (3, [some (.inr (.inl 2)), some (.inl a), some (.inl b), some (.inl (bI r)), some (.inl i)], [], mW (n, T, h, t, x) M, 0, 0) (m_V (fstF (fun i => decide (sideS tb r a i = b)) (n - i).toNat i) (mW (n, T, h, t, x) M)) := by
  have hn := hR.1
  have hl := okN_lo hn
  refine m_down 0 n ?_ ?_
  · show m_Sem X 19 (3, [some (.inr (.inl 2)), some (.inl a), some (.inl b), some (.inl (bI r)), some (.inl n)], [], mW (n, T, h, t, x) M, 0, 0) _
    refine m_run 3 (ps' := (9, [some (.inr (.inl 2)), some (.inl a), some (.inl b), some (.inl (bI r)), some (.inl n)], [.inl n, .inl n], mW (n, T, h, t, x) M, 0, 0)) rfl ?_
    refine m_icmp rfl ⟨by omega, by omega⟩ ⟨by omega, by omega⟩ (fun (zc1 : n ≤ n) => ?_) (fun (zc1 : ¬ n ≤ n) => absurd zc1 (not_not_intro (by omega)))
    refine m_run 1 (ps' := (34, [some (.inr (.inl 2)), some (.inl a), some (.inl b), some (.inl (bI r)), some (.inl n)], [.inl (-1)], mW (n, T, h, t, x) M, 0, 0)) rfl ?_
    exact m_ret1 rfl (Or.inl rfl) rfl (m_Vi (fst_end _ _).symm)
  · intro i hi1 hi2 ih 
    refine m_run 3 (ps' := (9, [some (.inr (.inl 2)), some (.inl a), some (.inl b), some (.inl (bI r)), some (.inl i)], [.inl n, .inl i], mW (n, T, h, t, x) M, 0, 0)) rfl ?_
    refine m_icmp rfl ⟨by omega, by omega⟩ ⟨by omega, by omega⟩ (fun (zc1 : n ≤ i) => absurd zc1 (by omega)) (fun (zc1 : ¬ n ≤ i) => ?_)
    refine m_run 4 (ps' := (17, [some (.inr (.inl 2)), some (.inl a), some (.inl b), some (.inl (bI r)), some (.inl i)], [.inl (bI r), .inl i, .inl a, .inr (.inl 2)], mW (n, T, h, t, x) M, 0, 0)) rfl ?_
    refine m_callVF [.inl a, .inl i, .inl (bI r)] [] rfl rfl ⟨_, rfl, rfl⟩ rfl rfl (k_side (a := a) (b := i) (r := r) hR (by omega) (by omega) (by omega) (by omega)) ?_
    have zt1 := sideS_in hR (r := r) (a := a) (x := i) (by omega) (by omega) (by omega) (by omega)
    show m_Sem X 19 (20, [some (.inr (.inl 2)), some (.inl a), some (.inl b), some (.inl (bI r)), some (.inl i)], [.inl (sideS tb r a i)], mW (n, T, h, t, x) M, 0, 0) _
    refine m_run 1 (ps' := (21, [some (.inr (.inl 2)), some (.inl a), some (.inl b), some (.inl (bI r)), some (.inl i)], [.inl b, .inl (sideS tb r a i)], mW (n, T, h, t, x) M, 0, 0)) rfl ?_
    refine m_icmp rfl ⟨by omega, by omega⟩ ⟨by omega, by omega⟩ (fun (zc2 : ¬ (sideS tb r a i) = b) => ?_) (fun (zc2 : ¬ ¬ (sideS tb r a i) = b) => ?_)
    · refine m_run 2 (ps' := (3, [some (.inr (.inl 2)), some (.inl a), some (.inl b), some (.inl (bI r)), some (.inl (i + 1))], [], mW (n, T, h, t, x) M, 0, 0)) rfl ?_
      refine m_weak [some (.inr (.inl 2)), some (.inl a), some (.inl b), some (.inl (bI r)), some (.inl (i + 1))] ⟨rfl, ⟨rfl, ⟨rfl, ⟨rfl, ⟨rfl, trivial⟩⟩⟩⟩⟩ ?_
      rw [fst_f hi2 (decide_eq_false zc2)]
      exact ih
    · replace zc2 : (sideS tb r a i) = b := Decidable.not_not.mp zc2
      refine m_run 1 (ps' := (26, [some (.inr (.inl 2)), some (.inl a), some (.inl b), some (.inl (bI r)), some (.inl i)], [.inl i], mW (n, T, h, t, x) M, 0, 0)) rfl ?_
      exact m_ret1 rfl (Or.inl rfl) rfl (m_Vi (fst_t hi2 (decide_eq_true zc2)).symm)
set_option maxHeartbeats 4000000 in
set_option maxRecDepth 100000 in
theorem k_low {X : Nat × Nat × (Nat → Int32)} {n : Int} {T : Int → Int} {h : HS} {t : TS} {x : XS} {M : MS} {tb : Int → Int → Int} {a b : Int} {r : Bool} (hR : repC n T tb) (ha : 0 ≤ a) (ha2 : a < n) (hb : 0 ≤ b) (hb2 : b < n) : m_Run X 19 [.inr (.inl 2), .inl a, .inl b, .inl (bI r)] (mW (n, T, h, t, x) M) (m_V (fstF (fun i => decide (sideS tb r a i = b)) n.toNat 0) (mW (n, T, h, t, x) M)) := by
  have hn := hR.1
  have hl := okN_lo hn
  show m_Sem X 19 (0, [some (.inr (.inl 2)), some (.inl a), some (.inl b), some (.inl (bI r)), none], [], mW (n, T, h, t, x) M, 0, 0) _
  refine m_run 2 (ps' := (3, [some (.inr (.inl 2)), some (.inl a), some (.inl b), some (.inl (bI r)), some (.inl 0)], [], mW (n, T, h, t, x) M, 0, 0)) rfl ?_
  refine m_weak [some (.inr (.inl 2)), some (.inl a), some (.inl b), some (.inl (bI r)), some (.inl 0)] ⟨rfl, ⟨rfl, ⟨rfl, ⟨rfl, ⟨rfl, trivial⟩⟩⟩⟩⟩ ?_
  have h0 := l_low (X := X) (h := h) (t := t) (x := x) (M := M) (r := r) hR ha ha2 hb hb2 0 (by omega) (by omega)
  rw [z_sub] at h0
  exact h0
theorem mul_b {x y B C : Int} (h1 : 0 ≤ x) (h2 : x ≤ B) (h3 : 0 ≤ y) (h4 : y ≤ C) : 0 ≤ x * y ∧ x * y ≤ B * C := ⟨Int.mul_nonneg h1 h3, Int.mul_le_mul h2 h4 h3 (by omega)⟩
theorem m_up_id (f : Int → Int) {j v : Int} (h : f j = v) : f = m_up f j v := by
  funext i
  unfold m_up
  split
  next hi => rw [hi, h]
  next => rfl
set_option maxHeartbeats 4000000 in
set_option maxRecDepth 100000 in
theorem k_fp {X : Nat × Nat × (Nat → Int32)} {n : Int} {T : Int → Int} {h : HS} {t : TS} {x : XS} {M : MS} {a b : Int} (hn : okN n) (ha : 0 ≤ a) (ha2 : a < n) (hb : 0 ≤ b) (hb2 : b < n) : m_Run X 27 [.inl n, .inl a, .inl b] (mW (n, T, h, t, x) M) (m_V (fpS n a b) (mW (n, T, h, t, x) M)) := by
  have hl := okN_lo hn
  have p0 := mul_b (x := a) (y := b) (B := 8) (C := 8) ha (by omega) hb (by omega)
  have p1 := mul_b (x := a / 3) (y := b % 3) (B := 2) (C := 2) (by omega) (by omega) (by omega) (by omega)
  have p2 := mul_b (x := a % 3) (y := b / 3) (B := 2) (C := 2) (by omega) (by omega) (by omega) (by omega)
  have p3 := mul_b (x := a % 3) (y := b % 3) (B := 2) (C := 2) (by omega) (by omega) (by omega) (by omega)
  have p4 := mul_b (x := a / 3) (y := b / 3) (B := 2) (C := 2) (by omega) (by omega) (by omega) (by omega)
  show m_Sem X 27 (0, [some (.inl n), some (.inl a), some (.inl b), none, none, none, none], [], mW (n, T, h, t, x) M, 0, 0) _
  refine m_run 2 (ps' := (2, [some (.inl n), some (.inl a), some (.inl b), none, none, none, none], [.inl 4, .inl n], mW (n, T, h, t, x) M, 0, 0)) rfl ?_
  refine m_icmp rfl ⟨by omega, by omega⟩ ⟨by omega, by omega⟩ (fun (zc1 : ¬ n = 4) => ?_) (fun (zc1 : ¬ ¬ n = 4) => ?_)
  · refine m_run 2 (ps' := (30, [some (.inl n), some (.inl a), some (.inl b), none, none, none, none], [.inl 9, .inl n], mW (n, T, h, t, x) M, 0, 0)) rfl ?_
    refine m_icmp rfl ⟨by omega, by omega⟩ ⟨by omega, by omega⟩ (fun (zc2 : ¬ n = 9) => ?_) (fun (zc2 : ¬ ¬ n = 9) => ?_)
    · refine m_run 1 (ps' := (84, [some (.inl n), some (.inl a), some (.inl b), none, none, none, none], [.inl n], mW (n, T, h, t, x) M, 0, 0)) rfl ?_
      refine m_if rfl ⟨by omega, by omega⟩ (fun (zc3 : n ≤ 0) => ?_) (fun (zc3 : ¬ n ≤ 0) => ?_)
      · refine m_run 1 (ps' := (96, [some (.inl n), some (.inl a), some (.inl b), none, none, none, none], [.inl 0], mW (n, T, h, t, x) M, 0, 0)) rfl ?_
        exact m_ret1 rfl (Or.inl rfl) rfl (m_Vi (by unfold fpS; (repeat' split) <;> first | rfl | omega))
      · refine m_run 4 (ps' := (91, [some (.inl n), some (.inl a), some (.inl b), none, none, none, none], [.inl n, .inl (a * b)], mW (n, T, h, t, x) M, 0, 0)) rfl ?_
        refine m_rem rfl (by omega) (by omega) (by omega) (by omega) ?_
        refine m_run 1 (ps' := (96, [some (.inl n), some (.inl a), some (.inl b), none, none, none, none], [.inl ((a * b) % n)], mW (n, T, h, t, x) M, 0, 0)) rfl ?_
        exact m_ret1 rfl (Or.inl rfl) rfl (m_Vi (by unfold fpS; (repeat' split) <;> first | rfl | omega))
    · replace zc2 : n = 9 := Decidable.not_not.mp zc2
      refine m_run 2 (ps' := (35, [some (.inl n), some (.inl a), some (.inl b), none, none, none, none], [.inl 3, .inl a], mW (n, T, h, t, x) M, 0, 0)) rfl ?_
      refine m_div rfl (by omega) (by omega) (by omega) (by omega) ?_
      refine m_run 3 (ps' := (39, [some (.inl n), some (.inl a), some (.inl b), some (.inl (a / 3)), none, none, none], [.inl 3, .inl a], mW (n, T, h, t, x) M, 0, 0)) rfl ?_
      refine m_rem rfl (by omega) (by omega) (by omega) (by omega) ?_
      refine m_run 3 (ps' := (44, [some (.inl n), some (.inl a), some (.inl b), some (.inl (a / 3)), some (.inl (a % 3)), none, none], [.inl 3, .inl b], mW (n, T, h, t, x) M, 0, 0)) rfl ?_
      refine m_div rfl (by omega) (by omega) (by omega) (by omega) ?_
      refine m_run 3 (ps' := (49, [some (.inl n), some (.inl a), some (.inl b), some (.inl (a / 3)), some (.inl (a % 3)), some (.inl (b / 3)), none], [.inl 3, .inl b], mW (n, T, h, t, x) M, 0, 0)) rfl ?_
      refine m_rem rfl (by omega) (by omega) (by omega) (by omega) ?_
      refine m_run 10 (ps' := (64, [some (.inl n), some (.inl a), some (.inl b), some (.inl (a / 3)), some (.inl (a % 3)), some (.inl (b / 3)), some (.inl (b % 3))], [.inl 3, .inl (((a / 3) * (b % 3)) + ((a % 3) * (b / 3))), .inl 3], mW (n, T, h, t, x) M, 0, 0)) rfl ?_
      refine m_rem rfl (by omega) (by omega) (by omega) (by omega) ?_
      refine m_run 11 (ps' := (80, [some (.inl n), some (.inl a), some (.inl b), some (.inl (a / 3)), some (.inl (a % 3)), some (.inl (b / 3)), some (.inl (b % 3))], [.inl 3, .inl ((((a % 3) * (b % 3)) - ((a / 3) * (b / 3))) + 6), .inl (3 * ((((a / 3) * (b % 3)) + ((a % 3) * (b / 3))) % 3))], mW (n, T, h, t, x) M, 0, 0)) rfl ?_
      refine m_rem rfl (by omega) (by omega) (by omega) (by omega) ?_
      refine m_run 1 (ps' := (82, [some (.inl n), some (.inl a), some (.inl b), some (.inl (a / 3)), some (.inl (a % 3)), some (.inl (b / 3)), some (.inl (b % 3))], [.inl ((3 * ((((a / 3) * (b % 3)) + ((a % 3) * (b / 3))) % 3)) + (((((a % 3) * (b % 3)) - ((a / 3) * (b / 3))) + 6) % 3))], mW (n, T, h, t, x) M, 0, 0)) rfl ?_
      exact m_ret1 rfl (Or.inl rfl) rfl (m_Vi (by unfold fpS; (repeat' split) <;> first | rfl | omega))
  · replace zc1 : n = 4 := Decidable.not_not.mp zc1
    refine m_run 1 (ps' := (6, [some (.inl n), some (.inl a), some (.inl b), none, none, none, none], [.inl a], mW (n, T, h, t, x) M, 0, 0)) rfl ?_
    refine m_if rfl ⟨by omega, by omega⟩ (fun (zc2 : a = 0) => ?_) (fun (zc2 : ¬ a = 0) => ?_)
    · refine m_run 2 (ps' := (26, [some (.inl n), some (.inl a), some (.inl b), none, none, none, none], [.inl 0], mW (n, T, h, t, x) M, 0, 0)) rfl ?_
      exact m_ret1 rfl (Or.inl rfl) rfl (m_Vi (by unfold fpS; (repeat' split) <;> first | rfl | omega))
    · refine m_run 1 (ps' := (10, [some (.inl n), some (.inl a), some (.inl b), none, none, none, none], [.inl b], mW (n, T, h, t, x) M, 0, 0)) rfl ?_
      refine m_if rfl ⟨by omega, by omega⟩ (fun (zc3 : ¬ b = 0) => ?_) (fun (zc3 : ¬ ¬ b = 0) => ?_)
      · refine m_run 7 (ps' := (24, [some (.inl n), some (.inl a), some (.inl b), none, none, none, none], [.inl 3, .inl ((a + b) - 2), .inl 1], mW (n, T, h, t, x) M, 0, 0)) rfl ?_
        refine m_rem rfl (by omega) (by omega) (by omega) (by omega) ?_
        refine m_run 1 (ps' := (26, [some (.inl n), some (.inl a), some (.inl b), none, none, none, none], [.inl (1 + (((a + b) - 2) % 3))], mW (n, T, h, t, x) M, 0, 0)) rfl ?_
        exact m_ret1 rfl (Or.inl rfl) rfl (m_Vi (by unfold fpS; (repeat' split) <;> first | rfl | omega))
      · replace zc3 : b = 0 := Decidable.not_not.mp zc3
        refine m_run 2 (ps' := (26, [some (.inl n), some (.inl a), some (.inl b), none, none, none, none], [.inl 0], mW (n, T, h, t, x) M, 0, 0)) rfl ?_
        exact m_ret1 rfl (Or.inl rfl) rfl (m_Vi (by unfold fpS; (repeat' split) <;> first | rfl | omega))
def sqS (n b : Int) : Bool := ! allF (fun x => ! decide (fpS n x x = b)) n.toNat 0
set_option maxHeartbeats 4000000 in
set_option maxRecDepth 100000 in
theorem l_sq {X : Nat × Nat × (Nat → Int32)} {n : Int} {T : Int → Int} {h : HS} {t : TS} {x : XS} {M : MS} {b : Int} (hn : okN n) (hb : m_R b) : ∀ i : Int, 0 ≤ i → i ≤ n → m_Sem X 26 (2, [some (.inr (.inl 2)), some (.inl b), some (.inl i)], [], mW (n, T, h, t, x) M, 0, 0) (m_V (bI (! allF (fun x => ! decide (fpS n x x = b)) (n - i).toNat i)) (mW (n, T, h, t, x) M)) := by
  have hl := okN_lo hn
  refine m_down 0 n ?_ ?_
  · show m_Sem X 26 (2, [some (.inr (.inl 2)), some (.inl b), some (.inl n)], [], mW (n, T, h, t, x) M, 0, 0) _
    refine m_run 3 (ps' := (7, [some (.inr (.inl 2)), some (.inl b), some (.inl n)], [.inl n, .inl n], mW (n, T, h, t, x) M, 0, 0)) rfl ?_
    refine m_icmp rfl ⟨by omega, by omega⟩ ⟨by omega, by omega⟩ (fun (zc1 : n ≤ n) => ?_) (fun (zc1 : ¬ n ≤ n) => absurd zc1 (not_not_intro (by omega)))
    refine m_run 1 (ps' := (32, [some (.inr (.inl 2)), some (.inl b), some (.inl n)], [.inl 0], mW (n, T, h, t, x) M, 0, 0)) rfl ?_
    exact m_ret1 rfl (Or.inr ⟨rfl, Or.inl rfl⟩) rfl (m_Vi (by rw [all_end]; rfl))
  · intro i hi1 hi2 ih 
    refine m_run 3 (ps' := (7, [some (.inr (.inl 2)), some (.inl b), some (.inl i)], [.inl n, .inl i], mW (n, T, h, t, x) M, 0, 0)) rfl ?_
    refine m_icmp rfl ⟨by omega, by omega⟩ ⟨by omega, by omega⟩ (fun (zc1 : n ≤ i) => absurd zc1 (by omega)) (fun (zc1 : ¬ n ≤ i) => ?_)
    refine m_run 4 (ps' := (16, [some (.inr (.inl 2)), some (.inl b), some (.inl i)], [.inl i, .inl i, .inl n], mW (n, T, h, t, x) M, 0, 0)) rfl ?_
    refine m_callSF [.inl n, .inl i, .inl i] [] rfl rfl rfl (k_fp (a := i) (b := i) hn (by omega) (by omega) (by omega) (by omega)) ?_
    have zt1 := fpS_in (n := n) (a := i) (b := i) hn (by omega) (by omega) (by omega) (by omega)
    show m_Sem X 26 (19, [some (.inr (.inl 2)), some (.inl b), some (.inl i)], [.inl (fpS n i i)], mW (n, T, h, t, x) M, 0, 0) _
    refine m_run 1 (ps' := (20, [some (.inr (.inl 2)), some (.inl b), some (.inl i)], [.inl b, .inl (fpS n i i)], mW (n, T, h, t, x) M, 0, 0)) rfl ?_
    refine m_icmp rfl ⟨by omega, by omega⟩ hb (fun (zc2 : ¬ (fpS n i i) = b) => ?_) (fun (zc2 : ¬ ¬ (fpS n i i) = b) => ?_)
    · refine m_run 2 (ps' := (2, [some (.inr (.inl 2)), some (.inl b), some (.inl (i + 1))], [], mW (n, T, h, t, x) M, 0, 0)) rfl ?_
      refine m_weak [some (.inr (.inl 2)), some (.inl b), some (.inl (i + 1))] ⟨rfl, ⟨rfl, ⟨rfl, trivial⟩⟩⟩ ?_
      rw [all_t hi2 (by rw [decide_eq_false zc2]; rfl)]
      exact ih
    · replace zc2 : (fpS n i i) = b := Decidable.not_not.mp zc2
      refine m_run 1 (ps' := (24, [some (.inr (.inl 2)), some (.inl b), some (.inl i)], [.inl 1], mW (n, T, h, t, x) M, 0, 0)) rfl ?_
      exact m_ret1 rfl (Or.inr ⟨rfl, Or.inr rfl⟩) rfl (m_Vi (by rw [all_f hi2 (by rw [decide_eq_true zc2]; rfl)]; rfl))
set_option maxHeartbeats 4000000 in
set_option maxRecDepth 100000 in
theorem k_sq {X : Nat × Nat × (Nat → Int32)} {n : Int} {T : Int → Int} {h : HS} {t : TS} {x : XS} {M : MS} {b : Int} (hn : okN n) (hb : m_R b) : m_Run X 26 [.inr (.inl 2), .inl b] (mW (n, T, h, t, x) M) (m_V (bI (sqS n b)) (mW (n, T, h, t, x) M)) := by
  have hl := okN_lo hn
  show m_Sem X 26 (0, [some (.inr (.inl 2)), some (.inl b), none], [], mW (n, T, h, t, x) M, 0, 0) _
  refine m_run 2 (ps' := (2, [some (.inr (.inl 2)), some (.inl b), some (.inl 0)], [], mW (n, T, h, t, x) M, 0, 0)) rfl ?_
  refine m_weak [some (.inr (.inl 2)), some (.inl b), some (.inl 0)] ⟨rfl, ⟨rfl, ⟨rfl, trivial⟩⟩⟩ ?_
  have h0 := l_sq (X := X) (T := T) (h := h) (t := t) (x := x) (M := M) hn hb 0 (by omega) (by omega)
  rw [z_sub] at h0
  exact h0
set_option maxHeartbeats 4000000 in
set_option maxRecDepth 100000 in
theorem k_set {X : Nat × Nat × (Nat → Int32)} {n : Int} {T : Int → Int} {h : HS} {t : TS} {x : XS} {M : MS} {a b r : Int} (hr : m_R r) (hT : m_R (T (9 * a + b))) (h1 : 0 ≤ 9 * a + b) (h2 : 9 * a + b < 81) (h3 : m_R a) (h4 : m_R b) : m_Run X 20 [.inr (.inl 2), .inl a, .inl b, .inl r] (mW (n, T, h, t, x) M) (m_V (if T (9 * a + b) = r then 0 else 1) (mW (n, (m_up T (9 * a + b) r), h, t, x) M)) := by
  show m_Sem X 20 (0, [some (.inr (.inl 2)), some (.inl a), some (.inl b), some (.inl r), none], [], mW (n, T, h, t, x) M, 0, 0) _
  refine m_run 7 (ps' := (10, [some (.inr (.inl 2)), some (.inl a), some (.inl b), some (.inl r), some (.inl ((9 * a) + b))], [.inl ((9 * a) + b)], mW (n, T, h, t, x) M, 0, 0)) rfl ?_
  refine m_if rfl ⟨by omega, by omega⟩ (fun (zc1 : ((9 * a) + b) < 0) => absurd zc1 (by omega)) (fun (zc1 : ¬ ((9 * a) + b) < 0) => ?_)
  refine m_run 4 (ps' := (20, [some (.inr (.inl 2)), some (.inl a), some (.inl b), some (.inl r), some (.inl ((9 * a) + b))], [.inl 81, .inl ((9 * a) + b)], mW (n, T, h, t, x) M, 0, 0)) rfl ?_
  refine m_icmp rfl ⟨by omega, by omega⟩ ⟨by omega, by omega⟩ (fun (zc2 : 81 ≤ ((9 * a) + b)) => absurd zc2 (by omega)) (fun (zc2 : ¬ 81 ≤ ((9 * a) + b)) => ?_)
  refine m_run 3 (ps' := (29, [some (.inr (.inl 2)), some (.inl a), some (.inl b), some (.inl r), some (.inl ((9 * a) + b))], [.inl ((9 * a) + b), .inr (.inl 3)], mW (n, T, h, t, x) M, 0, 0)) rfl ?_
  refine m_iald rfl rfl (by omega) (by omega) (by decide) ?_
  refine m_run 1 (ps' := (31, [some (.inr (.inl 2)), some (.inl a), some (.inl b), some (.inl r), some (.inl ((9 * a) + b))], [.inl r, .inl (T ((9 * a) + b))], mW (n, T, h, t, x) M, 0, 0)) rfl ?_
  refine m_icmp rfl hT hr (fun (zc3 : ¬ (T ((9 * a) + b)) = r) => ?_) (fun (zc3 : ¬ ¬ (T ((9 * a) + b)) = r) => ?_)
  · refine m_run 4 (ps' := (43, [some (.inr (.inl 2)), some (.inl a), some (.inl b), some (.inl r), some (.inl ((9 * a) + b))], [.inl r, .inl ((9 * a) + b), .inr (.inl 3)], mW (n, T, h, t, x) M, 0, 0)) rfl ?_
    refine m_iast rfl rfl (by omega) (by omega) (by decide) ?_
    show m_Sem X 20 (44, [some (.inr (.inl 2)), some (.inl a), some (.inl b), some (.inl r), some (.inl ((9 * a) + b))], [], mW (n, (m_up T ((9 * a) + b) r), h, t, x) M, 0, 0) _
    refine m_run 1 (ps' := (45, [some (.inr (.inl 2)), some (.inl a), some (.inl b), some (.inl r), some (.inl ((9 * a) + b))], [.inl 1], mW (n, (m_up T ((9 * a) + b) r), h, t, x) M, 0, 0)) rfl ?_
    exact m_ret1 rfl (Or.inl rfl) rfl (m_Vi (by rw [if_neg zc3]))
  · replace zc3 : (T ((9 * a) + b)) = r := Decidable.not_not.mp zc3
    refine m_run 1 (ps' := (35, [some (.inr (.inl 2)), some (.inl a), some (.inl b), some (.inl r), some (.inl ((9 * a) + b))], [.inl 0], mW (n, T, h, t, x) M, 0, 0)) rfl ?_
    exact m_ret1 rfl (Or.inl rfl) rfl (m_Vw (by rw [if_pos zc3]) (by rw [← m_up_id T zc3]))
def zeroS (n : Int) (tb : Int → Int → Int) : Int := sumF (fun a => sumF (fun b => (if tb a b = 0 then 1 else 0)) n.toNat 0) n.toNat 0
set_option maxHeartbeats 4000000 in
set_option maxRecDepth 100000 in
theorem l_zeroI {X : Nat × Nat × (Nat → Int32)} {n : Int} {T : Int → Int} {h : HS} {t : TS} {x : XS} {M : MS} {tb : Int → Int → Int} {a : Int} {Q : Option mPV → mPW → Prop} {v : Int} (hR : repC n T tb) (ha : 0 ≤ a) (ha2 : a < n) (K : m_Sem X 25 (4, [some (.inr (.inl 2)), some (.inl v), some (.inl (a + 1)), none], [], mW (n, T, h, t, x) M, 0, 0) Q) : ∀ b : Int, 0 ≤ b → b ≤ n → ∀ (u : Int) (hu : u + sumF (fun b => (if tb a b = 0 then 1 else 0)) (n - b).toNat b = v), m_Sem X 25 (14, [some (.inr (.inl 2)), some (.inl u), some (.inl a), some (.inl b)], [], mW (n, T, h, t, x) M, 0, 0) (Q) := by
  have hn := hR.1
  have hl := okN_lo hn
  refine m_down 0 n ?_ ?_
  · intro u hu
    rw [sum_end] at hu
    have hu : u = v := by omega
    subst hu
    show m_Sem X 25 (14, [some (.inr (.inl 2)), some (.inl u), some (.inl a), some (.inl n)], [], mW (n, T, h, t, x) M, 0, 0) _
    refine m_run 3 (ps' := (19, [some (.inr (.inl 2)), some (.inl u), some (.inl a), some (.inl n)], [.inl n, .inl n], mW (n, T, h, t, x) M, 0, 0)) rfl ?_
    refine m_icmp rfl ⟨by omega, by omega⟩ ⟨by omega, by omega⟩ (fun (zc1 : n ≤ n) => ?_) (fun (zc1 : ¬ n ≤ n) => absurd zc1 (not_not_intro (by omega)))
    refine m_run 2 (ps' := (4, [some (.inr (.inl 2)), some (.inl u), some (.inl (a + 1)), some (.inl n)], [], mW (n, T, h, t, x) M, 0, 0)) rfl ?_
    refine m_weak [some (.inr (.inl 2)), some (.inl u), some (.inl (a + 1)), none] ⟨rfl, ⟨rfl, ⟨rfl, trivial⟩⟩⟩ ?_
    exact K
  · intro b hi1 hi2 ih u hu
    rw [sum_step hi2] at hu
    refine m_run 3 (ps' := (19, [some (.inr (.inl 2)), some (.inl u), some (.inl a), some (.inl b)], [.inl n, .inl b], mW (n, T, h, t, x) M, 0, 0)) rfl ?_
    refine m_icmp rfl ⟨by omega, by omega⟩ ⟨by omega, by omega⟩ (fun (zc1 : n ≤ b) => absurd zc1 (by omega)) (fun (zc1 : ¬ n ≤ b) => ?_)
    refine m_run 3 (ps' := (25, [some (.inr (.inl 2)), some (.inl u), some (.inl a), some (.inl b)], [.inl b, .inl a, .inr (.inl 2)], mW (n, T, h, t, x) M, 0, 0)) rfl ?_
    refine m_callVF [.inl a, .inl b] [] rfl rfl ⟨_, rfl, rfl⟩ rfl rfl (k_times (a := a) (b := b) hR (by omega) (by omega) (by omega) (by omega)) ?_
    have zt1 := (hR.2 a b (by omega) (by omega) (by omega) (by omega)).2
    show m_Sem X 25 (28, [some (.inr (.inl 2)), some (.inl u), some (.inl a), some (.inl b)], [.inl (tb a b)], mW (n, T, h, t, x) M, 0, 0) _
    refine m_if rfl ⟨by omega, by omega⟩ (fun (zc2 : ¬ (tb a b) = 0) => ?_) (fun (zc2 : ¬ ¬ (tb a b) = 0) => ?_)
    · refine m_run 2 (ps' := (14, [some (.inr (.inl 2)), some (.inl u), some (.inl a), some (.inl (b + 1))], [], mW (n, T, h, t, x) M, 0, 0)) rfl ?_
      refine m_weak [some (.inr (.inl 2)), some (.inl u), some (.inl a), some (.inl (b + 1))] ⟨rfl, ⟨rfl, ⟨rfl, ⟨rfl, trivial⟩⟩⟩⟩ ?_
      refine ih _ ?_
      rw [← hu]
      simp only [zc2, if_true, if_false]
      omega
    · replace zc2 : (tb a b) = 0 := Decidable.not_not.mp zc2
      refine m_run 3 (ps' := (14, [some (.inr (.inl 2)), some (.inl (u + 1)), some (.inl a), some (.inl (b + 1))], [], mW (n, T, h, t, x) M, 0, 0)) rfl ?_
      refine m_weak [some (.inr (.inl 2)), some (.inl (u + 1)), some (.inl a), some (.inl (b + 1))] ⟨rfl, ⟨rfl, ⟨rfl, ⟨rfl, trivial⟩⟩⟩⟩ ?_
      refine ih _ ?_
      rw [← hu]
      simp only [zc2, if_true, if_false]
      omega
set_option maxHeartbeats 4000000 in
set_option maxRecDepth 100000 in
theorem l_zeroO {X : Nat × Nat × (Nat → Int32)} {n : Int} {T : Int → Int} {h : HS} {t : TS} {x : XS} {M : MS} {tb : Int → Int → Int} {Q : Option mPV → mPW → Prop} {v : Int} (hR : repC n T tb) (K : Q (some (.inl v)) (mW (n, T, h, t, x) M)) : ∀ a : Int, 0 ≤ a → a ≤ n → ∀ (u : Int) (hu : u + sumF (fun a => sumF (fun b => (if tb a b = 0 then 1 else 0)) n.toNat 0) (n - a).toNat a = v), m_Sem X 25 (4, [some (.inr (.inl 2)), some (.inl u), some (.inl a), none], [], mW (n, T, h, t, x) M, 0, 0) (Q) := by
  have hn := hR.1
  have hl := okN_lo hn
  refine m_down 0 n ?_ ?_
  · intro u hu
    rw [sum_end] at hu
    have hu : u = v := by omega
    subst hu
    show m_Sem X 25 (4, [some (.inr (.inl 2)), some (.inl u), some (.inl n), none], [], mW (n, T, h, t, x) M, 0, 0) _
    refine m_run 3 (ps' := (9, [some (.inr (.inl 2)), some (.inl u), some (.inl n), none], [.inl n, .inl n], mW (n, T, h, t, x) M, 0, 0)) rfl ?_
    refine m_icmp rfl ⟨by omega, by omega⟩ ⟨by omega, by omega⟩ (fun (zc1 : n ≤ n) => ?_) (fun (zc1 : ¬ n ≤ n) => absurd zc1 (not_not_intro (by omega)))
    refine m_run 1 (ps' := (47, [some (.inr (.inl 2)), some (.inl u), some (.inl n), none], [.inl u], mW (n, T, h, t, x) M, 0, 0)) rfl ?_
    exact m_ret1 rfl (Or.inl rfl) rfl K
  · intro a hi1 hi2 ih u hu
    rw [sum_step hi2] at hu
    refine m_run 3 (ps' := (9, [some (.inr (.inl 2)), some (.inl u), some (.inl a), none], [.inl n, .inl a], mW (n, T, h, t, x) M, 0, 0)) rfl ?_
    refine m_icmp rfl ⟨by omega, by omega⟩ ⟨by omega, by omega⟩ (fun (zc1 : n ≤ a) => absurd zc1 (by omega)) (fun (zc1 : ¬ n ≤ a) => ?_)
    refine m_run 2 (ps' := (14, [some (.inr (.inl 2)), some (.inl u), some (.inl a), some (.inl 0)], [], mW (n, T, h, t, x) M, 0, 0)) rfl ?_
    refine m_weak [some (.inr (.inl 2)), some (.inl u), some (.inl a), some (.inl 0)] ⟨rfl, ⟨rfl, ⟨rfl, ⟨rfl, trivial⟩⟩⟩⟩ ?_
    refine l_zeroI (v := u + sumF (fun b => (if tb a b = 0 then 1 else 0)) n.toNat 0) hR hi1 hi2 ?_ 0 (by omega) (by omega) u (by rw [z_sub])
    exact ih _ (by rw [← hu]; omega)
set_option maxHeartbeats 4000000 in
set_option maxRecDepth 100000 in
theorem k_zero {X : Nat × Nat × (Nat → Int32)} {n : Int} {T : Int → Int} {h : HS} {t : TS} {x : XS} {M : MS} {tb : Int → Int → Int} (hR : repC n T tb) : m_Run X 25 [.inr (.inl 2)] (mW (n, T, h, t, x) M) (m_V (zeroS n tb) (mW (n, T, h, t, x) M)) := by
  have hn := hR.1
  have hl := okN_lo hn
  show m_Sem X 25 (0, [some (.inr (.inl 2)), none, none, none], [], mW (n, T, h, t, x) M, 0, 0) _
  refine m_run 4 (ps' := (4, [some (.inr (.inl 2)), some (.inl 0), some (.inl 0), none], [], mW (n, T, h, t, x) M, 0, 0)) rfl ?_
  refine m_weak [some (.inr (.inl 2)), some (.inl 0), some (.inl 0), none] ⟨rfl, ⟨rfl, ⟨rfl, trivial⟩⟩⟩ ?_
  exact l_zeroO (v := zeroS n tb) hR ⟨rfl, rfl⟩ 0 (by omega) (by omega) 0 (by rw [z_sub, Int.zero_add]; rfl)
def unlS (n : Int) (tb : Int → Int → Int) : Int := sumF (fun a => sumF (fun b => (if tb a b = fpS n a b then 0 else 1)) n.toNat 0) n.toNat 0
set_option maxHeartbeats 4000000 in
set_option maxRecDepth 100000 in
theorem l_unlI {X : Nat × Nat × (Nat → Int32)} {n : Int} {T : Int → Int} {h : HS} {t : TS} {x : XS} {M : MS} {tb : Int → Int → Int} {a : Int} {Q : Option mPV → mPW → Prop} {v : Int} (hR : repC n T tb) (ha : 0 ≤ a) (ha2 : a < n) (K : m_Sem X 24 (4, [some (.inr (.inl 2)), some (.inl v), some (.inl (a + 1)), none], [], mW (n, T, h, t, x) M, 0, 0) Q) : ∀ b : Int, 0 ≤ b → b ≤ n → ∀ (u : Int) (hu : u + sumF (fun b => (if tb a b = fpS n a b then 0 else 1)) (n - b).toNat b = v), m_Sem X 24 (14, [some (.inr (.inl 2)), some (.inl u), some (.inl a), some (.inl b)], [], mW (n, T, h, t, x) M, 0, 0) (Q) := by
  have hn := hR.1
  have hl := okN_lo hn
  refine m_down 0 n ?_ ?_
  · intro u hu
    rw [sum_end] at hu
    have hu : u = v := by omega
    subst hu
    show m_Sem X 24 (14, [some (.inr (.inl 2)), some (.inl u), some (.inl a), some (.inl n)], [], mW (n, T, h, t, x) M, 0, 0) _
    refine m_run 3 (ps' := (19, [some (.inr (.inl 2)), some (.inl u), some (.inl a), some (.inl n)], [.inl n, .inl n], mW (n, T, h, t, x) M, 0, 0)) rfl ?_
    refine m_icmp rfl ⟨by omega, by omega⟩ ⟨by omega, by omega⟩ (fun (zc1 : n ≤ n) => ?_) (fun (zc1 : ¬ n ≤ n) => absurd zc1 (not_not_intro (by omega)))
    refine m_run 2 (ps' := (4, [some (.inr (.inl 2)), some (.inl u), some (.inl (a + 1)), some (.inl n)], [], mW (n, T, h, t, x) M, 0, 0)) rfl ?_
    refine m_weak [some (.inr (.inl 2)), some (.inl u), some (.inl (a + 1)), none] ⟨rfl, ⟨rfl, ⟨rfl, trivial⟩⟩⟩ ?_
    exact K
  · intro b hi1 hi2 ih u hu
    rw [sum_step hi2] at hu
    refine m_run 3 (ps' := (19, [some (.inr (.inl 2)), some (.inl u), some (.inl a), some (.inl b)], [.inl n, .inl b], mW (n, T, h, t, x) M, 0, 0)) rfl ?_
    refine m_icmp rfl ⟨by omega, by omega⟩ ⟨by omega, by omega⟩ (fun (zc1 : n ≤ b) => absurd zc1 (by omega)) (fun (zc1 : ¬ n ≤ b) => ?_)
    refine m_run 3 (ps' := (25, [some (.inr (.inl 2)), some (.inl u), some (.inl a), some (.inl b)], [.inl b, .inl a, .inr (.inl 2)], mW (n, T, h, t, x) M, 0, 0)) rfl ?_
    refine m_callVF [.inl a, .inl b] [] rfl rfl ⟨_, rfl, rfl⟩ rfl rfl (k_times (a := a) (b := b) hR (by omega) (by omega) (by omega) (by omega)) ?_
    have zt1 := (hR.2 a b (by omega) (by omega) (by omega) (by omega)).2
    show m_Sem X 24 (28, [some (.inr (.inl 2)), some (.inl u), some (.inl a), some (.inl b)], [.inl (tb a b)], mW (n, T, h, t, x) M, 0, 0) _
    refine m_run 4 (ps' := (34, [some (.inr (.inl 2)), some (.inl u), some (.inl a), some (.inl b)], [.inl b, .inl a, .inl n, .inl (tb a b)], mW (n, T, h, t, x) M, 0, 0)) rfl ?_
    refine m_callSF [.inl n, .inl a, .inl b] [.inl (tb a b)] rfl rfl rfl (k_fp (a := a) (b := b) hn (by omega) (by omega) (by omega) (by omega)) ?_
    have zt2 := fpS_in (n := n) (a := a) (b := b) hn (by omega) (by omega) (by omega) (by omega)
    show m_Sem X 24 (37, [some (.inr (.inl 2)), some (.inl u), some (.inl a), some (.inl b)], [.inl (fpS n a b), .inl (tb a b)], mW (n, T, h, t, x) M, 0, 0) _
    refine m_icmp rfl ⟨by omega, by omega⟩ ⟨by omega, by omega⟩ (fun (zc2 : (tb a b) = (fpS n a b)) => ?_) (fun (zc2 : ¬ (tb a b) = (fpS n a b)) => ?_)
    · refine m_run 2 (ps' := (14, [some (.inr (.inl 2)), some (.inl u), some (.inl a), some (.inl (b + 1))], [], mW (n, T, h, t, x) M, 0, 0)) rfl ?_
      refine m_weak [some (.inr (.inl 2)), some (.inl u), some (.inl a), some (.inl (b + 1))] ⟨rfl, ⟨rfl, ⟨rfl, ⟨rfl, trivial⟩⟩⟩⟩ ?_
      refine ih _ ?_
      rw [← hu]
      simp only [zc2, if_true, if_false]
      omega
    · refine m_run 3 (ps' := (14, [some (.inr (.inl 2)), some (.inl (u + 1)), some (.inl a), some (.inl (b + 1))], [], mW (n, T, h, t, x) M, 0, 0)) rfl ?_
      refine m_weak [some (.inr (.inl 2)), some (.inl (u + 1)), some (.inl a), some (.inl (b + 1))] ⟨rfl, ⟨rfl, ⟨rfl, ⟨rfl, trivial⟩⟩⟩⟩ ?_
      refine ih _ ?_
      rw [← hu]
      simp only [zc2, if_true, if_false]
      omega
set_option maxHeartbeats 4000000 in
set_option maxRecDepth 100000 in
theorem l_unlO {X : Nat × Nat × (Nat → Int32)} {n : Int} {T : Int → Int} {h : HS} {t : TS} {x : XS} {M : MS} {tb : Int → Int → Int} {Q : Option mPV → mPW → Prop} {v : Int} (hR : repC n T tb) (K : Q (some (.inl v)) (mW (n, T, h, t, x) M)) : ∀ a : Int, 0 ≤ a → a ≤ n → ∀ (u : Int) (hu : u + sumF (fun a => sumF (fun b => (if tb a b = fpS n a b then 0 else 1)) n.toNat 0) (n - a).toNat a = v), m_Sem X 24 (4, [some (.inr (.inl 2)), some (.inl u), some (.inl a), none], [], mW (n, T, h, t, x) M, 0, 0) (Q) := by
  have hn := hR.1
  have hl := okN_lo hn
  refine m_down 0 n ?_ ?_
  · intro u hu
    rw [sum_end] at hu
    have hu : u = v := by omega
    subst hu
    show m_Sem X 24 (4, [some (.inr (.inl 2)), some (.inl u), some (.inl n), none], [], mW (n, T, h, t, x) M, 0, 0) _
    refine m_run 3 (ps' := (9, [some (.inr (.inl 2)), some (.inl u), some (.inl n), none], [.inl n, .inl n], mW (n, T, h, t, x) M, 0, 0)) rfl ?_
    refine m_icmp rfl ⟨by omega, by omega⟩ ⟨by omega, by omega⟩ (fun (zc1 : n ≤ n) => ?_) (fun (zc1 : ¬ n ≤ n) => absurd zc1 (not_not_intro (by omega)))
    refine m_run 1 (ps' := (56, [some (.inr (.inl 2)), some (.inl u), some (.inl n), none], [.inl u], mW (n, T, h, t, x) M, 0, 0)) rfl ?_
    exact m_ret1 rfl (Or.inl rfl) rfl K
  · intro a hi1 hi2 ih u hu
    rw [sum_step hi2] at hu
    refine m_run 3 (ps' := (9, [some (.inr (.inl 2)), some (.inl u), some (.inl a), none], [.inl n, .inl a], mW (n, T, h, t, x) M, 0, 0)) rfl ?_
    refine m_icmp rfl ⟨by omega, by omega⟩ ⟨by omega, by omega⟩ (fun (zc1 : n ≤ a) => absurd zc1 (by omega)) (fun (zc1 : ¬ n ≤ a) => ?_)
    refine m_run 2 (ps' := (14, [some (.inr (.inl 2)), some (.inl u), some (.inl a), some (.inl 0)], [], mW (n, T, h, t, x) M, 0, 0)) rfl ?_
    refine m_weak [some (.inr (.inl 2)), some (.inl u), some (.inl a), some (.inl 0)] ⟨rfl, ⟨rfl, ⟨rfl, ⟨rfl, trivial⟩⟩⟩⟩ ?_
    refine l_unlI (v := u + sumF (fun b => (if tb a b = fpS n a b then 0 else 1)) n.toNat 0) hR hi1 hi2 ?_ 0 (by omega) (by omega) u (by rw [z_sub])
    exact ih _ (by rw [← hu]; omega)
set_option maxHeartbeats 4000000 in
set_option maxRecDepth 100000 in
theorem k_unl {X : Nat × Nat × (Nat → Int32)} {n : Int} {T : Int → Int} {h : HS} {t : TS} {x : XS} {M : MS} {tb : Int → Int → Int} (hR : repC n T tb) : m_Run X 24 [.inr (.inl 2)] (mW (n, T, h, t, x) M) (m_V (unlS n tb) (mW (n, T, h, t, x) M)) := by
  have hn := hR.1
  have hl := okN_lo hn
  show m_Sem X 24 (0, [some (.inr (.inl 2)), none, none, none], [], mW (n, T, h, t, x) M, 0, 0) _
  refine m_run 4 (ps' := (4, [some (.inr (.inl 2)), some (.inl 0), some (.inl 0), none], [], mW (n, T, h, t, x) M, 0, 0)) rfl ?_
  refine m_weak [some (.inr (.inl 2)), some (.inl 0), some (.inl 0), none] ⟨rfl, ⟨rfl, ⟨rfl, trivial⟩⟩⟩ ?_
  exact l_unlO (v := unlS n tb) hR ⟨rfl, rfl⟩ 0 (by omega) (by omega) 0 (by rw [z_sub, Int.zero_add]; rfl)
/-- all places of the table hold small numbers, also those that are not in use -/
def okT (T : Int → Int) : Prop := ∀ j, 0 ≤ j → j < 81 → 0 ≤ T j ∧ T j < 9
theorem okT_up {T : Int → Int} (hT : okT T) {j v : Int} (h1 : 0 ≤ v) (h2 : v < 9) : okT (m_up T j v) := by
  intro i h3 h4
  unfold m_up
  split
  · exact ⟨h1, h2⟩
  · exact hT i h3 h4
def fill (n : Int) (F : Int → Int → Int) (T : Int → Int) (a b : Int) : Prop := ∀ a' b', 0 ≤ a' → 0 ≤ b' → b' < n → (a' < a ∨ (a' = a ∧ b' < b)) → T (9 * a' + b') = F a' b'
theorem fill_0 {n : Int} {F : Int → Int → Int} {T : Int → Int} : fill n F T 0 0 := fun a' b' h1 h2 h3 h4 => absurd h4 (by omega)
theorem fill_s {n : Int} {F : Int → Int → Int} {T : Int → Int} {a b v : Int} (h : fill n F T a b) (h1 : 0 ≤ b) (h2 : b < n) (h3 : n ≤ 9) (hv : v = F a b) : fill n F (m_up T (9 * a + b) v) a (b + 1) := by
  intro a' b' g1 g2 g3 g4
  by_cases he : 9 * a' + b' = 9 * a + b
  · rw [he, m_up_s, hv, show a' = a by omega, show b' = b by omega]
  · rw [m_up_n T v he]
    exact h a' b' g1 g2 g3 (by omega)
theorem fill_r {n : Int} {F : Int → Int → Int} {T : Int → Int} {a : Int} (h : fill n F T a n) : fill n F T (a + 1) 0 := fun a' b' g1 g2 g3 g4 => h a' b' g1 g2 g3 (by omega)
theorem fill_e {n : Int} {F : Int → Int → Int} {T : Int → Int} (h : fill n F T n 0) : ∀ a b, 0 ≤ a → a < n → 0 ≤ b → b < n → T (9 * a + b) = F a b := fun a b h1 h2 h3 h4 => h a b h1 h3 h4 (Or.inl h2)
set_option maxHeartbeats 4000000 in
set_option maxRecDepth 100000 in
theorem l_bfI {X : Nat × Nat × (Nat → Int32)} {n : Int} {h : HS} {t : TS} {x : XS} {M : MS} {a : Int} {Q : Option mPV → mPW → Prop} (hn : okN n) (ha : 0 ≤ a) (ha2 : a < n) (K : ∀ T : Int → Int, okT T → fill n (fpS n) T (a + 1) 0 → m_Sem X 21 (7, [some (.inr (.inl 2)), some (.inl n), some (.inl (a + 1)), none], [], mW (n, T, h, t, x) M, 0, 0) Q) : ∀ b : Int, 0 ≤ b → b ≤ n → ∀ (T : Int → Int) (hT : okT T) (hf : fill n (fpS n) T a b), m_Sem X 21 (14, [some (.inr (.inl 2)), some (.inl n), some (.inl a), some (.inl b)], [], mW (n, T, h, t, x) M, 0, 0) (Q) := by
  have hl := okN_lo hn
  refine m_down 0 n ?_ ?_
  · intro T hT hf
    show m_Sem X 21 (14, [some (.inr (.inl 2)), some (.inl n), some (.inl a), some (.inl n)], [], mW (n, T, h, t, x) M, 0, 0) _
    refine m_run 2 (ps' := (16, [some (.inr (.inl 2)), some (.inl n), some (.inl a), some (.inl n)], [.inl n, .inl n], mW (n, T, h, t, x) M, 0, 0)) rfl ?_
    refine m_icmp rfl ⟨by omega, by omega⟩ ⟨by omega, by omega⟩ (fun (zc1 : n ≤ n) => ?_) (fun (zc1 : ¬ n ≤ n) => absurd zc1 (not_not_intro (by omega)))
    refine m_run 2 (ps' := (7, [some (.inr (.inl 2)), some (.inl n), some (.inl (a + 1)), some (.inl n)], [], mW (n, T, h, t, x) M, 0, 0)) rfl ?_
    refine m_weak [some (.inr (.inl 2)), some (.inl n), some (.inl (a + 1)), none] ⟨rfl, ⟨rfl, ⟨rfl, trivial⟩⟩⟩ ?_
    exact K T hT (fill_r hf)
  · intro b hi1 hi2 ih T hT hf
    have hp := hT (9 * a + b) (by omega) (by omega)
    refine m_run 2 (ps' := (16, [some (.inr (.inl 2)), some (.inl n), some (.inl a), some (.inl b)], [.inl n, .inl b], mW (n, T, h, t, x) M, 0, 0)) rfl ?_
    refine m_icmp rfl ⟨by omega, by omega⟩ ⟨by omega, by omega⟩ (fun (zc1 : n ≤ b) => absurd zc1 (by omega)) (fun (zc1 : ¬ n ≤ b) => ?_)
    refine m_run 6 (ps' := (25, [some (.inr (.inl 2)), some (.inl n), some (.inl a), some (.inl b)], [.inl b, .inl a, .inl n, .inl b, .inl a, .inr (.inl 2)], mW (n, T, h, t, x) M, 0, 0)) rfl ?_
    refine m_callSF [.inl n, .inl a, .inl b] [.inl b, .inl a, .inr (.inl 2)] rfl rfl rfl (k_fp (a := a) (b := b) hn (by omega) (by omega) (by omega) (by omega)) ?_
    have zt1 := fpS_in (n := n) (a := a) (b := b) hn (by omega) (by omega) (by omega) (by omega)
    show m_Sem X 21 (28, [some (.inr (.inl 2)), some (.inl n), some (.inl a), some (.inl b)], [.inl (fpS n a b), .inl b, .inl a, .inr (.inl 2)], mW (n, T, h, t, x) M, 0, 0) _
    refine m_callVF [.inl a, .inl b, .inl (fpS n a b)] [] rfl rfl ⟨_, rfl, rfl⟩ rfl rfl (k_set (T := T) (a := a) (b := b) (r := (fpS n a b)) ⟨by omega, by omega⟩ ⟨by omega, by omega⟩ (by omega) (by omega) ⟨by omega, by omega⟩ ⟨by omega, by omega⟩) ?_
    show m_Sem X 21 (31, [some (.inr (.inl 2)), some (.inl n), some (.inl a), some (.inl b)], [.inl (if T (9 * a + b) = (fpS n a b) then 0 else 1)], mW (n, (m_up T (9 * a + b) (fpS n a b)), h, t, x) M, 0, 0) _
    refine m_run 3 (ps' := (14, [some (.inr (.inl 2)), some (.inl n), some (.inl a), some (.inl (b + 1))], [], mW (n, (m_up T (9 * a + b) (fpS n a b)), h, t, x) M, 0, 0)) rfl ?_
    refine m_weak [some (.inr (.inl 2)), some (.inl n), some (.inl a), some (.inl (b + 1))] ⟨rfl, ⟨rfl, ⟨rfl, ⟨rfl, trivial⟩⟩⟩⟩ ?_
    exact ih _ (okT_up hT (by omega) (by omega)) (fill_s hf hi1 hi2 (by omega) rfl)
set_option maxHeartbeats 4000000 in
set_option maxRecDepth 100000 in
theorem l_bfO {X : Nat × Nat × (Nat → Int32)} {n : Int} {h : HS} {t : TS} {x : XS} {M : MS} {Q : Option mPV → mPW → Prop} (hn : okN n) (K : ∀ T : Int → Int, okT T → fill n (fpS n) T n 0 → Q none (mW (n, T, h, t, x) M)) : ∀ a : Int, 0 ≤ a → a ≤ n → ∀ (T : Int → Int) (hT : okT T) (hf : fill n (fpS n) T a 0), m_Sem X 21 (7, [some (.inr (.inl 2)), some (.inl n), some (.inl a), none], [], mW (n, T, h, t, x) M, 0, 0) (Q) := by
  have hl := okN_lo hn
  refine m_down 0 n ?_ ?_
  · intro T hT hf
    show m_Sem X 21 (7, [some (.inr (.inl 2)), some (.inl n), some (.inl n), none], [], mW (n, T, h, t, x) M, 0, 0) _
    refine m_run 2 (ps' := (9, [some (.inr (.inl 2)), some (.inl n), some (.inl n), none], [.inl n, .inl n], mW (n, T, h, t, x) M, 0, 0)) rfl ?_
    refine m_icmp rfl ⟨by omega, by omega⟩ ⟨by omega, by omega⟩ (fun (zc1 : n ≤ n) => ?_) (fun (zc1 : ¬ n ≤ n) => absurd zc1 (not_not_intro (by omega)))
    exact m_ret0 rfl rfl rfl (K T hT hf)
  · intro a hi1 hi2 ih T hT hf
    refine m_run 2 (ps' := (9, [some (.inr (.inl 2)), some (.inl n), some (.inl a), none], [.inl n, .inl a], mW (n, T, h, t, x) M, 0, 0)) rfl ?_
    refine m_icmp rfl ⟨by omega, by omega⟩ ⟨by omega, by omega⟩ (fun (zc1 : n ≤ a) => absurd zc1 (by omega)) (fun (zc1 : ¬ n ≤ a) => ?_)
    refine m_run 2 (ps' := (14, [some (.inr (.inl 2)), some (.inl n), some (.inl a), some (.inl 0)], [], mW (n, T, h, t, x) M, 0, 0)) rfl ?_
    refine m_weak [some (.inr (.inl 2)), some (.inl n), some (.inl a), some (.inl 0)] ⟨rfl, ⟨rfl, ⟨rfl, ⟨rfl, trivial⟩⟩⟩⟩ ?_
    exact l_bfI hn hi1 hi2 ih 0 (by omega) (by omega) T hT hf
set_option maxHeartbeats 4000000 in
set_option maxRecDepth 100000 in
theorem k_bf {X : Nat × Nat × (Nat → Int32)} {n : Int} {h : HS} {t : TS} {x : XS} {M : MS} {n0 : Int} {T : Int → Int} (hn : okN n) (hT : okT T) : m_Run X 21 [.inr (.inl 2), .inl n] (mW (n0, T, h, t, x) M) (fun r w => r = none ∧ ∃ T2, w = mW (n, T2, h, t, x) M ∧ okT T2 ∧ ∀ a b, 0 ≤ a → a < n → 0 ≤ b → b < n → T2 (9 * a + b) = fpS n a b) := by
  have hl := okN_lo hn
  show m_Sem X 21 (0, [some (.inr (.inl 2)), some (.inl n), none, none], [], mW (n0, T, h, t, x) M, 0, 0) _
  refine m_run 5 (ps' := (7, [some (.inr (.inl 2)), some (.inl n), some (.inl 0), none], [], mW (n, T, h, t, x) M, 0, 0)) rfl ?_
  refine m_weak [some (.inr (.inl 2)), some (.inl n), some (.inl 0), none] ⟨rfl, ⟨rfl, ⟨rfl, trivial⟩⟩⟩ ?_
  exact l_bfO hn (fun T2 hT2 hf => ⟨rfl, T2, rfl, hT2, fill_e hf⟩) 0 (by omega) (by omega) T hT fill_0
def cubeS (a : Int) : Int := fpS 9 (fpS 9 a a) a
def twS (a b : Int) : Int := fpS 9 (bif sqS 9 b then a else cubeS a) b
/-- by columns -/
def fillT (F : Int → Int → Int) (tb : Int → Int → Int) (T : Int → Int) (b a : Int) : Prop := ∀ a' b', 0 ≤ a' → a' < 9 → 0 ≤ b' → b' < 9 → T (9 * a' + b') = if b' < b ∨ (b' = b ∧ a' < a) then F a' b' else tb a' b'
theorem fillT_s {F tb : Int → Int → Int} {T : Int → Int} {a b v : Int} (h : fillT F tb T b a) (h1 : 0 ≤ a) (h2 : a < 9) (h3 : 0 ≤ b) (h4 : b < 9) (hv : v = F a b) : fillT F tb (m_up T (9 * a + b) v) b (a + 1) := by
  intro a' b' g1 g2 g3 g4
  by_cases he : 9 * a' + b' = 9 * a + b
  · have e1 : a' = a := by omega
    have e2 : b' = b := by omega
    rw [he, m_up_s, hv, e1, e2, if_pos (by omega)]
  · rw [m_up_n T v he, h a' b' g1 g2 g3 g4]
    by_cases hc : b' < b ∨ (b' = b ∧ a' < a)
    · rw [if_pos hc, if_pos (by omega)]
    · rw [if_neg hc, if_neg (by omega)]
theorem fillT_r {F tb : Int → Int → Int} {T : Int → Int} {b : Int} (h : fillT F tb T b 9) : fillT F tb T (b + 1) 0 := by
  intro a' b' g1 g2 g3 g4
  rw [h a' b' g1 g2 g3 g4]
  by_cases hc : b' < b ∨ (b' = b ∧ a' < 9)
  · rw [if_pos hc, if_pos (by omega)]
  · rw [if_neg hc, if_neg (by omega)]
theorem cubeS_in {a : Int} (h1 : 0 ≤ a) (h2 : a < 9) : 0 ≤ cubeS a ∧ cubeS a < 9 := by
  have hn : okN 9 := by unfold okN; omega
  have h3 := fpS_in (n := 9) (a := a) (b := a) hn h1 h2 h1 h2
  exact fpS_in (n := 9) hn h3.1 h3.2 h1 h2
def twR (tb : Int → Int → Int) (b : Int) : Int := sumF (fun a => if tb a b = twS a b then 0 else 1) 9 0
def twC (tb : Int → Int → Int) : Int := sumF (twR tb) 9 0
set_option maxHeartbeats 4000000 in
set_option maxRecDepth 100000 in
theorem l_btI {X : Nat × Nat × (Nat → Int32)} {h : HS} {t : TS} {x : XS} {M : MS} {tb : Int → Int → Int} {b : Int} {Q : Option mPV → mPW → Prop} {v : Int} (hb : 0 ≤ b) (hb2 : b < 9) (K : ∀ T : Int → Int, okT T → fillT twS tb T (b + 1) 0 → m_Sem X 22 (4, [some (.inr (.inl 2)), some (.inl v), some (.inl (b + 1)), none, none, none], [], mW (9, T, h, t, x) M, 0, 0) Q) : ∀ a : Int, 0 ≤ a → a ≤ 9 → ∀ (T : Int → Int) (u : Int) (hT : okT T) (hf : fillT twS tb T b a) (hu : u + sumF (fun a => if tb a b = twS a b then 0 else 1) (9 - a).toNat a = v), m_Sem X 22 (21, [some (.inr (.inl 2)), some (.inl u), some (.inl b), some (.inl (bI (sqS 9 b))), some (.inl a), none], [], mW (9, T, h, t, x) M, 0, 0) (Q) := by
  have hn : okN 9 := by unfold okN; omega
  refine m_down 0 9 ?_ ?_
  · intro T u hT hf hu
    rw [sum_end] at hu
    have hu : u = v := by omega
    subst hu
    show m_Sem X 22 (21, [some (.inr (.inl 2)), some (.inl u), some (.inl b), some (.inl (bI (sqS 9 b))), some (.inl 9), none], [], mW (9, T, h, t, x) M, 0, 0) _
    refine m_run 3 (ps' := (27, [some (.inr (.inl 2)), some (.inl u), some (.inl b), some (.inl (bI (sqS 9 b))), some (.inl 9), none], [.inl 9, .inl 9], mW (9, T, h, t, x) M, 0, 0)) rfl ?_
    refine m_icmp rfl ⟨by omega, by omega⟩ ⟨by omega, by omega⟩ (fun (zc1 : 9 ≤ 9) => ?_) (fun (zc1 : ¬ 9 ≤ 9) => absurd zc1 (not_not_intro (by omega)))
    refine m_run 2 (ps' := (4, [some (.inr (.inl 2)), some (.inl u), some (.inl (b + 1)), some (.inl (bI (sqS 9 b))), some (.inl 9), none], [], mW (9, T, h, t, x) M, 0, 0)) rfl ?_
    refine m_weak [some (.inr (.inl 2)), some (.inl u), some (.inl (b + 1)), none, none, none] ⟨rfl, ⟨rfl, ⟨rfl, trivial⟩⟩⟩ ?_
    exact K T hT (fillT_r hf)
  · intro a hi1 hi2 ih T u hT hf hu
    rw [sum_step hi2] at hu
    have hp := hT (9 * a + b) (by omega) (by omega)
    have hpe := hf a b hi1 hi2 hb hb2
    rw [if_neg (by omega)] at hpe
    have zt0 := cubeS_in hi1 hi2
    refine m_run 3 (ps' := (27, [some (.inr (.inl 2)), some (.inl u), some (.inl b), some (.inl (bI (sqS 9 b))), some (.inl a), none], [.inl 9, .inl a], mW (9, T, h, t, x) M, 0, 0)) rfl ?_
    refine m_icmp rfl ⟨by omega, by omega⟩ ⟨by omega, by omega⟩ (fun (zc1 : 9 ≤ a) => absurd zc1 (by omega)) (fun (zc1 : ¬ 9 ≤ a) => ?_)
    refine m_run 6 (ps' := (42, [some (.inr (.inl 2)), some (.inl u), some (.inl b), some (.inl (bI (sqS 9 b))), some (.inl a), none], [.inl a, .inl a, .inl 9, .inl 9], mW (9, T, h, t, x) M, 0, 0)) rfl ?_
    refine m_callSF [.inl 9, .inl a, .inl a] [.inl 9] rfl rfl rfl (k_fp (a := a) (b := a) hn (by omega) (by omega) (by omega) (by omega)) ?_
    have zt1 := fpS_in (n := 9) (a := a) (b := a) hn (by omega) (by omega) (by omega) (by omega)
    show m_Sem X 22 (45, [some (.inr (.inl 2)), some (.inl u), some (.inl b), some (.inl (bI (sqS 9 b))), some (.inl a), none], [.inl (fpS 9 a a), .inl 9], mW (9, T, h, t, x) M, 0, 0) _
    refine m_run 1 (ps' := (47, [some (.inr (.inl 2)), some (.inl u), some (.inl b), some (.inl (bI (sqS 9 b))), some (.inl a), none], [.inl a, .inl (fpS 9 a a), .inl 9], mW (9, T, h, t, x) M, 0, 0)) rfl ?_
    refine m_callSF [.inl 9, .inl (fpS 9 a a), .inl a] [] rfl rfl rfl (k_fp (a := (fpS 9 a a)) (b := a) hn (by omega) (by omega) (by omega) (by omega)) ?_
    have zt2 := fpS_in (n := 9) (a := (fpS 9 a a)) (b := a) hn (by omega) (by omega) (by omega) (by omega)
    show m_Sem X 22 (50, [some (.inr (.inl 2)), some (.inl u), some (.inl b), some (.inl (bI (sqS 9 b))), some (.inl a), none], [.inl (fpS 9 (fpS 9 a a) a)], mW (9, T, h, t, x) M, 0, 0) _
    refine m_run 8 (ps' := (62, [some (.inr (.inl 2)), some (.inl u), some (.inl b), some (.inl (bI (sqS 9 b))), some (.inl a), some (.inl (fpS 9 (fpS 9 a a) a))], [.inl (bI (sqS 9 b)), .inl 9, .inl b, .inl a, .inr (.inl 2), .inl u], mW (9, T, h, t, x) M, 0, 0)) rfl ?_
    refine m_if rfl (bI_R (sqS 9 b)) (fun (zc2 : (bI (sqS 9 b)) = 0) => ?_) (fun (zc2 : ¬ (bI (sqS 9 b)) = 0) => ?_)
    · replace zc2 : (sqS 9 b) = false := bI_e0.mp zc2
      refine m_run 2 (ps' := (73, [some (.inr (.inl 2)), some (.inl u), some (.inl b), some (.inl (bI (sqS 9 b))), some (.inl a), some (.inl (fpS 9 (fpS 9 a a) a))], [.inl b, .inl (fpS 9 (fpS 9 a a) a), .inl 9, .inl b, .inl a, .inr (.inl 2), .inl u], mW (9, T, h, t, x) M, 0, 0)) rfl ?_
      refine m_callSF [.inl 9, .inl (fpS 9 (fpS 9 a a) a), .inl b] [.inl b, .inl a, .inr (.inl 2), .inl u] rfl rfl rfl (k_fp (a := (fpS 9 (fpS 9 a a) a)) (b := b) hn (by omega) (by omega) (by omega) (by omega)) ?_
      have zt3 := fpS_in (n := 9) (a := (fpS 9 (fpS 9 a a) a)) (b := b) hn (by omega) (by omega) (by omega) (by omega)
      show m_Sem X 22 (76, [some (.inr (.inl 2)), some (.inl u), some (.inl b), some (.inl (bI (sqS 9 b))), some (.inl a), some (.inl (fpS 9 (fpS 9 a a) a))], [.inl (fpS 9 (fpS 9 (fpS 9 a a) a) b), .inl b, .inl a, .inr (.inl 2), .inl u], mW (9, T, h, t, x) M, 0, 0) _
      refine m_callVF [.inl a, .inl b, .inl (fpS 9 (fpS 9 (fpS 9 a a) a) b)] [.inl u] rfl rfl ⟨_, rfl, rfl⟩ rfl rfl (k_set (T := T) (a := a) (b := b) (r := (fpS 9 (fpS 9 (fpS 9 a a) a) b)) ⟨by omega, by omega⟩ ⟨by omega, by omega⟩ (by omega) (by omega) ⟨by omega, by omega⟩ ⟨by omega, by omega⟩) ?_
      show m_Sem X 22 (79, [some (.inr (.inl 2)), some (.inl u), some (.inl b), some (.inl (bI (sqS 9 b))), some (.inl a), some (.inl (fpS 9 (fpS 9 a a) a))], [.inl (if T (9 * a + b) = (fpS 9 (fpS 9 (fpS 9 a a) a) b) then 0 else 1), .inl u], mW (9, (m_up T (9 * a + b) (fpS 9 (fpS 9 (fpS 9 a a) a) b)), h, t, x) M, 0, 0) _
      refine m_run 4 (ps' := (21, [some (.inr (.inl 2)), some (.inl (u + (if T (9 * a + b) = (fpS 9 (fpS 9 (fpS 9 a a) a) b) then 0 else 1))), some (.inl b), some (.inl (bI (sqS 9 b))), some (.inl (a + 1)), some (.inl (fpS 9 (fpS 9 a a) a))], [], mW (9, (m_up T (9 * a + b) (fpS 9 (fpS 9 (fpS 9 a a) a) b)), h, t, x) M, 0, 0)) rfl ?_
      refine m_weak [some (.inr (.inl 2)), some (.inl (u + (if T (9 * a + b) = (fpS 9 (fpS 9 (fpS 9 a a) a) b) then 0 else 1))), some (.inl b), some (.inl (bI (sqS 9 b))), some (.inl (a + 1)), none] ⟨rfl, ⟨rfl, ⟨rfl, ⟨rfl, ⟨rfl, trivial⟩⟩⟩⟩⟩ ?_
      have htw : twS a b = fpS 9 (bif sqS 9 b then a else cubeS a) b := rfl
      rw [zc2] at htw
      simp only [cond_true, cond_false, cubeS] at htw
      refine ih _ _ (okT_up hT (by omega) (by omega)) (fillT_s hf hi1 hi2 hb hb2 htw.symm) ?_
      rw [← hu, hpe, htw]
      omega
    · replace zc2 : (sqS 9 b) = true := bI_n0.mp zc2
      refine m_run 3 (ps' := (73, [some (.inr (.inl 2)), some (.inl u), some (.inl b), some (.inl (bI (sqS 9 b))), some (.inl a), some (.inl (fpS 9 (fpS 9 a a) a))], [.inl b, .inl a, .inl 9, .inl b, .inl a, .inr (.inl 2), .inl u], mW (9, T, h, t, x) M, 0, 0)) rfl ?_
      refine m_callSF [.inl 9, .inl a, .inl b] [.inl b, .inl a, .inr (.inl 2), .inl u] rfl rfl rfl (k_fp (a := a) (b := b) hn (by omega) (by omega) (by omega) (by omega)) ?_
      have zt3 := fpS_in (n := 9) (a := a) (b := b) hn (by omega) (by omega) (by omega) (by omega)
      show m_Sem X 22 (76, [some (.inr (.inl 2)), some (.inl u), some (.inl b), some (.inl (bI (sqS 9 b))), some (.inl a), some (.inl (fpS 9 (fpS 9 a a) a))], [.inl (fpS 9 a b), .inl b, .inl a, .inr (.inl 2), .inl u], mW (9, T, h, t, x) M, 0, 0) _
      refine m_callVF [.inl a, .inl b, .inl (fpS 9 a b)] [.inl u] rfl rfl ⟨_, rfl, rfl⟩ rfl rfl (k_set (T := T) (a := a) (b := b) (r := (fpS 9 a b)) ⟨by omega, by omega⟩ ⟨by omega, by omega⟩ (by omega) (by omega) ⟨by omega, by omega⟩ ⟨by omega, by omega⟩) ?_
      show m_Sem X 22 (79, [some (.inr (.inl 2)), some (.inl u), some (.inl b), some (.inl (bI (sqS 9 b))), some (.inl a), some (.inl (fpS 9 (fpS 9 a a) a))], [.inl (if T (9 * a + b) = (fpS 9 a b) then 0 else 1), .inl u], mW (9, (m_up T (9 * a + b) (fpS 9 a b)), h, t, x) M, 0, 0) _
      refine m_run 4 (ps' := (21, [some (.inr (.inl 2)), some (.inl (u + (if T (9 * a + b) = (fpS 9 a b) then 0 else 1))), some (.inl b), some (.inl (bI (sqS 9 b))), some (.inl (a + 1)), some (.inl (fpS 9 (fpS 9 a a) a))], [], mW (9, (m_up T (9 * a + b) (fpS 9 a b)), h, t, x) M, 0, 0)) rfl ?_
      refine m_weak [some (.inr (.inl 2)), some (.inl (u + (if T (9 * a + b) = (fpS 9 a b) then 0 else 1))), some (.inl b), some (.inl (bI (sqS 9 b))), some (.inl (a + 1)), none] ⟨rfl, ⟨rfl, ⟨rfl, ⟨rfl, ⟨rfl, trivial⟩⟩⟩⟩⟩ ?_
      have htw : twS a b = fpS 9 (bif sqS 9 b then a else cubeS a) b := rfl
      rw [zc2] at htw
      simp only [cond_true, cond_false, cubeS] at htw
      refine ih _ _ (okT_up hT (by omega) (by omega)) (fillT_s hf hi1 hi2 hb hb2 htw.symm) ?_
      rw [← hu, hpe, htw]
      omega
set_option maxHeartbeats 4000000 in
set_option maxRecDepth 100000 in
theorem l_btO {X : Nat × Nat × (Nat → Int32)} {h : HS} {t : TS} {x : XS} {M : MS} {tb : Int → Int → Int} {Q : Option mPV → mPW → Prop} {v : Int} (K : ∀ T : Int → Int, okT T → fillT twS tb T 9 0 → Q (some (.inl v)) (mW (9, T, h, t, x) M)) : ∀ b : Int, 0 ≤ b → b ≤ 9 → ∀ (T : Int → Int) (u : Int) (hT : okT T) (hf : fillT twS tb T b 0) (hu : u + sumF (twR tb) (9 - b).toNat b = v), m_Sem X 22 (4, [some (.inr (.inl 2)), some (.inl u), some (.inl b), none, none, none], [], mW (9, T, h, t, x) M, 0, 0) (Q) := by
  have hn : okN 9 := by unfold okN; omega
  refine m_down 0 9 ?_ ?_
  · intro T u hT hf hu
    rw [sum_end] at hu
    have hu : u = v := by omega
    subst hu
    show m_Sem X 22 (4, [some (.inr (.inl 2)), some (.inl u), some (.inl 9), none, none, none], [], mW (9, T, h, t, x) M, 0, 0) _
    refine m_run 3 (ps' := (9, [some (.inr (.inl 2)), some (.inl u), some (.inl 9), none, none, none], [.inl 9, .inl 9], mW (9, T, h, t, x) M, 0, 0)) rfl ?_
    refine m_icmp rfl ⟨by omega, by omega⟩ ⟨by omega, by omega⟩ (fun (zc1 : 9 ≤ 9) => ?_) (fun (zc1 : ¬ 9 ≤ 9) => absurd zc1 (not_not_intro (by omega)))
    refine m_run 1 (ps' := (94, [some (.inr (.inl 2)), some (.inl u), some (.inl 9), none, none, none], [.inl u], mW (9, T, h, t, x) M, 0, 0)) rfl ?_
    exact m_ret1 rfl (Or.inl rfl) rfl (K T hT hf)
  · intro b hi1 hi2 ih T u hT hf hu
    rw [sum_step hi2] at hu
    refine m_run 3 (ps' := (9, [some (.inr (.inl 2)), some (.inl u), some (.inl b), none, none, none], [.inl 9, .inl b], mW (9, T, h, t, x) M, 0, 0)) rfl ?_
    refine m_icmp rfl ⟨by omega, by omega⟩ ⟨by omega, by omega⟩ (fun (zc1 : 9 ≤ b) => absurd zc1 (by omega)) (fun (zc1 : ¬ 9 ≤ b) => ?_)
    refine m_run 2 (ps' := (14, [some (.inr (.inl 2)), some (.inl u), some (.inl b), none, none, none], [.inl b, .inr (.inl 2)], mW (9, T, h, t, x) M, 0, 0)) rfl ?_
    refine m_callVF [.inl b] [] rfl rfl ⟨_, rfl, rfl⟩ rfl rfl (k_sq (b := b) hn ⟨by omega, by omega⟩) ?_
    show m_Sem X 22 (17, [some (.inr (.inl 2)), some (.inl u), some (.inl b), none, none, none], [.inl (bI (sqS 9 b))], mW (9, T, h, t, x) M, 0, 0) _
    refine m_run 3 (ps' := (21, [some (.inr (.inl 2)), some (.inl u), some (.inl b), some (.inl (bI (sqS 9 b))), some (.inl 0), none], [], mW (9, T, h, t, x) M, 0, 0)) rfl ?_
    refine m_weak [some (.inr (.inl 2)), some (.inl u), some (.inl b), some (.inl (bI (sqS 9 b))), some (.inl 0), none] ⟨rfl, ⟨rfl, ⟨rfl, ⟨rfl, ⟨rfl, trivial⟩⟩⟩⟩⟩ ?_
    exact l_btI (v := u + twR tb b) hi1 hi2 (fun T2 hT2 hf2 => ih T2 _ hT2 hf2 (by rw [← hu]; omega)) 0 (by omega) (by omega) T u hT hf rfl
set_option maxHeartbeats 4000000 in
set_option maxRecDepth 100000 in
theorem k_bt {X : Nat × Nat × (Nat → Int32)} {h : HS} {t : TS} {x : XS} {M : MS} {tb : Int → Int → Int} {T : Int → Int} (hR : repC 9 T tb) (hT : okT T) : m_Run X 22 [.inr (.inl 2)] (mW (9, T, h, t, x) M) (fun r w => r = some (.inl (twC tb)) ∧ ∃ T2, w = mW (9, T2, h, t, x) M ∧ okT T2 ∧ ∀ a b, 0 ≤ a → a < 9 → 0 ≤ b → b < 9 → T2 (9 * a + b) = twS a b) := by
  show m_Sem X 22 (0, [some (.inr (.inl 2)), none, none, none, none, none], [], mW (9, T, h, t, x) M, 0, 0) _
  refine m_run 4 (ps' := (4, [some (.inr (.inl 2)), some (.inl 0), some (.inl 0), none, none, none], [], mW (9, T, h, t, x) M, 0, 0)) rfl ?_
  refine m_weak [some (.inr (.inl 2)), some (.inl 0), some (.inl 0), none, none, none] ⟨rfl, ⟨rfl, ⟨rfl, trivial⟩⟩⟩ ?_
  have g0 : fillT twS tb T 0 0 := fun a b h1 h2 h3 h4 => by
    rw [if_neg (by omega)]; exact (hR.2 a b h1 h2 h3 h4).1
  exact l_btO (v := twC tb) (fun T2 hT2 hf => ⟨rfl, T2, rfl, hT2, fun a b h1 h2 h3 h4 => by rw [hf a b h1 h2 h3 h4, if_pos (by omega)]⟩) 0 (by omega) (by omega) T 0 hT g0 (by rw [Int.zero_add]; rfl)
def exR (tb : Int → Int → Int) (a : Int) : Int := sumF (fun b => if tb a b = tb b a then 0 else 2) a.toNat 0
def exC (n : Int) (tb : Int → Int → Int) : Int := sumF (exR tb) n.toNat 0
/-- rows below a are exchanged, of row a those below b -/
def fillX (n : Int) (tb : Int → Int → Int) (T : Int → Int) (a b : Int) : Prop := ∀ a' b', 0 ≤ a' → a' < n → 0 ≤ b' → b' < n → T (9 * a' + b') = if (a' < a ∧ b' < a) ∨ (a' = a ∧ b' < b) ∨ (b' = a ∧ a' < b) then tb b' a' else tb a' b'
theorem fillX_s {n : Int} {tb : Int → Int → Int} {T : Int → Int} {a b : Int} (h : fillX n tb T a b) (hn : n ≤ 9) (h1 : 0 ≤ b) (h2 : b < a) (h3 : a < n) : fillX n tb (m_up (m_up T (9 * a + b) (tb b a)) (9 * b + a) (tb a b)) a (b + 1) := by
  intro a' b' g1 g2 g3 g4
  by_cases he : 9 * a' + b' = 9 * b + a
  · have e1 : a' = b := by omega
    have e2 : b' = a := by omega
    rw [he, m_up_s, e1, e2, if_pos (by omega)]
  · rw [m_up_n _ _ he]
    by_cases he2 : 9 * a' + b' = 9 * a + b
    · have e1 : a' = a := by omega
      have e2 : b' = b := by omega
      rw [he2, m_up_s, e1, e2, if_pos (by omega)]
    · rw [m_up_n _ _ he2, h a' b' g1 g2 g3 g4]
      by_cases hc : (a' < a ∧ b' < a) ∨ (a' = a ∧ b' < b) ∨ (b' = a ∧ a' < b)
      · rw [if_pos hc, if_pos (by omega)]
      · rw [if_neg hc, if_neg (by omega)]
theorem fillX_r {n : Int} {tb : Int → Int → Int} {T : Int → Int} {a : Int} (h : fillX n tb T a a) : fillX n tb T (a + 1) 0 := by
  intro a' b' g1 g2 g3 g4
  rw [h a' b' g1 g2 g3 g4]
  by_cases hd : a' = a ∧ b' = a
  · rw [hd.1, hd.2]; simp
  · by_cases hc : (a' < a ∧ b' < a) ∨ (a' = a ∧ b' < a) ∨ (b' = a ∧ a' < a)
    · rw [if_pos hc, if_pos (by omega)]
    · rw [if_neg hc, if_neg (by omega)]
theorem m_up_same {T : Int → Int} {j k v : Int} (h : ¬ k = j) : m_up T j v k = T k := m_up_n T v h
set_option maxHeartbeats 4000000 in
set_option maxRecDepth 100000 in
theorem k_raw {X : Nat × Nat × (Nat → Int32)} {n : Int} {T : Int → Int} {h : HS} {t : TS} {x : XS} {M : MS} {a b : Int} (h1 : 0 ≤ 9 * a + b) (h2 : 9 * a + b < 81) (h3 : m_R a := by exact ⟨by omega, by omega⟩) : m_Run X 17 [.inr (.inl 2), .inl a, .inl b] (mW (n, T, h, t, x) M) (m_V (T (9 * a + b)) (mW (n, T, h, t, x) M)) := by
  show m_Sem X 17 (0, [some (.inr (.inl 2)), some (.inl a), some (.inl b), none], [], mW (n, T, h, t, x) M, 0, 0) _
  refine m_run 7 (ps' := (8, [some (.inr (.inl 2)), some (.inl a), some (.inl b), some (.inl ((9 * a) + b))], [.inl ((9 * a) + b)], mW (n, T, h, t, x) M, 0, 0)) rfl ?_
  refine m_if rfl ⟨by omega, by omega⟩ (fun (zc1 : ((9 * a) + b) < 0) => absurd zc1 (by omega)) (fun (zc1 : ¬ ((9 * a) + b) < 0) => ?_)
  refine m_run 4 (ps' := (17, [some (.inr (.inl 2)), some (.inl a), some (.inl b), some (.inl ((9 * a) + b))], [.inl 81, .inl ((9 * a) + b)], mW (n, T, h, t, x) M, 0, 0)) rfl ?_
  refine m_icmp rfl ⟨by omega, by omega⟩ ⟨by omega, by omega⟩ (fun (zc2 : 81 ≤ ((9 * a) + b)) => absurd zc2 (by omega)) (fun (zc2 : ¬ 81 ≤ ((9 * a) + b)) => ?_)
  refine m_run 3 (ps' := (25, [some (.inr (.inl 2)), some (.inl a), some (.inl b), some (.inl ((9 * a) + b))], [.inl ((9 * a) + b), .inr (.inl 3)], mW (n, T, h, t, x) M, 0, 0)) rfl ?_
  refine m_iald rfl rfl (by omega) (by omega) (by decide) ?_
  refine m_run 1 (ps' := (30, [some (.inr (.inl 2)), some (.inl a), some (.inl b), some (.inl ((9 * a) + b))], [.inl (T ((9 * a) + b))], mW (n, T, h, t, x) M, 0, 0)) rfl ?_
  exact m_ret1 rfl (Or.inl rfl) rfl (m_Vi rfl)
set_option maxHeartbeats 4000000 in
set_option maxRecDepth 100000 in
theorem l_csI {X : Nat × Nat × (Nat → Int32)} {n : Int} {h : HS} {t : TS} {x : XS} {M : MS} {tb : Int → Int → Int} {a : Int} {Q : Option mPV → mPW → Prop} {v : Int} (hn : okN n) (htb : ∀ a b, 0 ≤ a → a < n → 0 ≤ b → b < n → 0 ≤ tb a b ∧ tb a b < n) (ha : 0 ≤ a) (ha2 : a < n) (K : ∀ T : Int → Int, okT T → fillX n tb T (a + 1) 0 → m_Sem X 23 (4, [some (.inr (.inl 2)), some (.inl v), some (.inl (a + 1)), none, none], [], mW (n, T, h, t, x) M, 0, 0) Q) : ∀ b : Int, 0 ≤ b → b ≤ a → ∀ (T : Int → Int) (u : Int) (hT : okT T) (hf : fillX n tb T a b) (hu : u + sumF (fun b => if tb a b = tb b a then 0 else 2) (a - b).toNat b = v), m_Sem X 23 (14, [some (.inr (.inl 2)), some (.inl u), some (.inl a), some (.inl b), none], [], mW (n, T, h, t, x) M, 0, 0) (Q) := by
  have hl := okN_lo hn
  refine m_down 0 a ?_ ?_
  · intro T u hT hf hu
    rw [sum_end] at hu
    have hu : u = v := by omega
    subst hu
    show m_Sem X 23 (14, [some (.inr (.inl 2)), some (.inl u), some (.inl a), some (.inl a), none], [], mW (n, T, h, t, x) M, 0, 0) _
    refine m_run 2 (ps' := (16, [some (.inr (.inl 2)), some (.inl u), some (.inl a), some (.inl a), none], [.inl a, .inl a], mW (n, T, h, t, x) M, 0, 0)) rfl ?_
    refine m_icmp rfl ⟨by omega, by omega⟩ ⟨by omega, by omega⟩ (fun (zc1 : a ≤ a) => ?_) (fun (zc1 : ¬ a ≤ a) => absurd zc1 (not_not_intro (by omega)))
    refine m_run 2 (ps' := (4, [some (.inr (.inl 2)), some (.inl u), some (.inl (a + 1)), some (.inl a), none], [], mW (n, T, h, t, x) M, 0, 0)) rfl ?_
    refine m_weak [some (.inr (.inl 2)), some (.inl u), some (.inl (a + 1)), none, none] ⟨rfl, ⟨rfl, ⟨rfl, trivial⟩⟩⟩ ?_
    exact K T hT (fillX_r hf)
  · intro b hi1 hi2 ih T u hT hf hu
    rw [sum_step hi2] at hu
    have hp := hT (9 * a + b) (by omega) (by omega)
    have hq := hT (9 * b + a) (by omega) (by omega)
    have e1 : T (9 * a + b) = tb a b := by rw [hf a b ha ha2 hi1 (by omega), if_neg (by omega)]
    have e2 : T (9 * b + a) = tb b a := by rw [hf b a hi1 (by omega) ha ha2, if_neg (by omega)]
    have e3 : m_up T (9 * a + b) (T (9 * b + a)) (9 * b + a) = T (9 * b + a) := m_up_n T _ (by omega)
    refine m_run 2 (ps' := (16, [some (.inr (.inl 2)), some (.inl u), some (.inl a), some (.inl b), none], [.inl a, .inl b], mW (n, T, h, t, x) M, 0, 0)) rfl ?_
    refine m_icmp rfl ⟨by omega, by omega⟩ ⟨by omega, by omega⟩ (fun (zc1 : a ≤ b) => absurd zc1 (by omega)) (fun (zc1 : ¬ a ≤ b) => ?_)
    refine m_run 3 (ps' := (22, [some (.inr (.inl 2)), some (.inl u), some (.inl a), some (.inl b), none], [.inl b, .inl a, .inr (.inl 2)], mW (n, T, h, t, x) M, 0, 0)) rfl ?_
    refine m_callVF [.inl a, .inl b] [] rfl rfl ⟨_, rfl, rfl⟩ rfl rfl (k_raw (T := T) (a := a) (b := b) (by omega) (by omega)) ?_
    show m_Sem X 23 (25, [some (.inr (.inl 2)), some (.inl u), some (.inl a), some (.inl b), none], [.inl (T (9 * a + b))], mW (n, T, h, t, x) M, 0, 0) _
    refine m_run 8 (ps' := (34, [some (.inr (.inl 2)), some (.inl u), some (.inl a), some (.inl b), some (.inl (T (9 * a + b)))], [.inl a, .inl b, .inr (.inl 2), .inl b, .inl a, .inr (.inl 2), .inl u], mW (n, T, h, t, x) M, 0, 0)) rfl ?_
    refine m_callVF [.inl b, .inl a] [.inl b, .inl a, .inr (.inl 2), .inl u] rfl rfl ⟨_, rfl, rfl⟩ rfl rfl (k_raw (T := T) (a := b) (b := a) (by omega) (by omega)) ?_
    show m_Sem X 23 (37, [some (.inr (.inl 2)), some (.inl u), some (.inl a), some (.inl b), some (.inl (T (9 * a + b)))], [.inl (T (9 * b + a)), .inl b, .inl a, .inr (.inl 2), .inl u], mW (n, T, h, t, x) M, 0, 0) _
    refine m_callVF [.inl a, .inl b, .inl (T (9 * b + a))] [.inl u] rfl rfl ⟨_, rfl, rfl⟩ rfl rfl (k_set (T := T) (a := a) (b := b) (r := (T (9 * b + a))) ⟨by omega, by omega⟩ ⟨by omega, by omega⟩ (by omega) (by omega) ⟨by omega, by omega⟩ ⟨by omega, by omega⟩) ?_
    show m_Sem X 23 (40, [some (.inr (.inl 2)), some (.inl u), some (.inl a), some (.inl b), some (.inl (T (9 * a + b)))], [.inl (if T (9 * a + b) = (T (9 * b + a)) then 0 else 1), .inl u], mW (n, (m_up T (9 * a + b) (T (9 * b + a))), h, t, x) M, 0, 0) _
    refine m_run 7 (ps' := (48, [some (.inr (.inl 2)), some (.inl (u + (if T (9 * a + b) = (T (9 * b + a)) then 0 else 1))), some (.inl a), some (.inl b), some (.inl (T (9 * a + b)))], [.inl (T (9 * a + b)), .inl a, .inl b, .inr (.inl 2), .inl (u + (if T (9 * a + b) = (T (9 * b + a)) then 0 else 1))], mW (n, (m_up T (9 * a + b) (T (9 * b + a))), h, t, x) M, 0, 0)) rfl ?_
    refine m_callVF [.inl b, .inl a, .inl (T (9 * a + b))] [.inl (u + (if T (9 * a + b) = (T (9 * b + a)) then 0 else 1))] rfl rfl ⟨_, rfl, rfl⟩ rfl rfl (k_set (T := (m_up T (9 * a + b) (T (9 * b + a)))) (a := b) (b := a) (r := (T (9 * a + b))) ⟨by omega, by omega⟩ ⟨by omega, by omega⟩ (by omega) (by omega) ⟨by omega, by omega⟩ ⟨by omega, by omega⟩) ?_
    show m_Sem X 23 (51, [some (.inr (.inl 2)), some (.inl (u + (if T (9 * a + b) = (T (9 * b + a)) then 0 else 1))), some (.inl a), some (.inl b), some (.inl (T (9 * a + b)))], [.inl (if (m_up T (9 * a + b) (T (9 * b + a))) (9 * b + a) = (T (9 * a + b)) then 0 else 1), .inl (u + (if T (9 * a + b) = (T (9 * b + a)) then 0 else 1))], mW (n, (m_up (m_up T (9 * a + b) (T (9 * b + a))) (9 * b + a) (T (9 * a + b))), h, t, x) M, 0, 0) _
    refine m_run 4 (ps' := (14, [some (.inr (.inl 2)), some (.inl ((u + (if T (9 * a + b) = (T (9 * b + a)) then 0 else 1)) + (if (m_up T (9 * a + b) (T (9 * b + a))) (9 * b + a) = (T (9 * a + b)) then 0 else 1))), some (.inl a), some (.inl (b + 1)), some (.inl (T (9 * a + b)))], [], mW (n, (m_up (m_up T (9 * a + b) (T (9 * b + a))) (9 * b + a) (T (9 * a + b))), h, t, x) M, 0, 0)) rfl ?_
    refine m_weak [some (.inr (.inl 2)), some (.inl ((u + (if T (9 * a + b) = (T (9 * b + a)) then 0 else 1)) + (if (m_up T (9 * a + b) (T (9 * b + a))) (9 * b + a) = (T (9 * a + b)) then 0 else 1))), some (.inl a), some (.inl (b + 1)), none] ⟨rfl, ⟨rfl, ⟨rfl, ⟨rfl, trivial⟩⟩⟩⟩ ?_
    rw [e3, e1, e2]
    refine ih _ _ (okT_up (okT_up hT (by omega) (by omega)) (by omega) (by omega)) (fillX_s hf (by omega) hi1 hi2 ha2) ?_
    rw [← hu]
    by_cases hc : tb a b = tb b a
    · rw [if_pos hc, if_pos hc.symm]; omega
    · rw [if_neg hc, if_neg (fun h9 => hc h9.symm)]; omega
set_option maxHeartbeats 4000000 in
set_option maxRecDepth 100000 in
theorem l_csO {X : Nat × Nat × (Nat → Int32)} {n : Int} {h : HS} {t : TS} {x : XS} {M : MS} {tb : Int → Int → Int} {Q : Option mPV → mPW → Prop} {v : Int} (hn : okN n) (htb : ∀ a b, 0 ≤ a → a < n → 0 ≤ b → b < n → 0 ≤ tb a b ∧ tb a b < n) (K : ∀ T : Int → Int, okT T → fillX n tb T n 0 → Q (some (.inl v)) (mW (n, T, h, t, x) M)) : ∀ a : Int, 0 ≤ a → a ≤ n → ∀ (T : Int → Int) (u : Int) (hT : okT T) (hf : fillX n tb T a 0) (hu : u + sumF (exR tb) (n - a).toNat a = v), m_Sem X 23 (4, [some (.inr (.inl 2)), some (.inl u), some (.inl a), none, none], [], mW (n, T, h, t, x) M, 0, 0) (Q) := by
  have hl := okN_lo hn
  refine m_down 0 n ?_ ?_
  · intro T u hT hf hu
    rw [sum_end] at hu
    have hu : u = v := by omega
    subst hu
    show m_Sem X 23 (4, [some (.inr (.inl 2)), some (.inl u), some (.inl n), none, none], [], mW (n, T, h, t, x) M, 0, 0) _
    refine m_run 3 (ps' := (9, [some (.inr (.inl 2)), some (.inl u), some (.inl n), none, none], [.inl n, .inl n], mW (n, T, h, t, x) M, 0, 0)) rfl ?_
    refine m_icmp rfl ⟨by omega, by omega⟩ ⟨by omega, by omega⟩ (fun (zc1 : n ≤ n) => ?_) (fun (zc1 : ¬ n ≤ n) => absurd zc1 (not_not_intro (by omega)))
    refine m_run 1 (ps' := (66, [some (.inr (.inl 2)), some (.inl u), some (.inl n), none, none], [.inl u], mW (n, T, h, t, x) M, 0, 0)) rfl ?_
    exact m_ret1 rfl (Or.inl rfl) rfl (K T hT hf)
  · intro a hi1 hi2 ih T u hT hf hu
    rw [sum_step hi2] at hu
    refine m_run 3 (ps' := (9, [some (.inr (.inl 2)), some (.inl u), some (.inl a), none, none], [.inl n, .inl a], mW (n, T, h, t, x) M, 0, 0)) rfl ?_
    refine m_icmp rfl ⟨by omega, by omega⟩ ⟨by omega, by omega⟩ (fun (zc1 : n ≤ a) => absurd zc1 (by omega)) (fun (zc1 : ¬ n ≤ a) => ?_)
    refine m_run 2 (ps' := (14, [some (.inr (.inl 2)), some (.inl u), some (.inl a), some (.inl 0), none], [], mW (n, T, h, t, x) M, 0, 0)) rfl ?_
    refine m_weak [some (.inr (.inl 2)), some (.inl u), some (.inl a), some (.inl 0), none] ⟨rfl, ⟨rfl, ⟨rfl, ⟨rfl, trivial⟩⟩⟩⟩ ?_
    exact l_csI (v := u + exR tb a) hn htb hi1 hi2 (fun T2 hT2 hf2 => ih T2 _ hT2 hf2 (by rw [← hu]; omega)) 0 (by omega) (by omega) T u hT hf (by rw [Int.sub_zero]; rfl)
set_option maxHeartbeats 4000000 in
set_option maxRecDepth 100000 in
theorem k_cs {X : Nat × Nat × (Nat → Int32)} {n : Int} {h : HS} {t : TS} {x : XS} {M : MS} {tb : Int → Int → Int} {T : Int → Int} (hR : repC n T tb) (hT : okT T) : m_Run X 23 [.inr (.inl 2)] (mW (n, T, h, t, x) M) (fun r w => r = some (.inl (exC n tb)) ∧ ∃ T2, w = mW (n, T2, h, t, x) M ∧ okT T2 ∧ ∀ a b, 0 ≤ a → a < n → 0 ≤ b → b < n → T2 (9 * a + b) = tb b a) := by
  have hn := hR.1
  have hl := okN_lo hn
  show m_Sem X 23 (0, [some (.inr (.inl 2)), none, none, none, none], [], mW (n, T, h, t, x) M, 0, 0) _
  refine m_run 4 (ps' := (4, [some (.inr (.inl 2)), some (.inl 0), some (.inl 1), none, none], [], mW (n, T, h, t, x) M, 0, 0)) rfl ?_
  refine m_weak [some (.inr (.inl 2)), some (.inl 0), some (.inl 1), none, none] ⟨rfl, ⟨rfl, ⟨rfl, trivial⟩⟩⟩ ?_
  have h0 : exC n tb = 0 + sumF (exR tb) (n - 1).toNat 1 := by
    unfold exC
    rw [← Int.sub_zero n, sum_step (by omega), Int.sub_zero, Int.zero_add]
    show (0 : Int) + _ = _
    rw [Int.zero_add]
  have g0 : fillX n tb T 1 0 := fun a b h1 h2 h3 h4 => by
    rw [(hR.2 a b h1 h2 h3 h4).1]
    by_cases hd : a = 0 ∧ b = 0
    · rw [hd.1, hd.2]; simp
    · rw [if_neg (by omega)]
  exact l_csO (v := exC n tb) hn (fun a b h1 h2 h3 h4 => (hR.2 a b h1 h2 h3 h4).2) (fun T2 hT2 hf => ⟨rfl, T2, rfl, hT2, fun a b h1 h2 h3 h4 => by rw [hf a b h1 h2 h3 h4, if_pos (by omega)]⟩) 1 (by omega) (by omega) T 0 hT g0 h0.symm
end
section
/-! bits of an int that is a set of small numbers -/
theorem i32_nat {k : Nat} (h : k < 2147483648) : (Int32.ofInt (k : Int)).toBitVec.toNat = k := by
  rw [Int32.ofInt_eq_ofNat]
  show k % 2 ^ 32 = k
  omega
theorem i32_of {x : Int32} {k : Nat} (h : x.toBitVec.toNat = k) (hk : k < 2147483648) : x.toInt = (k : Int) := by
  rw [← Int32.toInt_toBitVec, BitVec.toInt_eq_toNat_of_lt (by rw [h]; omega), h]
theorem n_and_lt {a b : Nat} (ha : a < 2147483648) : a &&& b < 2147483648 := Nat.lt_of_le_of_lt Nat.and_le_left ha
theorem n_or_lt {a b : Nat} (ha : a < 2147483648) (hb : b < 2147483648) : a ||| b < 2147483648 := by
  have h : a ||| b < 2 ^ 31 := Nat.or_lt_two_pow (by omega) (by omega)
  omega
theorem m_and {a b : Nat} (ha : a < 2147483648) (hb : b < 2147483648) : (Int32.ofInt (a : Int) &&& Int32.ofInt (b : Int)).toInt = ((a &&& b : Nat) : Int) :=
  i32_of (by rw [Int32.toBitVec_and, BitVec.toNat_and, i32_nat ha, i32_nat hb]) (n_and_lt ha)
theorem m_or {a b : Nat} (ha : a < 2147483648) (hb : b < 2147483648) : (Int32.ofInt (a : Int) ||| Int32.ofInt (b : Int)).toInt = ((a ||| b : Nat) : Int) :=
  i32_of (by rw [Int32.toBitVec_or, BitVec.toNat_or, i32_nat ha, i32_nat hb]) (n_or_lt ha hb)
theorem m_shl1 {d : Int} (h1 : 0 ≤ d) (h2 : d < 31) : (Int32.ofInt 1 <<< (Int32.ofInt d &&& 31)).toInt = ((2 ^ d.toNat : Nat) : Int) := by
  have h : ∀ k, k < 31 → (Int32.ofInt 1 <<< (Int32.ofInt (k : Nat) &&& 31)).toInt = ((2 ^ k : Nat) : Int) := by decide +kernel
  have h3 := h d.toNat (by omega)
  rw [Int.toNat_of_nonneg h1] at h3
  exact h3
/-- the number of ones among the lowest nine bits -/
def popc (k : Nat) : Int := sumF (fun v => bI (k.testBit v.toNat)) 9 0
def bcE (i : Int) : Int := (Int32.ofInt (((Int32.ofInt (((Int32.ofInt (i - (Int32.ofInt (((Int32.ofInt i).toUInt32 >>> ((Int32.ofInt 1).toUInt32 &&& Int32.toUInt32 31)).toInt32.toInt) &&& Int32.ofInt 1431655765).toInt) &&& Int32.ofInt 858993459).toInt + (Int32.ofInt (((Int32.ofInt (i - (Int32.ofInt (((Int32.ofInt i).toUInt32 >>> ((Int32.ofInt 1).toUInt32 &&& Int32.toUInt32 31)).toInt32.toInt) &&& Int32.ofInt 1431655765).toInt)).toUInt32 >>> ((Int32.ofInt 2).toUInt32 &&& Int32.toUInt32 31)).toInt32.toInt) &&& Int32.ofInt 858993459).toInt) + ((Int32.ofInt ((Int32.ofInt (i - (Int32.ofInt (((Int32.ofInt i).toUInt32 >>> ((Int32.ofInt 1).toUInt32 &&& Int32.toUInt32 31)).toInt32.toInt) &&& Int32.ofInt 1431655765).toInt) &&& Int32.ofInt 858993459).toInt + (Int32.ofInt (((Int32.ofInt (i - (Int32.ofInt (((Int32.ofInt i).toUInt32 >>> ((Int32.ofInt 1).toUInt32 &&& Int32.toUInt32 31)).toInt32.toInt) &&& Int32.ofInt 1431655765).toInt)).toUInt32 >>> ((Int32.ofInt 2).toUInt32 &&& Int32.toUInt32 31)).toInt32.toInt) &&& Int32.ofInt 858993459).toInt)).toUInt32 >>> ((Int32.ofInt 4).toUInt32 &&& Int32.toUInt32 31)).toInt32.toInt) &&& Int32.ofInt 252645135).toInt + ((Int32.ofInt ((Int32.ofInt (((Int32.ofInt (i - (Int32.ofInt (((Int32.ofInt i).toUInt32 >>> ((Int32.ofInt 1).toUInt32 &&& Int32.toUInt32 31)).toInt32.toInt) &&& Int32.ofInt 1431655765).toInt) &&& Int32.ofInt 858993459).toInt + (Int32.ofInt (((Int32.ofInt (i - (Int32.ofInt (((Int32.ofInt i).toUInt32 >>> ((Int32.ofInt 1).toUInt32 &&& Int32.toUInt32 31)).toInt32.toInt) &&& Int32.ofInt 1431655765).toInt)).toUInt32 >>> ((Int32.ofInt 2).toUInt32 &&& Int32.toUInt32 31)).toInt32.toInt) &&& Int32.ofInt 858993459).toInt) + ((Int32.ofInt ((Int32.ofInt (i - (Int32.ofInt (((Int32.ofInt i).toUInt32 >>> ((Int32.ofInt 1).toUInt32 &&& Int32.toUInt32 31)).toInt32.toInt) &&& Int32.ofInt 1431655765).toInt) &&& Int32.ofInt 858993459).toInt + (Int32.ofInt (((Int32.ofInt (i - (Int32.ofInt (((Int32.ofInt i).toUInt32 >>> ((Int32.ofInt 1).toUInt32 &&& Int32.toUInt32 31)).toInt32.toInt) &&& Int32.ofInt 1431655765).toInt)).toUInt32 >>> ((Int32.ofInt 2).toUInt32 &&& Int32.toUInt32 31)).toInt32.toInt) &&& Int32.ofInt 858993459).toInt)).toUInt32 >>> ((Int32.ofInt 4).toUInt32 &&& Int32.toUInt32 31)).toInt32.toInt) &&& Int32.ofInt 252645135).toInt)).toUInt32 >>> ((Int32.ofInt 8).toUInt32 &&& Int32.toUInt32 31)).toInt32.toInt) + ((Int32.ofInt ((Int32.ofInt (((Int32.ofInt (i - (Int32.ofInt (((Int32.ofInt i).toUInt32 >>> ((Int32.ofInt 1).toUInt32 &&& Int32.toUInt32 31)).toInt32.toInt) &&& Int32.ofInt 1431655765).toInt) &&& Int32.ofInt 858993459).toInt + (Int32.ofInt (((Int32.ofInt (i - (Int32.ofInt (((Int32.ofInt i).toUInt32 >>> ((Int32.ofInt 1).toUInt32 &&& Int32.toUInt32 31)).toInt32.toInt) &&& Int32.ofInt 1431655765).toInt)).toUInt32 >>> ((Int32.ofInt 2).toUInt32 &&& Int32.toUInt32 31)).toInt32.toInt) &&& Int32.ofInt 858993459).toInt) + ((Int32.ofInt ((Int32.ofInt (i - (Int32.ofInt (((Int32.ofInt i).toUInt32 >>> ((Int32.ofInt 1).toUInt32 &&& Int32.toUInt32 31)).toInt32.toInt) &&& Int32.ofInt 1431655765).toInt) &&& Int32.ofInt 858993459).toInt + (Int32.ofInt (((Int32.ofInt (i - (Int32.ofInt (((Int32.ofInt i).toUInt32 >>> ((Int32.ofInt 1).toUInt32 &&& Int32.toUInt32 31)).toInt32.toInt) &&& Int32.ofInt 1431655765).toInt)).toUInt32 >>> ((Int32.ofInt 2).toUInt32 &&& Int32.toUInt32 31)).toInt32.toInt) &&& Int32.ofInt 858993459).toInt)).toUInt32 >>> ((Int32.ofInt 4).toUInt32 &&& Int32.toUInt32 31)).toInt32.toInt) &&& Int32.ofInt 252645135).toInt + ((Int32.ofInt ((Int32.ofInt (((Int32.ofInt (i - (Int32.ofInt (((Int32.ofInt i).toUInt32 >>> ((Int32.ofInt 1).toUInt32 &&& Int32.toUInt32 31)).toInt32.toInt) &&& Int32.ofInt 1431655765).toInt) &&& Int32.ofInt 858993459).toInt + (Int32.ofInt (((Int32.ofInt (i - (Int32.ofInt (((Int32.ofInt i).toUInt32 >>> ((Int32.ofInt 1).toUInt32 &&& Int32.toUInt32 31)).toInt32.toInt) &&& Int32.ofInt 1431655765).toInt)).toUInt32 >>> ((Int32.ofInt 2).toUInt32 &&& Int32.toUInt32 31)).toInt32.toInt) &&& Int32.ofInt 858993459).toInt) + ((Int32.ofInt ((Int32.ofInt (i - (Int32.ofInt (((Int32.ofInt i).toUInt32 >>> ((Int32.ofInt 1).toUInt32 &&& Int32.toUInt32 31)).toInt32.toInt) &&& Int32.ofInt 1431655765).toInt) &&& Int32.ofInt 858993459).toInt + (Int32.ofInt (((Int32.ofInt (i - (Int32.ofInt (((Int32.ofInt i).toUInt32 >>> ((Int32.ofInt 1).toUInt32 &&& Int32.toUInt32 31)).toInt32.toInt) &&& Int32.ofInt 1431655765).toInt)).toUInt32 >>> ((Int32.ofInt 2).toUInt32 &&& Int32.toUInt32 31)).toInt32.toInt) &&& Int32.ofInt 858993459).toInt)).toUInt32 >>> ((Int32.ofInt 4).toUInt32 &&& Int32.toUInt32 31)).toInt32.toInt) &&& Int32.ofInt 252645135).toInt)).toUInt32 >>> ((Int32.ofInt 8).toUInt32 &&& Int32.toUInt32 31)).toInt32.toInt)).toUInt32 >>> ((Int32.ofInt 16).toUInt32 &&& Int32.toUInt32 31)).toInt32.toInt) &&& Int32.ofInt 63).toInt
theorem bc_pop : ∀ k, k < 512 → bcE (k : Nat) = popc k := by decide +kernel
set_option maxHeartbeats 4000000 in
set_option maxRecDepth 100000 in
theorem k_bc {X : Nat × Nat × (Nat → Int32)} {n : Int} {T : Int → Int} {h : HS} {t : TS} {x : XS} {M : MS} {i : Int} : m_Run X 42 [.inl i] (mW (n, T, h, t, x) M) (m_V (bcE i) (mW (n, T, h, t, x) M)) := by
  show m_Sem X 42 (0, [some (.inl i)], [], mW (n, T, h, t, x) M, 0, 0) _
  refine m_run 41 (ps' := (52, [some (.inl (((Int32.ofInt (((Int32.ofInt (i - (Int32.ofInt (((Int32.ofInt i).toUInt32 >>> ((Int32.ofInt 1).toUInt32 &&& Int32.toUInt32 31)).toInt32.toInt) &&& Int32.ofInt 1431655765).toInt) &&& Int32.ofInt 858993459).toInt + (Int32.ofInt (((Int32.ofInt (i - (Int32.ofInt (((Int32.ofInt i).toUInt32 >>> ((Int32.ofInt 1).toUInt32 &&& Int32.toUInt32 31)).toInt32.toInt) &&& Int32.ofInt 1431655765).toInt)).toUInt32 >>> ((Int32.ofInt 2).toUInt32 &&& Int32.toUInt32 31)).toInt32.toInt) &&& Int32.ofInt 858993459).toInt) + ((Int32.ofInt ((Int32.ofInt (i - (Int32.ofInt (((Int32.ofInt i).toUInt32 >>> ((Int32.ofInt 1).toUInt32 &&& Int32.toUInt32 31)).toInt32.toInt) &&& Int32.ofInt 1431655765).toInt) &&& Int32.ofInt 858993459).toInt + (Int32.ofInt (((Int32.ofInt (i - (Int32.ofInt (((Int32.ofInt i).toUInt32 >>> ((Int32.ofInt 1).toUInt32 &&& Int32.toUInt32 31)).toInt32.toInt) &&& Int32.ofInt 1431655765).toInt)).toUInt32 >>> ((Int32.ofInt 2).toUInt32 &&& Int32.toUInt32 31)).toInt32.toInt) &&& Int32.ofInt 858993459).toInt)).toUInt32 >>> ((Int32.ofInt 4).toUInt32 &&& Int32.toUInt32 31)).toInt32.toInt) &&& Int32.ofInt 252645135).toInt + ((Int32.ofInt ((Int32.ofInt (((Int32.ofInt (i - (Int32.ofInt (((Int32.ofInt i).toUInt32 >>> ((Int32.ofInt 1).toUInt32 &&& Int32.toUInt32 31)).toInt32.toInt) &&& Int32.ofInt 1431655765).toInt) &&& Int32.ofInt 858993459).toInt + (Int32.ofInt (((Int32.ofInt (i - (Int32.ofInt (((Int32.ofInt i).toUInt32 >>> ((Int32.ofInt 1).toUInt32 &&& Int32.toUInt32 31)).toInt32.toInt) &&& Int32.ofInt 1431655765).toInt)).toUInt32 >>> ((Int32.ofInt 2).toUInt32 &&& Int32.toUInt32 31)).toInt32.toInt) &&& Int32.ofInt 858993459).toInt) + ((Int32.ofInt ((Int32.ofInt (i - (Int32.ofInt (((Int32.ofInt i).toUInt32 >>> ((Int32.ofInt 1).toUInt32 &&& Int32.toUInt32 31)).toInt32.toInt) &&& Int32.ofInt 1431655765).toInt) &&& Int32.ofInt 858993459).toInt + (Int32.ofInt (((Int32.ofInt (i - (Int32.ofInt (((Int32.ofInt i).toUInt32 >>> ((Int32.ofInt 1).toUInt32 &&& Int32.toUInt32 31)).toInt32.toInt) &&& Int32.ofInt 1431655765).toInt)).toUInt32 >>> ((Int32.ofInt 2).toUInt32 &&& Int32.toUInt32 31)).toInt32.toInt) &&& Int32.ofInt 858993459).toInt)).toUInt32 >>> ((Int32.ofInt 4).toUInt32 &&& Int32.toUInt32 31)).toInt32.toInt) &&& Int32.ofInt 252645135).toInt)).toUInt32 >>> ((Int32.ofInt 8).toUInt32 &&& Int32.toUInt32 31)).toInt32.toInt) + ((Int32.ofInt ((Int32.ofInt (((Int32.ofInt (i - (Int32.ofInt (((Int32.ofInt i).toUInt32 >>> ((Int32.ofInt 1).toUInt32 &&& Int32.toUInt32 31)).toInt32.toInt) &&& Int32.ofInt 1431655765).toInt) &&& Int32.ofInt 858993459).toInt + (Int32.ofInt (((Int32.ofInt (i - (Int32.ofInt (((Int32.ofInt i).toUInt32 >>> ((Int32.ofInt 1).toUInt32 &&& Int32.toUInt32 31)).toInt32.toInt) &&& Int32.ofInt 1431655765).toInt)).toUInt32 >>> ((Int32.ofInt 2).toUInt32 &&& Int32.toUInt32 31)).toInt32.toInt) &&& Int32.ofInt 858993459).toInt) + ((Int32.ofInt ((Int32.ofInt (i - (Int32.ofInt (((Int32.ofInt i).toUInt32 >>> ((Int32.ofInt 1).toUInt32 &&& Int32.toUInt32 31)).toInt32.toInt) &&& Int32.ofInt 1431655765).toInt) &&& Int32.ofInt 858993459).toInt + (Int32.ofInt (((Int32.ofInt (i - (Int32.ofInt (((Int32.ofInt i).toUInt32 >>> ((Int32.ofInt 1).toUInt32 &&& Int32.toUInt32 31)).toInt32.toInt) &&& Int32.ofInt 1431655765).toInt)).toUInt32 >>> ((Int32.ofInt 2).toUInt32 &&& Int32.toUInt32 31)).toInt32.toInt) &&& Int32.ofInt 858993459).toInt)).toUInt32 >>> ((Int32.ofInt 4).toUInt32 &&& Int32.toUInt32 31)).toInt32.toInt) &&& Int32.ofInt 252645135).toInt + ((Int32.ofInt ((Int32.ofInt (((Int32.ofInt (i - (Int32.ofInt (((Int32.ofInt i).toUInt32 >>> ((Int32.ofInt 1).toUInt32 &&& Int32.toUInt32 31)).toInt32.toInt) &&& Int32.ofInt 1431655765).toInt) &&& Int32.ofInt 858993459).toInt + (Int32.ofInt (((Int32.ofInt (i - (Int32.ofInt (((Int32.ofInt i).toUInt32 >>> ((Int32.ofInt 1).toUInt32 &&& Int32.toUInt32 31)).toInt32.toInt) &&& Int32.ofInt 1431655765).toInt)).toUInt32 >>> ((Int32.ofInt 2).toUInt32 &&& Int32.toUInt32 31)).toInt32.toInt) &&& Int32.ofInt 858993459).toInt) + ((Int32.ofInt ((Int32.ofInt (i - (Int32.ofInt (((Int32.ofInt i).toUInt32 >>> ((Int32.ofInt 1).toUInt32 &&& Int32.toUInt32 31)).toInt32.toInt) &&& Int32.ofInt 1431655765).toInt) &&& Int32.ofInt 858993459).toInt + (Int32.ofInt (((Int32.ofInt (i - (Int32.ofInt (((Int32.ofInt i).toUInt32 >>> ((Int32.ofInt 1).toUInt32 &&& Int32.toUInt32 31)).toInt32.toInt) &&& Int32.ofInt 1431655765).toInt)).toUInt32 >>> ((Int32.ofInt 2).toUInt32 &&& Int32.toUInt32 31)).toInt32.toInt) &&& Int32.ofInt 858993459).toInt)).toUInt32 >>> ((Int32.ofInt 4).toUInt32 &&& Int32.toUInt32 31)).toInt32.toInt) &&& Int32.ofInt 252645135).toInt)).toUInt32 >>> ((Int32.ofInt 8).toUInt32 &&& Int32.toUInt32 31)).toInt32.toInt)).toUInt32 >>> ((Int32.ofInt 16).toUInt32 &&& Int32.toUInt32 31)).toInt32.toInt))], [.inl ((Int32.ofInt (((Int32.ofInt (((Int32.ofInt (i - (Int32.ofInt (((Int32.ofInt i).toUInt32 >>> ((Int32.ofInt 1).toUInt32 &&& Int32.toUInt32 31)).toInt32.toInt) &&& Int32.ofInt 1431655765).toInt) &&& Int32.ofInt 858993459).toInt + (Int32.ofInt (((Int32.ofInt (i - (Int32.ofInt (((Int32.ofInt i).toUInt32 >>> ((Int32.ofInt 1).toUInt32 &&& Int32.toUInt32 31)).toInt32.toInt) &&& Int32.ofInt 1431655765).toInt)).toUInt32 >>> ((Int32.ofInt 2).toUInt32 &&& Int32.toUInt32 31)).toInt32.toInt) &&& Int32.ofInt 858993459).toInt) + ((Int32.ofInt ((Int32.ofInt (i - (Int32.ofInt (((Int32.ofInt i).toUInt32 >>> ((Int32.ofInt 1).toUInt32 &&& Int32.toUInt32 31)).toInt32.toInt) &&& Int32.ofInt 1431655765).toInt) &&& Int32.ofInt 858993459).toInt + (Int32.ofInt (((Int32.ofInt (i - (Int32.ofInt (((Int32.ofInt i).toUInt32 >>> ((Int32.ofInt 1).toUInt32 &&& Int32.toUInt32 31)).toInt32.toInt) &&& Int32.ofInt 1431655765).toInt)).toUInt32 >>> ((Int32.ofInt 2).toUInt32 &&& Int32.toUInt32 31)).toInt32.toInt) &&& Int32.ofInt 858993459).toInt)).toUInt32 >>> ((Int32.ofInt 4).toUInt32 &&& Int32.toUInt32 31)).toInt32.toInt) &&& Int32.ofInt 252645135).toInt + ((Int32.ofInt ((Int32.ofInt (((Int32.ofInt (i - (Int32.ofInt (((Int32.ofInt i).toUInt32 >>> ((Int32.ofInt 1).toUInt32 &&& Int32.toUInt32 31)).toInt32.toInt) &&& Int32.ofInt 1431655765).toInt) &&& Int32.ofInt 858993459).toInt + (Int32.ofInt (((Int32.ofInt (i - (Int32.ofInt (((Int32.ofInt i).toUInt32 >>> ((Int32.ofInt 1).toUInt32 &&& Int32.toUInt32 31)).toInt32.toInt) &&& Int32.ofInt 1431655765).toInt)).toUInt32 >>> ((Int32.ofInt 2).toUInt32 &&& Int32.toUInt32 31)).toInt32.toInt) &&& Int32.ofInt 858993459).toInt) + ((Int32.ofInt ((Int32.ofInt (i - (Int32.ofInt (((Int32.ofInt i).toUInt32 >>> ((Int32.ofInt 1).toUInt32 &&& Int32.toUInt32 31)).toInt32.toInt) &&& Int32.ofInt 1431655765).toInt) &&& Int32.ofInt 858993459).toInt + (Int32.ofInt (((Int32.ofInt (i - (Int32.ofInt (((Int32.ofInt i).toUInt32 >>> ((Int32.ofInt 1).toUInt32 &&& Int32.toUInt32 31)).toInt32.toInt) &&& Int32.ofInt 1431655765).toInt)).toUInt32 >>> ((Int32.ofInt 2).toUInt32 &&& Int32.toUInt32 31)).toInt32.toInt) &&& Int32.ofInt 858993459).toInt)).toUInt32 >>> ((Int32.ofInt 4).toUInt32 &&& Int32.toUInt32 31)).toInt32.toInt) &&& Int32.ofInt 252645135).toInt)).toUInt32 >>> ((Int32.ofInt 8).toUInt32 &&& Int32.toUInt32 31)).toInt32.toInt) + ((Int32.ofInt ((Int32.ofInt (((Int32.ofInt (i - (Int32.ofInt (((Int32.ofInt i).toUInt32 >>> ((Int32.ofInt 1).toUInt32 &&& Int32.toUInt32 31)).toInt32.toInt) &&& Int32.ofInt 1431655765).toInt) &&& Int32.ofInt 858993459).toInt + (Int32.ofInt (((Int32.ofInt (i - (Int32.ofInt (((Int32.ofInt i).toUInt32 >>> ((Int32.ofInt 1).toUInt32 &&& Int32.toUInt32 31)).toInt32.toInt) &&& Int32.ofInt 1431655765).toInt)).toUInt32 >>> ((Int32.ofInt 2).toUInt32 &&& Int32.toUInt32 31)).toInt32.toInt) &&& Int32.ofInt 858993459).toInt) + ((Int32.ofInt ((Int32.ofInt (i - (Int32.ofInt (((Int32.ofInt i).toUInt32 >>> ((Int32.ofInt 1).toUInt32 &&& Int32.toUInt32 31)).toInt32.toInt) &&& Int32.ofInt 1431655765).toInt) &&& Int32.ofInt 858993459).toInt + (Int32.ofInt (((Int32.ofInt (i - (Int32.ofInt (((Int32.ofInt i).toUInt32 >>> ((Int32.ofInt 1).toUInt32 &&& Int32.toUInt32 31)).toInt32.toInt) &&& Int32.ofInt 1431655765).toInt)).toUInt32 >>> ((Int32.ofInt 2).toUInt32 &&& Int32.toUInt32 31)).toInt32.toInt) &&& Int32.ofInt 858993459).toInt)).toUInt32 >>> ((Int32.ofInt 4).toUInt32 &&& Int32.toUInt32 31)).toInt32.toInt) &&& Int32.ofInt 252645135).toInt + ((Int32.ofInt ((Int32.ofInt (((Int32.ofInt (i - (Int32.ofInt (((Int32.ofInt i).toUInt32 >>> ((Int32.ofInt 1).toUInt32 &&& Int32.toUInt32 31)).toInt32.toInt) &&& Int32.ofInt 1431655765).toInt) &&& Int32.ofInt 858993459).toInt + (Int32.ofInt (((Int32.ofInt (i - (Int32.ofInt (((Int32.ofInt i).toUInt32 >>> ((Int32.ofInt 1).toUInt32 &&& Int32.toUInt32 31)).toInt32.toInt) &&& Int32.ofInt 1431655765).toInt)).toUInt32 >>> ((Int32.ofInt 2).toUInt32 &&& Int32.toUInt32 31)).toInt32.toInt) &&& Int32.ofInt 858993459).toInt) + ((Int32.ofInt ((Int32.ofInt (i - (Int32.ofInt (((Int32.ofInt i).toUInt32 >>> ((Int32.ofInt 1).toUInt32 &&& Int32.toUInt32 31)).toInt32.toInt) &&& Int32.ofInt 1431655765).toInt) &&& Int32.ofInt 858993459).toInt + (Int32.ofInt (((Int32.ofInt (i - (Int32.ofInt (((Int32.ofInt i).toUInt32 >>> ((Int32.ofInt 1).toUInt32 &&& Int32.toUInt32 31)).toInt32.toInt) &&& Int32.ofInt 1431655765).toInt)).toUInt32 >>> ((Int32.ofInt 2).toUInt32 &&& Int32.toUInt32 31)).toInt32.toInt) &&& Int32.ofInt 858993459).toInt)).toUInt32 >>> ((Int32.ofInt 4).toUInt32 &&& Int32.toUInt32 31)).toInt32.toInt) &&& Int32.ofInt 252645135).toInt)).toUInt32 >>> ((Int32.ofInt 8).toUInt32 &&& Int32.toUInt32 31)).toInt32.toInt)).toUInt32 >>> ((Int32.ofInt 16).toUInt32 &&& Int32.toUInt32 31)).toInt32.toInt) &&& Int32.ofInt 63).toInt)], mW (n, T, h, t, x) M, 0, 0)) rfl ?_
  exact m_ret1 rfl (Or.inl rfl) rfl (m_Vi rfl)
/-- numbers that come just once: s those seen, e those seen again -/
def onceK (f : Int → Int) : Nat → Int → Nat → Nat → Int
  | 0, _, s, e => popc (s &&& (e ^^^ 4294967295))
  | k + 1, i, s, e => onceK f k (i + 1) (s ||| 2 ^ (f i).toNat) (e ||| (s &&& 2 ^ (f i).toNat))
theorem once_end (f : Int → Int) (n : Int) (s e : Nat) : onceK f (n - n).toNat n s e = popc (s &&& (e ^^^ 4294967295)) := by rw [nat_end]; rfl
theorem once_step {f : Int → Int} {n i : Int} {s e : Nat} (h : i < n) : onceK f (n - i).toNat i s e = onceK f (n - (i + 1)).toNat (i + 1) (s ||| 2 ^ (f i).toNat) (e ||| (s &&& 2 ^ (f i).toNat)) := by rw [nat_step h]; rfl
def difF (n : Int) (tb : Int → Int → Int) (r : Bool) (a b : Int) : Int → Int := fun x => difS n (sideS tb r a x) (sideS tb r b x)
def onceS (n : Int) (tb : Int → Int → Int) (r : Bool) (a b : Int) : Int := onceK (difF n tb r a b) n.toNat 0 0 0
theorem pow9 {d : Int} (h1 : 0 ≤ d) (h2 : d < 9) : 2 ^ d.toNat < 512 := by
  have h : ∀ k, k < 9 → 2 ^ k < 512 := by decide
  exact h d.toNat (by omega)
theorem or9 {a b : Nat} (ha : a < 512) (hb : b < 512) : a ||| b < 512 := Nat.or_lt_two_pow (n := 9) ha hb
theorem and9 {a b : Nat} (ha : a < 512) : a &&& b < 512 := Nat.lt_of_le_of_lt Nat.and_le_left ha
theorem popc_in (k : Nat) : 0 ≤ popc k ∧ popc k ≤ 9 := by
  have h := sum_bound (f := fun v => bI (k.testBit v.toNat)) (B := 1) 9 0 (fun j _ _ => by cases k.testBit j.toNat <;> decide)
  exact ⟨h.1, by have h2 : popc k ≤ ((9 : Nat) : Int) * 1 := h.2; omega⟩
theorem onceK_in (f : Int → Int) : ∀ (k : Nat) (i : Int) (s e : Nat), 0 ≤ onceK f k i s e ∧ onceK f k i s e ≤ 9
  | 0, _, s, e => popc_in _
  | k + 1, i, s, e => onceK_in f k (i + 1) _ _
theorem onceS_in (n : Int) (tb : Int → Int → Int) (r : Bool) (a b : Int) : 0 ≤ onceS n tb r a b ∧ onceS n tb r a b ≤ 9 := onceK_in _ _ _ _ _
theorem and_not9 {s e : Nat} (hs : s < 512) (he : e < 512) : (Int32.ofInt (s : Int) &&& Int32.ofInt (Int32.ofInt (e : Int) ^^^ Int32.ofInt (-1)).toInt).toInt = ((s &&& (e ^^^ 4294967295) : Nat) : Int) := by
  rw [Int32.ofInt_toInt]
  refine i32_of ?_ (n_and_lt (by omega))
  rw [Int32.toBitVec_and, BitVec.toNat_and, Int32.toBitVec_xor, BitVec.toNat_xor, i32_nat (by omega), i32_nat (by omega)]
  rfl
set_option maxHeartbeats 4000000 in
set_option maxRecDepth 100000 in
theorem l_once {X : Nat × Nat × (Nat → Int32)} {n : Int} {T : Int → Int} {h : HS} {t : TS} {x : XS} {M : MS} {tb : Int → Int → Int} {a b : Int} {r : Bool} {v : Int} (hR : repC n T tb) (ha : 0 ≤ a) (ha2 : a < n) (hb : 0 ≤ b) (hb2 : b < n) : ∀ i : Int, 0 ≤ i → i ≤ n → ∀ (s : Nat) (e : Nat) (hs : s < 512) (he : e < 512) (hu : onceK (difF n tb r a b) (n - i).toNat i s e = v), m_Sem X 9 (9, [some (.inr (.inl 2)), some (.inl a), some (.inl b), some (.inl (bI r)), some (.inl (s : Int)), some (.inl (e : Int)), some (.inl i), none], [], mW (n, T, h, t, x) M, 0, 0) (m_V v (mW (n, T, h, t, x) M)) := by
  have hn := hR.1
  have hl := okN_lo hn
  refine m_down 0 n ?_ ?_
  · intro s e hs he hu
    show m_Sem X 9 (9, [some (.inr (.inl 2)), some (.inl a), some (.inl b), some (.inl (bI r)), some (.inl (s : Int)), some (.inl (e : Int)), some (.inl n), none], [], mW (n, T, h, t, x) M, 0, 0) _
    refine m_run 3 (ps' := (15, [some (.inr (.inl 2)), some (.inl a), some (.inl b), some (.inl (bI r)), some (.inl (s : Int)), some (.inl (e : Int)), some (.inl n), none], [.inl n, .inl n], mW (n, T, h, t, x) M, 0, 0)) rfl ?_
    refine m_icmp rfl ⟨by omega, by omega⟩ ⟨by omega, by omega⟩ (fun (zc1 : n ≤ n) => ?_) (fun (zc1 : ¬ n ≤ n) => absurd zc1 (not_not_intro (by omega)))
    refine m_run 5 (ps' := (72, [some (.inr (.inl 2)), some (.inl a), some (.inl b), some (.inl (bI r)), some (.inl (s : Int)), some (.inl (e : Int)), some (.inl n), none], [.inl ((Int32.ofInt (s : Int) &&& Int32.ofInt ((Int32.ofInt (e : Int) ^^^ Int32.ofInt (-1)).toInt)).toInt)], mW (n, T, h, t, x) M, 0, 0)) rfl ?_
    refine m_callSF [.inl ((Int32.ofInt (s : Int) &&& Int32.ofInt ((Int32.ofInt (e : Int) ^^^ Int32.ofInt (-1)).toInt)).toInt)] [] rfl rfl rfl (k_bc (i := (Int32.ofInt (s : Int) &&& Int32.ofInt ((Int32.ofInt (e : Int) ^^^ Int32.ofInt (-1)).toInt)).toInt)) ?_
    show m_Sem X 9 (75, [some (.inr (.inl 2)), some (.inl a), some (.inl b), some (.inl (bI r)), some (.inl (s : Int)), some (.inl (e : Int)), some (.inl n), none], [.inl (bcE ((Int32.ofInt (s : Int) &&& Int32.ofInt ((Int32.ofInt (e : Int) ^^^ Int32.ofInt (-1)).toInt)).toInt))], mW (n, T, h, t, x) M, 0, 0) _
    exact m_ret1 rfl (Or.inl rfl) rfl (m_Vi (by rw [← hu, once_end, and_not9 hs he]; exact bc_pop _ (and9 hs)))
  · intro i hi1 hi2 ih s e hs he hu
    rw [once_step hi2] at hu
    refine m_run 3 (ps' := (15, [some (.inr (.inl 2)), some (.inl a), some (.inl b), some (.inl (bI r)), some (.inl (s : Int)), some (.inl (e : Int)), some (.inl i), none], [.inl n, .inl i], mW (n, T, h, t, x) M, 0, 0)) rfl ?_
    refine m_icmp rfl ⟨by omega, by omega⟩ ⟨by omega, by omega⟩ (fun (zc1 : n ≤ i) => absurd zc1 (by omega)) (fun (zc1 : ¬ n ≤ i) => ?_)
    refine m_run 6 (ps' := (25, [some (.inr (.inl 2)), some (.inl a), some (.inl b), some (.inl (bI r)), some (.inl (s : Int)), some (.inl (e : Int)), some (.inl i), none], [.inl (bI r), .inl i, .inl a, .inr (.inl 2), .inr (.inl 2), .inl 1], mW (n, T, h, t, x) M, 0, 0)) rfl ?_
    refine m_callVF [.inl a, .inl i, .inl (bI r)] [.inr (.inl 2), .inl 1] rfl rfl ⟨_, rfl, rfl⟩ rfl rfl (k_side (a := a) (b := i) (r := r) hR (by omega) (by omega) (by omega) (by omega)) ?_
    have zt1 := sideS_in hR (r := r) (a := a) (x := i) (by omega) (by omega) (by omega) (by omega)
    show m_Sem X 9 (28, [some (.inr (.inl 2)), some (.inl a), some (.inl b), some (.inl (bI r)), some (.inl (s : Int)), some (.inl (e : Int)), some (.inl i), none], [.inl (sideS tb r a i), .inr (.inl 2), .inl 1], mW (n, T, h, t, x) M, 0, 0) _
    refine m_run 4 (ps' := (33, [some (.inr (.inl 2)), some (.inl a), some (.inl b), some (.inl (bI r)), some (.inl (s : Int)), some (.inl (e : Int)), some (.inl i), none], [.inl (bI r), .inl i, .inl b, .inr (.inl 2), .inl (sideS tb r a i), .inr (.inl 2), .inl 1], mW (n, T, h, t, x) M, 0, 0)) rfl ?_
    refine m_callVF [.inl b, .inl i, .inl (bI r)] [.inl (sideS tb r a i), .inr (.inl 2), .inl 1] rfl rfl ⟨_, rfl, rfl⟩ rfl rfl (k_side (a := b) (b := i) (r := r) hR (by omega) (by omega) (by omega) (by omega)) ?_
    have zt2 := sideS_in hR (r := r) (a := b) (x := i) (by omega) (by omega) (by omega) (by omega)
    show m_Sem X 9 (36, [some (.inr (.inl 2)), some (.inl a), some (.inl b), some (.inl (bI r)), some (.inl (s : Int)), some (.inl (e : Int)), some (.inl i), none], [.inl (sideS tb r b i), .inl (sideS tb r a i), .inr (.inl 2), .inl 1], mW (n, T, h, t, x) M, 0, 0) _
    refine m_callVF [.inl (sideS tb r a i), .inl (sideS tb r b i)] [.inl 1] rfl rfl ⟨_, rfl, rfl⟩ rfl rfl (k_dif (a := (sideS tb r a i)) (b := (sideS tb r b i)) hn (by omega) (by omega) (by omega) (by omega)) ?_
    have zt3 := difS_in (n := n) (a := (sideS tb r a i)) (b := (sideS tb r b i)) hn (by omega) (by omega) (by omega) (by omega)
    show m_Sem X 9 (39, [some (.inr (.inl 2)), some (.inl a), some (.inl b), some (.inl (bI r)), some (.inl (s : Int)), some (.inl (e : Int)), some (.inl i), none], [.inl (difS n (sideS tb r a i) (sideS tb r b i)), .inl 1], mW (n, T, h, t, x) M, 0, 0) _
    refine m_run 14 (ps' := (9, [some (.inr (.inl 2)), some (.inl a), some (.inl b), some (.inl (bI r)), some (.inl ((Int32.ofInt (s : Int) ||| Int32.ofInt ((Int32.ofInt 1 <<< (Int32.ofInt (difS n (sideS tb r a i) (sideS tb r b i)) &&& 31)).toInt)).toInt)), some (.inl ((Int32.ofInt (e : Int) ||| Int32.ofInt ((Int32.ofInt (s : Int) &&& Int32.ofInt ((Int32.ofInt 1 <<< (Int32.ofInt (difS n (sideS tb r a i) (sideS tb r b i)) &&& 31)).toInt)).toInt)).toInt)), some (.inl (i + 1)), some (.inl ((Int32.ofInt 1 <<< (Int32.ofInt (difS n (sideS tb r a i) (sideS tb r b i)) &&& 31)).toInt))], [], mW (n, T, h, t, x) M, 0, 0)) rfl ?_
    refine m_weak [some (.inr (.inl 2)), some (.inl a), some (.inl b), some (.inl (bI r)), some (.inl ((Int32.ofInt (s : Int) ||| Int32.ofInt ((Int32.ofInt 1 <<< (Int32.ofInt (difS n (sideS tb r a i) (sideS tb r b i)) &&& 31)).toInt)).toInt)), some (.inl ((Int32.ofInt (e : Int) ||| Int32.ofInt ((Int32.ofInt (s : Int) &&& Int32.ofInt ((Int32.ofInt 1 <<< (Int32.ofInt (difS n (sideS tb r a i) (sideS tb r b i)) &&& 31)).toInt)).toInt)).toInt)), some (.inl (i + 1)), none] ⟨rfl, ⟨rfl, ⟨rfl, ⟨rfl, ⟨rfl, ⟨rfl, ⟨rfl, trivial⟩⟩⟩⟩⟩⟩⟩ ?_
    have hd1 : 0 ≤ difS n (sideS tb r a i) (sideS tb r b i) ∧ difS n (sideS tb r a i) (sideS tb r b i) < 9 := by omega
    have hw := pow9 hd1.1 hd1.2
    rw [m_shl1 hd1.1 (by omega), m_and (by omega) (by omega), m_or (by omega) (by omega), m_or (by omega) (n_and_lt (by omega))]
    exact ih _ _ (or9 hs hw) (or9 he (and9 hs)) hu
set_option maxHeartbeats 4000000 in
set_option maxRecDepth 100000 in
theorem k_once {X : Nat × Nat × (Nat → Int32)} {n : Int} {T : Int → Int} {h : HS} {t : TS} {x : XS} {M : MS} {tb : Int → Int → Int} {a b : Int} {r : Bool} (hR : repC n T tb) (ha : 0 ≤ a) (ha2 : a < n) (hb : 0 ≤ b) (hb2 : b < n) : m_Run X 9 [.inr (.inl 2), .inl a, .inl b, .inl (bI r)] (mW (n, T, h, t, x) M) (m_V (onceS n tb r a b) (mW (n, T, h, t, x) M)) := by
  have hn := hR.1
  have hl := okN_lo hn
  show m_Sem X 9 (0, [some (.inr (.inl 2)), some (.inl a), some (.inl b), some (.inl (bI r)), none, none, none, none], [], mW (n, T, h, t, x) M, 0, 0) _
  refine m_run 6 (ps' := (9, [some (.inr (.inl 2)), some (.inl a), some (.inl b), some (.inl (bI r)), some (.inl 0), some (.inl 0), some (.inl 0), none], [], mW (n, T, h, t, x) M, 0, 0)) rfl ?_
  refine m_weak [some (.inr (.inl 2)), some (.inl a), some (.inl b), some (.inl (bI r)), some (.inl 0), some (.inl 0), some (.inl 0), none] ⟨rfl, ⟨rfl, ⟨rfl, ⟨rfl, ⟨rfl, ⟨rfl, ⟨rfl, trivial⟩⟩⟩⟩⟩⟩⟩ ?_
  exact l_once (v := onceS n tb r a b) hR ha ha2 hb hb2 0 (by omega) (by omega) 0 0 (by omega) (by omega) (by rw [z_sub]; rfl)
def holdsS (n : Int) (tb : Int → Int → Int) (law a b c : Int) : Bool :=
  if law = 0 then decide (tb 0 a = 0) && decide (tb a 0 = 0)
  else if law = 1 then decide (tb 1 a = a) && decide (tb a 1 = a)
  else if law = 2 then decide (tb a (sumS n b c) = sumS n (tb a b) (tb a c))
  else if law = 3 then decide (tb (sumS n a b) c = sumS n (tb a c) (tb b c))
  else if law = 4 then decide (tb (tb a b) c = tb a (tb b c))
  else if law = 5 then decide (tb a b = tb b a)
  else decide (a = b) || decide (onceS n tb (decide (law = 6)) a b = n)
theorem m_Vb {b : Bool} {a : Int} {w : mPW} (h : a = bI b) : m_V (bI b) w (some (.inl a)) w := ⟨by rw [h], rfl⟩
theorem b1 {b : Bool} (h : b = true) : 1 = bI b := by rw [h]; rfl
theorem b0 {b : Bool} (h : b = false) : 0 = bI b := by rw [h]; rfl
set_option maxHeartbeats 4000000 in
set_option maxRecDepth 100000 in
theorem k_holds {X : Nat × Nat × (Nat → Int32)} {n : Int} {T : Int → Int} {h : HS} {t : TS} {x : XS} {M : MS} {tb : Int → Int → Int} {law a b c : Int} (hR : repC n T tb) (hw : 0 ≤ law) (hw2 : law < 8) (ha : 0 ≤ a) (ha2 : a < n) (hb : 0 ≤ b) (hb2 : b < n) (hc : 0 ≤ c) (hc2 : c < n) : m_Run X 6 [.inr (.inl 2), .inl law, .inl a, .inl b, .inl c] (mW (n, T, h, t, x) M) (m_V (bI (holdsS n tb law a b c)) (mW (n, T, h, t, x) M)) := by
  have hn := hR.1
  have hl := okN_lo hn
  show m_Sem X 6 (0, [some (.inr (.inl 2)), some (.inl law), some (.inl a), some (.inl b), some (.inl c)], [], mW (n, T, h, t, x) M, 0, 0) _
  refine m_run 1 (ps' := (1, [some (.inr (.inl 2)), some (.inl law), some (.inl a), some (.inl b), some (.inl c)], [.inl law], mW (n, T, h, t, x) M, 0, 0)) rfl ?_
  rcases (show law = 0 ∨ law = 1 ∨ law = 2 ∨ law = 3 ∨ law = 4 ∨ law = 5 ∨ 5 < law by omega) with rfl | rfl | rfl | rfl | rfl | rfl | zs1
  · refine m_tabIn (tgt := 40) rfl ⟨by decide, by decide⟩ (by decide) (by decide) rfl rfl ?_
    refine m_run 3 (ps' := (43, [some (.inr (.inl 2)), some (.inl 0), some (.inl a), some (.inl b), some (.inl c)], [.inl a, .inl 0, .inr (.inl 2)], mW (n, T, h, t, x) M, 0, 0)) rfl ?_
    refine m_callVF [.inl 0, .inl a] [] rfl rfl ⟨_, rfl, rfl⟩ rfl rfl (k_times (a := 0) (b := a) hR (by omega) (by omega) (by omega) (by omega)) ?_
    have zt1 := (hR.2 0 a (by omega) (by omega) (by omega) (by omega)).2
    show m_Sem X 6 (46, [some (.inr (.inl 2)), some (.inl 0), some (.inl a), some (.inl b), some (.inl c)], [.inl (tb 0 a)], mW (n, T, h, t, x) M, 0, 0) _
    refine m_if rfl ⟨by omega, by omega⟩ (fun (zc1 : ¬ (tb 0 a) = 0) => ?_) (fun (zc1 : ¬ ¬ (tb 0 a) = 0) => ?_)
    · refine m_run 1 (ps' := (63, [some (.inr (.inl 2)), some (.inl 0), some (.inl a), some (.inl b), some (.inl c)], [.inl 0], mW (n, T, h, t, x) M, 0, 0)) rfl ?_
      exact m_ret1 rfl (Or.inr ⟨rfl, Or.inl rfl⟩) rfl (m_Vb (b0 (by unfold holdsS; simp [*])))
    · replace zc1 : (tb 0 a) = 0 := Decidable.not_not.mp zc1
      refine m_run 3 (ps' := (52, [some (.inr (.inl 2)), some (.inl 0), some (.inl a), some (.inl b), some (.inl c)], [.inl 0, .inl a, .inr (.inl 2)], mW (n, T, h, t, x) M, 0, 0)) rfl ?_
      refine m_callVF [.inl a, .inl 0] [] rfl rfl ⟨_, rfl, rfl⟩ rfl rfl (k_times (a := a) (b := 0) hR (by omega) (by omega) (by omega) (by omega)) ?_
      have zt2 := (hR.2 a 0 (by omega) (by omega) (by omega) (by omega)).2
      show m_Sem X 6 (55, [some (.inr (.inl 2)), some (.inl 0), some (.inl a), some (.inl b), some (.inl c)], [.inl (tb a 0)], mW (n, T, h, t, x) M, 0, 0) _
      refine m_if rfl ⟨by omega, by omega⟩ (fun (zc2 : ¬ (tb a 0) = 0) => ?_) (fun (zc2 : ¬ ¬ (tb a 0) = 0) => ?_)
      · refine m_run 1 (ps' := (63, [some (.inr (.inl 2)), some (.inl 0), some (.inl a), some (.inl b), some (.inl c)], [.inl 0], mW (n, T, h, t, x) M, 0, 0)) rfl ?_
        exact m_ret1 rfl (Or.inr ⟨rfl, Or.inl rfl⟩) rfl (m_Vb (b0 (by unfold holdsS; simp [*])))
      · replace zc2 : (tb a 0) = 0 := Decidable.not_not.mp zc2
        refine m_run 2 (ps' := (63, [some (.inr (.inl 2)), some (.inl 0), some (.inl a), some (.inl b), some (.inl c)], [.inl 1], mW (n, T, h, t, x) M, 0, 0)) rfl ?_
        exact m_ret1 rfl (Or.inr ⟨rfl, Or.inr rfl⟩) rfl (m_Vb (b1 (by unfold holdsS; simp [*])))
  · refine m_tabIn (tgt := 64) rfl ⟨by decide, by decide⟩ (by decide) (by decide) rfl rfl ?_
    refine m_run 3 (ps' := (67, [some (.inr (.inl 2)), some (.inl 1), some (.inl a), some (.inl b), some (.inl c)], [.inl a, .inl 1, .inr (.inl 2)], mW (n, T, h, t, x) M, 0, 0)) rfl ?_
    refine m_callVF [.inl 1, .inl a] [] rfl rfl ⟨_, rfl, rfl⟩ rfl rfl (k_times (a := 1) (b := a) hR (by omega) (by omega) (by omega) (by omega)) ?_
    have zt1 := (hR.2 1 a (by omega) (by omega) (by omega) (by omega)).2
    show m_Sem X 6 (70, [some (.inr (.inl 2)), some (.inl 1), some (.inl a), some (.inl b), some (.inl c)], [.inl (tb 1 a)], mW (n, T, h, t, x) M, 0, 0) _
    refine m_run 1 (ps' := (71, [some (.inr (.inl 2)), some (.inl 1), some (.inl a), some (.inl b), some (.inl c)], [.inl a, .inl (tb 1 a)], mW (n, T, h, t, x) M, 0, 0)) rfl ?_
    refine m_icmp rfl ⟨by omega, by omega⟩ ⟨by omega, by omega⟩ (fun (zc1 : ¬ (tb 1 a) = a) => ?_) (fun (zc1 : ¬ ¬ (tb 1 a) = a) => ?_)
    · refine m_run 1 (ps' := (89, [some (.inr (.inl 2)), some (.inl 1), some (.inl a), some (.inl b), some (.inl c)], [.inl 0], mW (n, T, h, t, x) M, 0, 0)) rfl ?_
      exact m_ret1 rfl (Or.inr ⟨rfl, Or.inl rfl⟩) rfl (m_Vb (b0 (by unfold holdsS; simp [*])))
    · replace zc1 : (tb 1 a) = a := Decidable.not_not.mp zc1
      refine m_run 3 (ps' := (77, [some (.inr (.inl 2)), some (.inl 1), some (.inl a), some (.inl b), some (.inl c)], [.inl 1, .inl a, .inr (.inl 2)], mW (n, T, h, t, x) M, 0, 0)) rfl ?_
      refine m_callVF [.inl a, .inl 1] [] rfl rfl ⟨_, rfl, rfl⟩ rfl rfl (k_times (a := a) (b := 1) hR (by omega) (by omega) (by omega) (by omega)) ?_
      have zt2 := (hR.2 a 1 (by omega) (by omega) (by omega) (by omega)).2
      show m_Sem X 6 (80, [some (.inr (.inl 2)), some (.inl 1), some (.inl a), some (.inl b), some (.inl c)], [.inl (tb a 1)], mW (n, T, h, t, x) M, 0, 0) _
      refine m_run 1 (ps' := (81, [some (.inr (.inl 2)), some (.inl 1), some (.inl a), some (.inl b), some (.inl c)], [.inl a, .inl (tb a 1)], mW (n, T, h, t, x) M, 0, 0)) rfl ?_
      refine m_icmp rfl ⟨by omega, by omega⟩ ⟨by omega, by omega⟩ (fun (zc2 : ¬ (tb a 1) = a) => ?_) (fun (zc2 : ¬ ¬ (tb a 1) = a) => ?_)
      · refine m_run 1 (ps' := (89, [some (.inr (.inl 2)), some (.inl 1), some (.inl a), some (.inl b), some (.inl c)], [.inl 0], mW (n, T, h, t, x) M, 0, 0)) rfl ?_
        exact m_ret1 rfl (Or.inr ⟨rfl, Or.inl rfl⟩) rfl (m_Vb (b0 (by unfold holdsS; simp [*])))
      · replace zc2 : (tb a 1) = a := Decidable.not_not.mp zc2
        refine m_run 2 (ps' := (89, [some (.inr (.inl 2)), some (.inl 1), some (.inl a), some (.inl b), some (.inl c)], [.inl 1], mW (n, T, h, t, x) M, 0, 0)) rfl ?_
        exact m_ret1 rfl (Or.inr ⟨rfl, Or.inr rfl⟩) rfl (m_Vb (b1 (by unfold holdsS; simp [*])))
  · refine m_tabIn (tgt := 90) rfl ⟨by decide, by decide⟩ (by decide) (by decide) rfl rfl ?_
    refine m_run 5 (ps' := (96, [some (.inr (.inl 2)), some (.inl 2), some (.inl a), some (.inl b), some (.inl c)], [.inl c, .inl b, .inr (.inl 2), .inl a, .inr (.inl 2)], mW (n, T, h, t, x) M, 0, 0)) rfl ?_
    refine m_callVF [.inl b, .inl c] [.inl a, .inr (.inl 2)] rfl rfl ⟨_, rfl, rfl⟩ rfl rfl (k_sum (a := b) (b := c) hn (by omega) (by omega) (by omega) (by omega)) ?_
    have zt1 := sumS_in (n := n) (a := b) (b := c) hn (by omega) (by omega) (by omega) (by omega)
    show m_Sem X 6 (99, [some (.inr (.inl 2)), some (.inl 2), some (.inl a), some (.inl b), some (.inl c)], [.inl (sumS n b c), .inl a, .inr (.inl 2)], mW (n, T, h, t, x) M, 0, 0) _
    refine m_callVF [.inl a, .inl (sumS n b c)] [] rfl rfl ⟨_, rfl, rfl⟩ rfl rfl (k_times (a := a) (b := (sumS n b c)) hR (by omega) (by omega) (by omega) (by omega)) ?_
    have zt2 := (hR.2 a (sumS n b c) (by omega) (by omega) (by omega) (by omega)).2
    show m_Sem X 6 (102, [some (.inr (.inl 2)), some (.inl 2), some (.inl a), some (.inl b), some (.inl c)], [.inl (tb a (sumS n b c))], mW (n, T, h, t, x) M, 0, 0) _
    refine m_run 4 (ps' := (106, [some (.inr (.inl 2)), some (.inl 2), some (.inl a), some (.inl b), some (.inl c)], [.inl b, .inl a, .inr (.inl 2), .inr (.inl 2), .inl (tb a (sumS n b c))], mW (n, T, h, t, x) M, 0, 0)) rfl ?_
    refine m_callVF [.inl a, .inl b] [.inr (.inl 2), .inl (tb a (sumS n b c))] rfl rfl ⟨_, rfl, rfl⟩ rfl rfl (k_times (a := a) (b := b) hR (by omega) (by omega) (by omega) (by omega)) ?_
    have zt3 := (hR.2 a b (by omega) (by omega) (by omega) (by omega)).2
    show m_Sem X 6 (109, [some (.inr (.inl 2)), some (.inl 2), some (.inl a), some (.inl b), some (.inl c)], [.inl (tb a b), .inr (.inl 2), .inl (tb a (sumS n b c))], mW (n, T, h, t, x) M, 0, 0) _
    refine m_run 3 (ps' := (113, [some (.inr (.inl 2)), some (.inl 2), some (.inl a), some (.inl b), some (.inl c)], [.inl c, .inl a, .inr (.inl 2), .inl (tb a b), .inr (.inl 2), .inl (tb a (sumS n b c))], mW (n, T, h, t, x) M, 0, 0)) rfl ?_
    refine m_callVF [.inl a, .inl c] [.inl (tb a b), .inr (.inl 2), .inl (tb a (sumS n b c))] rfl rfl ⟨_, rfl, rfl⟩ rfl rfl (k_times (a := a) (b := c) hR (by omega) (by omega) (by omega) (by omega)) ?_
    have zt4 := (hR.2 a c (by omega) (by omega) (by omega) (by omega)).2
    show m_Sem X 6 (116, [some (.inr (.inl 2)), some (.inl 2), some (.inl a), some (.inl b), some (.inl c)], [.inl (tb a c), .inl (tb a b), .inr (.inl 2), .inl (tb a (sumS n b c))], mW (n, T, h, t, x) M, 0, 0) _
    refine m_callVF [.inl (tb a b), .inl (tb a c)] [.inl (tb a (sumS n b c))] rfl rfl ⟨_, rfl, rfl⟩ rfl rfl (k_sum (a := (tb a b)) (b := (tb a c)) hn (by omega) (by omega) (by omega) (by omega)) ?_
    have zt5 := sumS_in (n := n) (a := (tb a b)) (b := (tb a c)) hn (by omega) (by omega) (by omega) (by omega)
    show m_Sem X 6 (119, [some (.inr (.inl 2)), some (.inl 2), some (.inl a), some (.inl b), some (.inl c)], [.inl (sumS n (tb a b) (tb a c)), .inl (tb a (sumS n b c))], mW (n, T, h, t, x) M, 0, 0) _
    refine m_icmp rfl ⟨by omega, by omega⟩ ⟨by omega, by omega⟩ (fun (zc1 : ¬ (tb a (sumS n b c)) = (sumS n (tb a b) (tb a c))) => ?_) (fun (zc1 : ¬ ¬ (tb a (sumS n b c)) = (sumS n (tb a b) (tb a c))) => ?_)
    · refine m_run 1 (ps' := (127, [some (.inr (.inl 2)), some (.inl 2), some (.inl a), some (.inl b), some (.inl c)], [.inl 0], mW (n, T, h, t, x) M, 0, 0)) rfl ?_
      exact m_ret1 rfl (Or.inr ⟨rfl, Or.inl rfl⟩) rfl (m_Vb (b0 (by unfold holdsS; simp [*])))
    · replace zc1 : (tb a (sumS n b c)) = (sumS n (tb a b) (tb a c)) := Decidable.not_not.mp zc1
      refine m_run 2 (ps' := (127, [some (.inr (.inl 2)), some (.inl 2), some (.inl a), some (.inl b), some (.inl c)], [.inl 1], mW (n, T, h, t, x) M, 0, 0)) rfl ?_
      exact m_ret1 rfl (Or.inr ⟨rfl, Or.inr rfl⟩) rfl (m_Vb (b1 (by unfold holdsS; simp [*])))
  · refine m_tabIn (tgt := 128) rfl ⟨by decide, by decide⟩ (by decide) (by decide) rfl rfl ?_
    refine m_run 4 (ps' := (132, [some (.inr (.inl 2)), some (.inl 3), some (.inl a), some (.inl b), some (.inl c)], [.inl b, .inl a, .inr (.inl 2), .inr (.inl 2)], mW (n, T, h, t, x) M, 0, 0)) rfl ?_
    refine m_callVF [.inl a, .inl b] [.inr (.inl 2)] rfl rfl ⟨_, rfl, rfl⟩ rfl rfl (k_sum (a := a) (b := b) hn (by omega) (by omega) (by omega) (by omega)) ?_
    have zt1 := sumS_in (n := n) (a := a) (b := b) hn (by omega) (by omega) (by omega) (by omega)
    show m_Sem X 6 (135, [some (.inr (.inl 2)), some (.inl 3), some (.inl a), some (.inl b), some (.inl c)], [.inl (sumS n a b), .inr (.inl 2)], mW (n, T, h, t, x) M, 0, 0) _
    refine m_run 1 (ps' := (137, [some (.inr (.inl 2)), some (.inl 3), some (.inl a), some (.inl b), some (.inl c)], [.inl c, .inl (sumS n a b), .inr (.inl 2)], mW (n, T, h, t, x) M, 0, 0)) rfl ?_
    refine m_callVF [.inl (sumS n a b), .inl c] [] rfl rfl ⟨_, rfl, rfl⟩ rfl rfl (k_times (a := (sumS n a b)) (b := c) hR (by omega) (by omega) (by omega) (by omega)) ?_
    have zt2 := (hR.2 (sumS n a b) c (by omega) (by omega) (by omega) (by omega)).2
    show m_Sem X 6 (140, [some (.inr (.inl 2)), some (.inl 3), some (.inl a), some (.inl b), some (.inl c)], [.inl (tb (sumS n a b) c)], mW (n, T, h, t, x) M, 0, 0) _
    refine m_run 4 (ps' := (145, [some (.inr (.inl 2)), some (.inl 3), some (.inl a), some (.inl b), some (.inl c)], [.inl c, .inl a, .inr (.inl 2), .inr (.inl 2), .inl (tb (sumS n a b) c)], mW (n, T, h, t, x) M, 0, 0)) rfl ?_
    refine m_callVF [.inl a, .inl c] [.inr (.inl 2), .inl (tb (sumS n a b) c)] rfl rfl ⟨_, rfl, rfl⟩ rfl rfl (k_times (a := a) (b := c) hR (by omega) (by omega) (by omega) (by omega)) ?_
    have zt3 := (hR.2 a c (by omega) (by omega) (by omega) (by omega)).2
    show m_Sem X 6 (148, [some (.inr (.inl 2)), some (.inl 3), some (.inl a), some (.inl b), some (.inl c)], [.inl (tb a c), .inr (.inl 2), .inl (tb (sumS n a b) c)], mW (n, T, h, t, x) M, 0, 0) _
    refine m_run 3 (ps' := (152, [some (.inr (.inl 2)), some (.inl 3), some (.inl a), some (.inl b), some (.inl c)], [.inl c, .inl b, .inr (.inl 2), .inl (tb a c), .inr (.inl 2), .inl (tb (sumS n a b) c)], mW (n, T, h, t, x) M, 0, 0)) rfl ?_
    refine m_callVF [.inl b, .inl c] [.inl (tb a c), .inr (.inl 2), .inl (tb (sumS n a b) c)] rfl rfl ⟨_, rfl, rfl⟩ rfl rfl (k_times (a := b) (b := c) hR (by omega) (by omega) (by omega) (by omega)) ?_
    have zt4 := (hR.2 b c (by omega) (by omega) (by omega) (by omega)).2
    show m_Sem X 6 (155, [some (.inr (.inl 2)), some (.inl 3), some (.inl a), some (.inl b), some (.inl c)], [.inl (tb b c), .inl (tb a c), .inr (.inl 2), .inl (tb (sumS n a b) c)], mW (n, T, h, t, x) M, 0, 0) _
    refine m_callVF [.inl (tb a c), .inl (tb b c)] [.inl (tb (sumS n a b) c)] rfl rfl ⟨_, rfl, rfl⟩ rfl rfl (k_sum (a := (tb a c)) (b := (tb b c)) hn (by omega) (by omega) (by omega) (by omega)) ?_
    have zt5 := sumS_in (n := n) (a := (tb a c)) (b := (tb b c)) hn (by omega) (by omega) (by omega) (by omega)
    show m_Sem X 6 (158, [some (.inr (.inl 2)), some (.inl 3), some (.inl a), some (.inl b), some (.inl c)], [.inl (sumS n (tb a c) (tb b c)), .inl (tb (sumS n a b) c)], mW (n, T, h, t, x) M, 0, 0) _
    refine m_icmp rfl ⟨by omega, by omega⟩ ⟨by omega, by omega⟩ (fun (zc1 : ¬ (tb (sumS n a b) c) = (sumS n (tb a c) (tb b c))) => ?_) (fun (zc1 : ¬ ¬ (tb (sumS n a b) c) = (sumS n (tb a c) (tb b c))) => ?_)
    · refine m_run 1 (ps' := (166, [some (.inr (.inl 2)), some (.inl 3), some (.inl a), some (.inl b), some (.inl c)], [.inl 0], mW (n, T, h, t, x) M, 0, 0)) rfl ?_
      exact m_ret1 rfl (Or.inr ⟨rfl, Or.inl rfl⟩) rfl (m_Vb (b0 (by unfold holdsS; simp [*])))
    · replace zc1 : (tb (sumS n a b) c) = (sumS n (tb a c) (tb b c)) := Decidable.not_not.mp zc1
      refine m_run 2 (ps' := (166, [some (.inr (.inl 2)), some (.inl 3), some (.inl a), some (.inl b), some (.inl c)], [.inl 1], mW (n, T, h, t, x) M, 0, 0)) rfl ?_
      exact m_ret1 rfl (Or.inr ⟨rfl, Or.inr rfl⟩) rfl (m_Vb (b1 (by unfold holdsS; simp [*])))
  · refine m_tabIn (tgt := 167) rfl ⟨by decide, by decide⟩ (by decide) (by decide) rfl rfl ?_
    refine m_run 4 (ps' := (171, [some (.inr (.inl 2)), some (.inl 4), some (.inl a), some (.inl b), some (.inl c)], [.inl b, .inl a, .inr (.inl 2), .inr (.inl 2)], mW (n, T, h, t, x) M, 0, 0)) rfl ?_
    refine m_callVF [.inl a, .inl b] [.inr (.inl 2)] rfl rfl ⟨_, rfl, rfl⟩ rfl rfl (k_times (a := a) (b := b) hR (by omega) (by omega) (by omega) (by omega)) ?_
    have zt1 := (hR.2 a b (by omega) (by omega) (by omega) (by omega)).2
    show m_Sem X 6 (174, [some (.inr (.inl 2)), some (.inl 4), some (.inl a), some (.inl b), some (.inl c)], [.inl (tb a b), .inr (.inl 2)], mW (n, T, h, t, x) M, 0, 0) _
    refine m_run 1 (ps' := (176, [some (.inr (.inl 2)), some (.inl 4), some (.inl a), some (.inl b), some (.inl c)], [.inl c, .inl (tb a b), .inr (.inl 2)], mW (n, T, h, t, x) M, 0, 0)) rfl ?_
    refine m_callVF [.inl (tb a b), .inl c] [] rfl rfl ⟨_, rfl, rfl⟩ rfl rfl (k_times (a := (tb a b)) (b := c) hR (by omega) (by omega) (by omega) (by omega)) ?_
    have zt2 := (hR.2 (tb a b) c (by omega) (by omega) (by omega) (by omega)).2
    show m_Sem X 6 (179, [some (.inr (.inl 2)), some (.inl 4), some (.inl a), some (.inl b), some (.inl c)], [.inl (tb (tb a b) c)], mW (n, T, h, t, x) M, 0, 0) _
    refine m_run 5 (ps' := (185, [some (.inr (.inl 2)), some (.inl 4), some (.inl a), some (.inl b), some (.inl c)], [.inl c, .inl b, .inr (.inl 2), .inl a, .inr (.inl 2), .inl (tb (tb a b) c)], mW (n, T, h, t, x) M, 0, 0)) rfl ?_
    refine m_callVF [.inl b, .inl c] [.inl a, .inr (.inl 2), .inl (tb (tb a b) c)] rfl rfl ⟨_, rfl, rfl⟩ rfl rfl (k_times (a := b) (b := c) hR (by omega) (by omega) (by omega) (by omega)) ?_
    have zt3 := (hR.2 b c (by omega) (by omega) (by omega) (by omega)).2
    show m_Sem X 6 (188, [some (.inr (.inl 2)), some (.inl 4), some (.inl a), some (.inl b), some (.inl c)], [.inl (tb b c), .inl a, .inr (.inl 2), .inl (tb (tb a b) c)], mW (n, T, h, t, x) M, 0, 0) _
    refine m_callVF [.inl a, .inl (tb b c)] [.inl (tb (tb a b) c)] rfl rfl ⟨_, rfl, rfl⟩ rfl rfl (k_times (a := a) (b := (tb b c)) hR (by omega) (by omega) (by omega) (by omega)) ?_
    have zt4 := (hR.2 a (tb b c) (by omega) (by omega) (by omega) (by omega)).2
    show m_Sem X 6 (191, [some (.inr (.inl 2)), some (.inl 4), some (.inl a), some (.inl b), some (.inl c)], [.inl (tb a (tb b c)), .inl (tb (tb a b) c)], mW (n, T, h, t, x) M, 0, 0) _
    refine m_icmp rfl ⟨by omega, by omega⟩ ⟨by omega, by omega⟩ (fun (zc1 : ¬ (tb (tb a b) c) = (tb a (tb b c))) => ?_) (fun (zc1 : ¬ ¬ (tb (tb a b) c) = (tb a (tb b c))) => ?_)
    · refine m_run 1 (ps' := (199, [some (.inr (.inl 2)), some (.inl 4), some (.inl a), some (.inl b), some (.inl c)], [.inl 0], mW (n, T, h, t, x) M, 0, 0)) rfl ?_
      exact m_ret1 rfl (Or.inr ⟨rfl, Or.inl rfl⟩) rfl (m_Vb (b0 (by unfold holdsS; simp [*])))
    · replace zc1 : (tb (tb a b) c) = (tb a (tb b c)) := Decidable.not_not.mp zc1
      refine m_run 2 (ps' := (199, [some (.inr (.inl 2)), some (.inl 4), some (.inl a), some (.inl b), some (.inl c)], [.inl 1], mW (n, T, h, t, x) M, 0, 0)) rfl ?_
      exact m_ret1 rfl (Or.inr ⟨rfl, Or.inr rfl⟩) rfl (m_Vb (b1 (by unfold holdsS; simp [*])))
  · refine m_tabIn (tgt := 200) rfl ⟨by decide, by decide⟩ (by decide) (by decide) rfl rfl ?_
    refine m_run 3 (ps' := (203, [some (.inr (.inl 2)), some (.inl 5), some (.inl a), some (.inl b), some (.inl c)], [.inl b, .inl a, .inr (.inl 2)], mW (n, T, h, t, x) M, 0, 0)) rfl ?_
    refine m_callVF [.inl a, .inl b] [] rfl rfl ⟨_, rfl, rfl⟩ rfl rfl (k_times (a := a) (b := b) hR (by omega) (by omega) (by omega) (by omega)) ?_
    have zt1 := (hR.2 a b (by omega) (by omega) (by omega) (by omega)).2
    show m_Sem X 6 (206, [some (.inr (.inl 2)), some (.inl 5), some (.inl a), some (.inl b), some (.inl c)], [.inl (tb a b)], mW (n, T, h, t, x) M, 0, 0) _
    refine m_run 3 (ps' := (209, [some (.inr (.inl 2)), some (.inl 5), some (.inl a), some (.inl b), some (.inl c)], [.inl a, .inl b, .inr (.inl 2), .inl (tb a b)], mW (n, T, h, t, x) M, 0, 0)) rfl ?_
    refine m_callVF [.inl b, .inl a] [.inl (tb a b)] rfl rfl ⟨_, rfl, rfl⟩ rfl rfl (k_times (a := b) (b := a) hR (by omega) (by omega) (by omega) (by omega)) ?_
    have zt2 := (hR.2 b a (by omega) (by omega) (by omega) (by omega)).2
    show m_Sem X 6 (212, [some (.inr (.inl 2)), some (.inl 5), some (.inl a), some (.inl b), some (.inl c)], [.inl (tb b a), .inl (tb a b)], mW (n, T, h, t, x) M, 0, 0) _
    refine m_icmp rfl ⟨by omega, by omega⟩ ⟨by omega, by omega⟩ (fun (zc1 : ¬ (tb a b) = (tb b a)) => ?_) (fun (zc1 : ¬ ¬ (tb a b) = (tb b a)) => ?_)
    · refine m_run 1 (ps' := (220, [some (.inr (.inl 2)), some (.inl 5), some (.inl a), some (.inl b), some (.inl c)], [.inl 0], mW (n, T, h, t, x) M, 0, 0)) rfl ?_
      exact m_ret1 rfl (Or.inr ⟨rfl, Or.inl rfl⟩) rfl (m_Vb (b0 (by unfold holdsS; simp [*])))
    · replace zc1 : (tb a b) = (tb b a) := Decidable.not_not.mp zc1
      refine m_run 2 (ps' := (220, [some (.inr (.inl 2)), some (.inl 5), some (.inl a), some (.inl b), some (.inl c)], [.inl 1], mW (n, T, h, t, x) M, 0, 0)) rfl ?_
      exact m_ret1 rfl (Or.inr ⟨rfl, Or.inr rfl⟩) rfl (m_Vb (b1 (by unfold holdsS; simp [*])))
  · refine m_tabOut (tgt := 221) rfl ⟨by omega, by omega⟩ (Or.inr (by omega)) rfl ?_
    refine m_run 2 (ps' := (223, [some (.inr (.inl 2)), some (.inl law), some (.inl a), some (.inl b), some (.inl c)], [.inl b, .inl a], mW (n, T, h, t, x) M, 0, 0)) rfl ?_
    refine m_icmp rfl ⟨by omega, by omega⟩ ⟨by omega, by omega⟩ (fun (zc1 : a = b) => ?_) (fun (zc1 : ¬ a = b) => ?_)
    · refine m_run 2 (ps' := (255, [some (.inr (.inl 2)), some (.inl law), some (.inl a), some (.inl b), some (.inl c)], [.inl 1], mW (n, T, h, t, x) M, 0, 0)) rfl ?_
      exact m_ret1 rfl (Or.inr ⟨rfl, Or.inr rfl⟩) rfl (m_Vb (b1 (by unfold holdsS; simp only [show ¬ law = 0 by omega, show ¬ law = 1 by omega, show ¬ law = 2 by omega, show ¬ law = 3 by omega, show ¬ law = 4 by omega, show ¬ law = 5 by omega, if_false]; simp [*])))
    · refine m_run 5 (ps' := (232, [some (.inr (.inl 2)), some (.inl law), some (.inl a), some (.inl b), some (.inl c)], [.inl 6, .inl law, .inl b, .inl a, .inr (.inl 2)], mW (n, T, h, t, x) M, 0, 0)) rfl ?_
      refine m_icmp rfl ⟨by omega, by omega⟩ ⟨by omega, by omega⟩ (fun (zc2 : ¬ law = 6) => ?_) (fun (zc2 : ¬ ¬ law = 6) => ?_)
      · refine m_run 1 (ps' := (240, [some (.inr (.inl 2)), some (.inl law), some (.inl a), some (.inl b), some (.inl c)], [.inl 0, .inl b, .inl a, .inr (.inl 2)], mW (n, T, h, t, x) M, 0, 0)) rfl ?_
        refine m_callSF [.inr (.inl 2), .inl a, .inl b, .inl 0] [] rfl rfl rfl (k_once (a := a) (b := b) (r := false) hR (by omega) (by omega) (by omega) (by omega)) ?_
        have zt1 := onceS_in n tb false a b
        show m_Sem X 6 (243, [some (.inr (.inl 2)), some (.inl law), some (.inl a), some (.inl b), some (.inl c)], [.inl (onceS n tb false a b)], mW (n, T, h, t, x) M, 0, 0) _
        refine m_run 2 (ps' := (247, [some (.inr (.inl 2)), some (.inl law), some (.inl a), some (.inl b), some (.inl c)], [.inl n, .inl (onceS n tb false a b)], mW (n, T, h, t, x) M, 0, 0)) rfl ?_
        refine m_icmp rfl ⟨by omega, by omega⟩ ⟨by omega, by omega⟩ (fun (zc3 : ¬ (onceS n tb false a b) = n) => ?_) (fun (zc3 : ¬ ¬ (onceS n tb false a b) = n) => ?_)
        · refine m_run 1 (ps' := (255, [some (.inr (.inl 2)), some (.inl law), some (.inl a), some (.inl b), some (.inl c)], [.inl 0], mW (n, T, h, t, x) M, 0, 0)) rfl ?_
          exact m_ret1 rfl (Or.inr ⟨rfl, Or.inl rfl⟩) rfl (m_Vb (b0 (by unfold holdsS; simp only [show ¬ law = 0 by omega, show ¬ law = 1 by omega, show ¬ law = 2 by omega, show ¬ law = 3 by omega, show ¬ law = 4 by omega, show ¬ law = 5 by omega, if_false]; simp [*])))
        · replace zc3 : (onceS n tb false a b) = n := Decidable.not_not.mp zc3
          refine m_run 2 (ps' := (255, [some (.inr (.inl 2)), some (.inl law), some (.inl a), some (.inl b), some (.inl c)], [.inl 1], mW (n, T, h, t, x) M, 0, 0)) rfl ?_
          exact m_ret1 rfl (Or.inr ⟨rfl, Or.inr rfl⟩) rfl (m_Vb (b1 (by unfold holdsS; simp only [show ¬ law = 0 by omega, show ¬ law = 1 by omega, show ¬ law = 2 by omega, show ¬ law = 3 by omega, show ¬ law = 4 by omega, show ¬ law = 5 by omega, if_false]; simp [*])))
      · replace zc2 : law = 6 := Decidable.not_not.mp zc2
        refine m_run 2 (ps' := (240, [some (.inr (.inl 2)), some (.inl law), some (.inl a), some (.inl b), some (.inl c)], [.inl 1, .inl b, .inl a, .inr (.inl 2)], mW (n, T, h, t, x) M, 0, 0)) rfl ?_
        refine m_callSF [.inr (.inl 2), .inl a, .inl b, .inl 1] [] rfl rfl rfl (k_once (a := a) (b := b) (r := true) hR (by omega) (by omega) (by omega) (by omega)) ?_
        have zt1 := onceS_in n tb true a b
        show m_Sem X 6 (243, [some (.inr (.inl 2)), some (.inl law), some (.inl a), some (.inl b), some (.inl c)], [.inl (onceS n tb true a b)], mW (n, T, h, t, x) M, 0, 0) _
        refine m_run 2 (ps' := (247, [some (.inr (.inl 2)), some (.inl law), some (.inl a), some (.inl b), some (.inl c)], [.inl n, .inl (onceS n tb true a b)], mW (n, T, h, t, x) M, 0, 0)) rfl ?_
        refine m_icmp rfl ⟨by omega, by omega⟩ ⟨by omega, by omega⟩ (fun (zc3 : ¬ (onceS n tb true a b) = n) => ?_) (fun (zc3 : ¬ ¬ (onceS n tb true a b) = n) => ?_)
        · refine m_run 1 (ps' := (255, [some (.inr (.inl 2)), some (.inl law), some (.inl a), some (.inl b), some (.inl c)], [.inl 0], mW (n, T, h, t, x) M, 0, 0)) rfl ?_
          exact m_ret1 rfl (Or.inr ⟨rfl, Or.inl rfl⟩) rfl (m_Vb (b0 (by unfold holdsS; simp only [show ¬ law = 0 by omega, show ¬ law = 1 by omega, show ¬ law = 2 by omega, show ¬ law = 3 by omega, show ¬ law = 4 by omega, show ¬ law = 5 by omega, if_false]; simp [*])))
        · replace zc3 : (onceS n tb true a b) = n := Decidable.not_not.mp zc3
          refine m_run 2 (ps' := (255, [some (.inr (.inl 2)), some (.inl law), some (.inl a), some (.inl b), some (.inl c)], [.inl 1], mW (n, T, h, t, x) M, 0, 0)) rfl ?_
          exact m_ret1 rfl (Or.inr ⟨rfl, Or.inr rfl⟩) rfl (m_Vb (b1 (by unfold holdsS; simp only [show ¬ law = 0 by omega, show ¬ law = 1 by omega, show ¬ law = 2 by omega, show ¬ law = 3 by omega, show ¬ law = 4 by omega, show ¬ law = 5 by omega, if_false]; simp [*])))
/-- the first row (a, b, c) by which a law fails -/
def witC (n : Int) (tb : Int → Int → Int) (law lc a b : Int) : Int → Option (Int × Int × Int) := fun c => if holdsS n tb law a b c = true then none else some (a, b, c)
def witB (n : Int) (tb : Int → Int → Int) (law lc a : Int) : Int → Option (Int × Int × Int) := fun b => optF (witC n tb law lc a b) lc.toNat 0
def witA (n : Int) (tb : Int → Int → Int) (law lb lc : Int) : Int → Option (Int × Int × Int) := fun a => optF (witB n tb law lc a) lb.toNat 0
def lbS (n law : Int) : Int := if 1 < law then n else 1
def lcS (n law : Int) : Int := if 1 < law ∧ law < 5 then n else 1
def witS (n : Int) (tb : Int → Int → Int) (law : Int) : Option (Int × Int × Int) := optF (witA n tb law (lbS n law) (lcS n law)) n.toNat 0
def wcode : Option (Int × Int × Int) → Int
  | none => -1
  | some (a, b, c) => 81 * a + 9 * b + c
set_option maxHeartbeats 4000000 in
set_option maxRecDepth 100000 in
theorem l_witC {X : Nat × Nat × (Nat → Int32)} {n : Int} {T : Int → Int} {h : HS} {t : TS} {x : XS} {M : MS} {tb : Int → Int → Int} {law lb lc : Int} {Q : Option mPV → mPW → Prop} {o : Option (Int × Int × Int)} (hR : repC n T tb) (hw : 0 ≤ law) (hw2 : law < 8) (hlb : 1 ≤ lb) (hlb2 : lb ≤ n) (hlc : 1 ≤ lc) (hlc2 : lc ≤ n) {a b : Int} (ha : 0 ≤ a) (ha2 : a < n) (hb : 0 ≤ b) (hb2 : b < lb) (K : o = none → m_Sem X 4 (48, [some (.inr (.inl 2)), some (.inl law), some (.inl lb), some (.inl lc), some (.inl a), some (.inl (b + 1)), none], [], mW (n, T, h, t, x) M, 0, 0) Q) (R : o ≠ none → Q (some (.inl (wcode o))) (mW (n, T, h, t, x) M)) : ∀ c : Int, 0 ≤ c → c ≤ lc → ∀ (ho : optF (witC n tb law lc a b) (lc - c).toNat c = o), m_Sem X 4 (57, [some (.inr (.inl 2)), some (.inl law), some (.inl lb), some (.inl lc), some (.inl a), some (.inl b), some (.inl c)], [], mW (n, T, h, t, x) M, 0, 0) (Q) := by
  have hn := hR.1
  have hl := okN_lo hn
  refine m_down 0 lc ?_ ?_
  · intro ho
    rw [opt_end] at ho
    show m_Sem X 4 (57, [some (.inr (.inl 2)), some (.inl law), some (.inl lb), some (.inl lc), some (.inl a), some (.inl b), some (.inl lc)], [], mW (n, T, h, t, x) M, 0, 0) _
    refine m_run 2 (ps' := (60, [some (.inr (.inl 2)), some (.inl law), some (.inl lb), some (.inl lc), some (.inl a), some (.inl b), some (.inl lc)], [.inl lc, .inl lc], mW (n, T, h, t, x) M, 0, 0)) rfl ?_
    refine m_icmp rfl ⟨by omega, by omega⟩ ⟨by omega, by omega⟩ (fun (zc1 : lc ≤ lc) => ?_) (fun (zc1 : ¬ lc ≤ lc) => absurd zc1 (not_not_intro (by omega)))
    refine m_run 2 (ps' := (48, [some (.inr (.inl 2)), some (.inl law), some (.inl lb), some (.inl lc), some (.inl a), some (.inl (b + 1)), some (.inl lc)], [], mW (n, T, h, t, x) M, 0, 0)) rfl ?_
    refine m_weak [some (.inr (.inl 2)), some (.inl law), some (.inl lb), some (.inl lc), some (.inl a), some (.inl (b + 1)), none] ⟨rfl, ⟨rfl, ⟨rfl, ⟨rfl, ⟨rfl, ⟨rfl, trivial⟩⟩⟩⟩⟩⟩ ?_
    exact K ho.symm
  · intro c hi1 hi2 ih ho
    refine m_run 2 (ps' := (60, [some (.inr (.inl 2)), some (.inl law), some (.inl lb), some (.inl lc), some (.inl a), some (.inl b), some (.inl c)], [.inl lc, .inl c], mW (n, T, h, t, x) M, 0, 0)) rfl ?_
    refine m_icmp rfl ⟨by omega, by omega⟩ ⟨by omega, by omega⟩ (fun (zc1 : lc ≤ c) => absurd zc1 (by omega)) (fun (zc1 : ¬ lc ≤ c) => ?_)
    refine m_run 5 (ps' := (71, [some (.inr (.inl 2)), some (.inl law), some (.inl lb), some (.inl lc), some (.inl a), some (.inl b), some (.inl c)], [.inl c, .inl b, .inl a, .inl law, .inr (.inl 2)], mW (n, T, h, t, x) M, 0, 0)) rfl ?_
    refine m_callSF [.inr (.inl 2), .inl law, .inl a, .inl b, .inl c] [] rfl rfl rfl (k_holds (law := law) (a := a) (b := b) (c := c) hR (by omega) (by omega) (by omega) (by omega) (by omega) (by omega) (by omega) (by omega)) ?_
    show m_Sem X 4 (74, [some (.inr (.inl 2)), some (.inl law), some (.inl lb), some (.inl lc), some (.inl a), some (.inl b), some (.inl c)], [.inl (bI (holdsS n tb law a b c))], mW (n, T, h, t, x) M, 0, 0) _
    refine m_if rfl (bI_R (holdsS n tb law a b c)) (fun (zc2 : ¬ (bI (holdsS n tb law a b c)) = 0) => ?_) (fun (zc2 : ¬ ¬ (bI (holdsS n tb law a b c)) = 0) => ?_)
    · replace zc2 : (holdsS n tb law a b c) = true := bI_n0.mp zc2
      refine m_run 2 (ps' := (57, [some (.inr (.inl 2)), some (.inl law), some (.inl lb), some (.inl lc), some (.inl a), some (.inl b), some (.inl (c + 1))], [], mW (n, T, h, t, x) M, 0, 0)) rfl ?_
      refine m_weak [some (.inr (.inl 2)), some (.inl law), some (.inl lb), some (.inl lc), some (.inl a), some (.inl b), some (.inl (c + 1))] ⟨rfl, ⟨rfl, ⟨rfl, ⟨rfl, ⟨rfl, ⟨rfl, ⟨rfl, trivial⟩⟩⟩⟩⟩⟩⟩ ?_
      have hh : witC n tb law lc a b c = none := by unfold witC; rw [if_pos zc2]
      rw [opt_n hi2 hh] at ho
      exact ih ho
    · replace zc2 : (holdsS n tb law a b c) = false := bI_e0.mp (Decidable.not_not.mp zc2)
      refine m_run 9 (ps' := (91, [some (.inr (.inl 2)), some (.inl law), some (.inl lb), some (.inl lc), some (.inl a), some (.inl b), some (.inl c)], [.inl (((81 * a) + (9 * b)) + c)], mW (n, T, h, t, x) M, 0, 0)) rfl ?_
      exact m_ret1 rfl (Or.inl rfl) rfl (by
        have hh : witC n tb law lc a b c = some (a, b, c) := by unfold witC; rw [if_neg (by rw [zc2]; decide)]
        rw [opt_s hi2 hh] at ho
        subst ho
        exact R (fun h => by cases h))
set_option maxHeartbeats 4000000 in
set_option maxRecDepth 100000 in
theorem l_witB {X : Nat × Nat × (Nat → Int32)} {n : Int} {T : Int → Int} {h : HS} {t : TS} {x : XS} {M : MS} {tb : Int → Int → Int} {law lb lc : Int} {Q : Option mPV → mPW → Prop} {o : Option (Int × Int × Int)} (hR : repC n T tb) (hw : 0 ≤ law) (hw2 : law < 8) (hlb : 1 ≤ lb) (hlb2 : lb ≤ n) (hlc : 1 ≤ lc) (hlc2 : lc ≤ n) {a : Int} (ha : 0 ≤ a) (ha2 : a < n) (K : o = none → m_Sem X 4 (36, [some (.inr (.inl 2)), some (.inl law), some (.inl lb), some (.inl lc), some (.inl (a + 1)), none, none], [], mW (n, T, h, t, x) M, 0, 0) Q) (R : o ≠ none → Q (some (.inl (wcode o))) (mW (n, T, h, t, x) M)) : ∀ b : Int, 0 ≤ b → b ≤ lb → ∀ (ho : optF (witB n tb law lc a) (lb - b).toNat b = o), m_Sem X 4 (48, [some (.inr (.inl 2)), some (.inl law), some (.inl lb), some (.inl lc), some (.inl a), some (.inl b), none], [], mW (n, T, h, t, x) M, 0, 0) (Q) := by
  have hn := hR.1
  have hl := okN_lo hn
  refine m_down 0 lb ?_ ?_
  · intro ho
    rw [opt_end] at ho
    show m_Sem X 4 (48, [some (.inr (.inl 2)), some (.inl law), some (.inl lb), some (.inl lc), some (.inl a), some (.inl lb), none], [], mW (n, T, h, t, x) M, 0, 0) _
    refine m_run 2 (ps' := (51, [some (.inr (.inl 2)), some (.inl law), some (.inl lb), some (.inl lc), some (.inl a), some (.inl lb), none], [.inl lb, .inl lb], mW (n, T, h, t, x) M, 0, 0)) rfl ?_
    refine m_icmp rfl ⟨by omega, by omega⟩ ⟨by omega, by omega⟩ (fun (zc1 : lb ≤ lb) => ?_) (fun (zc1 : ¬ lb ≤ lb) => absurd zc1 (not_not_intro (by omega)))
    refine m_run 2 (ps' := (36, [some (.inr (.inl 2)), some (.inl law), some (.inl lb), some (.inl lc), some (.inl (a + 1)), some (.inl lb), none], [], mW (n, T, h, t, x) M, 0, 0)) rfl ?_
    refine m_weak [some (.inr (.inl 2)), some (.inl law), some (.inl lb), some (.inl lc), some (.inl (a + 1)), none, none] ⟨rfl, ⟨rfl, ⟨rfl, ⟨rfl, ⟨rfl, trivial⟩⟩⟩⟩⟩ ?_
    exact K ho.symm
  · intro b hi1 hi2 ih ho
    refine m_run 2 (ps' := (51, [some (.inr (.inl 2)), some (.inl law), some (.inl lb), some (.inl lc), some (.inl a), some (.inl b), none], [.inl lb, .inl b], mW (n, T, h, t, x) M, 0, 0)) rfl ?_
    refine m_icmp rfl ⟨by omega, by omega⟩ ⟨by omega, by omega⟩ (fun (zc1 : lb ≤ b) => absurd zc1 (by omega)) (fun (zc1 : ¬ lb ≤ b) => ?_)
    refine m_run 2 (ps' := (57, [some (.inr (.inl 2)), some (.inl law), some (.inl lb), some (.inl lc), some (.inl a), some (.inl b), some (.inl 0)], [], mW (n, T, h, t, x) M, 0, 0)) rfl ?_
    refine m_weak [some (.inr (.inl 2)), some (.inl law), some (.inl lb), some (.inl lc), some (.inl a), some (.inl b), some (.inl 0)] ⟨rfl, ⟨rfl, ⟨rfl, ⟨rfl, ⟨rfl, ⟨rfl, ⟨rfl, trivial⟩⟩⟩⟩⟩⟩⟩ ?_
    cases hh : witB n tb law lc a b with
    | none =>
      rw [opt_n hi2 hh] at ho
      exact l_witC (o := none) hR hw hw2 hlb hlb2 hlc hlc2 ha ha2 hi1 hi2 (fun _ => ih ho) (fun h => absurd rfl h) 0 (by omega) (by omega) (by rw [z_sub]; exact hh)
    | some w9 =>
      rw [opt_s hi2 hh] at ho
      subst ho
      exact l_witC (o := some w9) hR hw hw2 hlb hlb2 hlc hlc2 ha ha2 hi1 hi2 (fun h => by cases h) R 0 (by omega) (by omega) (by rw [z_sub]; exact hh)
set_option maxHeartbeats 4000000 in
set_option maxRecDepth 100000 in
theorem l_witA {X : Nat × Nat × (Nat → Int32)} {n : Int} {T : Int → Int} {h : HS} {t : TS} {x : XS} {M : MS} {tb : Int → Int → Int} {law lb lc : Int} {Q : Option mPV → mPW → Prop} {o : Option (Int × Int × Int)} (hR : repC n T tb) (hw : 0 ≤ law) (hw2 : law < 8) (hlb : 1 ≤ lb) (hlb2 : lb ≤ n) (hlc : 1 ≤ lc) (hlc2 : lc ≤ n) (R : Q (some (.inl (wcode o))) (mW (n, T, h, t, x) M)) : ∀ a : Int, 0 ≤ a → a ≤ n → ∀ (ho : optF (witA n tb law lb lc) (n - a).toNat a = o), m_Sem X 4 (36, [some (.inr (.inl 2)), some (.inl law), some (.inl lb), some (.inl lc), some (.inl a), none, none], [], mW (n, T, h, t, x) M, 0, 0) (Q) := by
  have hn := hR.1
  have hl := okN_lo hn
  refine m_down 0 n ?_ ?_
  · intro ho
    show m_Sem X 4 (36, [some (.inr (.inl 2)), some (.inl law), some (.inl lb), some (.inl lc), some (.inl n), none, none], [], mW (n, T, h, t, x) M, 0, 0) _
    refine m_run 3 (ps' := (42, [some (.inr (.inl 2)), some (.inl law), some (.inl lb), some (.inl lc), some (.inl n), none, none], [.inl n, .inl n], mW (n, T, h, t, x) M, 0, 0)) rfl ?_
    refine m_icmp rfl ⟨by omega, by omega⟩ ⟨by omega, by omega⟩ (fun (zc1 : n ≤ n) => ?_) (fun (zc1 : ¬ n ≤ n) => absurd zc1 (not_not_intro (by omega)))
    refine m_run 1 (ps' := (111, [some (.inr (.inl 2)), some (.inl law), some (.inl lb), some (.inl lc), some (.inl n), none, none], [.inl (-1)], mW (n, T, h, t, x) M, 0, 0)) rfl ?_
    exact m_ret1 rfl (Or.inl rfl) rfl (by rw [opt_end] at ho; subst ho; exact R)
  · intro a hi1 hi2 ih ho
    refine m_run 3 (ps' := (42, [some (.inr (.inl 2)), some (.inl law), some (.inl lb), some (.inl lc), some (.inl a), none, none], [.inl n, .inl a], mW (n, T, h, t, x) M, 0, 0)) rfl ?_
    refine m_icmp rfl ⟨by omega, by omega⟩ ⟨by omega, by omega⟩ (fun (zc1 : n ≤ a) => absurd zc1 (by omega)) (fun (zc1 : ¬ n ≤ a) => ?_)
    refine m_run 2 (ps' := (48, [some (.inr (.inl 2)), some (.inl law), some (.inl lb), some (.inl lc), some (.inl a), some (.inl 0), none], [], mW (n, T, h, t, x) M, 0, 0)) rfl ?_
    refine m_weak [some (.inr (.inl 2)), some (.inl law), some (.inl lb), some (.inl lc), some (.inl a), some (.inl 0), none] ⟨rfl, ⟨rfl, ⟨rfl, ⟨rfl, ⟨rfl, ⟨rfl, trivial⟩⟩⟩⟩⟩⟩ ?_
    cases hh : witA n tb law lb lc a with
    | none =>
      rw [opt_n hi2 hh] at ho
      exact l_witB (o := none) hR hw hw2 hlb hlb2 hlc hlc2 hi1 hi2 (fun _ => ih ho) (fun h => absurd rfl h) 0 (by omega) (by omega) (by rw [z_sub]; exact hh)
    | some w9 =>
      rw [opt_s hi2 hh] at ho
      subst ho
      exact l_witB (o := some w9) hR hw hw2 hlb hlb2 hlc hlc2 hi1 hi2 (fun h => by cases h) (fun _ => R) 0 (by omega) (by omega) (by rw [z_sub]; exact hh)
set_option maxHeartbeats 4000000 in
set_option maxRecDepth 100000 in
theorem k_wit {X : Nat × Nat × (Nat → Int32)} {n : Int} {T : Int → Int} {h : HS} {t : TS} {x : XS} {M : MS} {tb : Int → Int → Int} {law : Int} (hR : repC n T tb) (hw : 0 ≤ law) (hw2 : law < 8) : m_Run X 4 [.inr (.inl 2), .inl law] (mW (n, T, h, t, x) M) (m_V (wcode (witS n tb law)) (mW (n, T, h, t, x) M)) := by
  have hn := hR.1
  have hl := okN_lo hn
  show m_Sem X 4 (0, [some (.inr (.inl 2)), some (.inl law), none, none, none, none, none], [], mW (n, T, h, t, x) M, 0, 0) _
  refine m_run 2 (ps' := (2, [some (.inr (.inl 2)), some (.inl law), none, none, none, none, none], [.inl 1, .inl law], mW (n, T, h, t, x) M, 0, 0)) rfl ?_
  refine m_icmp rfl ⟨by omega, by omega⟩ ⟨by omega, by omega⟩ (fun (zc1 : law ≤ 1) => ?_) (fun (zc1 : ¬ law ≤ 1) => ?_)
  · refine m_run 4 (ps' := (16, [some (.inr (.inl 2)), some (.inl law), some (.inl 1), none, none, none, none], [.inl 1, .inl law], mW (n, T, h, t, x) M, 0, 0)) rfl ?_
    refine m_icmp rfl ⟨by omega, by omega⟩ ⟨by omega, by omega⟩ (fun (zc2 : law ≤ 1) => ?_) (fun (zc2 : ¬ law ≤ 1) => ?_)
    · refine m_run 4 (ps' := (36, [some (.inr (.inl 2)), some (.inl law), some (.inl 1), some (.inl 1), some (.inl 0), none, none], [], mW (n, T, h, t, x) M, 0, 0)) rfl ?_
      refine m_weak [some (.inr (.inl 2)), some (.inl law), some (.inl 1), some (.inl 1), some (.inl 0), none, none] ⟨rfl, ⟨rfl, ⟨rfl, ⟨rfl, ⟨rfl, trivial⟩⟩⟩⟩⟩ ?_
      exact l_witA (lb := 1) (lc := 1) (o := witS n tb law) hR hw hw2 (by omega) (by omega) (by omega) (by omega) ⟨rfl, rfl⟩ 0 (by omega) (by omega) (by rw [z_sub]; unfold witS lbS lcS; rw [if_neg (by omega), if_neg (by omega)])
    · refine m_run 2 (ps' := (21, [some (.inr (.inl 2)), some (.inl law), some (.inl 1), none, none, none, none], [.inl 5, .inl law], mW (n, T, h, t, x) M, 0, 0)) rfl ?_
      refine m_icmp rfl ⟨by omega, by omega⟩ ⟨by omega, by omega⟩ (fun (zc3 : 5 ≤ law) => ?_) (fun (zc3 : ¬ 5 ≤ law) => ?_)
      · refine m_run 4 (ps' := (36, [some (.inr (.inl 2)), some (.inl law), some (.inl 1), some (.inl 1), some (.inl 0), none, none], [], mW (n, T, h, t, x) M, 0, 0)) rfl ?_
        refine m_weak [some (.inr (.inl 2)), some (.inl law), some (.inl 1), some (.inl 1), some (.inl 0), none, none] ⟨rfl, ⟨rfl, ⟨rfl, ⟨rfl, ⟨rfl, trivial⟩⟩⟩⟩⟩ ?_
        exact l_witA (lb := 1) (lc := 1) (o := witS n tb law) hR hw hw2 (by omega) (by omega) (by omega) (by omega) ⟨rfl, rfl⟩ 0 (by omega) (by omega) (by rw [z_sub]; unfold witS lbS lcS; rw [if_neg (by omega), if_neg (by omega)])
      · refine m_run 6 (ps' := (36, [some (.inr (.inl 2)), some (.inl law), some (.inl 1), some (.inl n), some (.inl 0), none, none], [], mW (n, T, h, t, x) M, 0, 0)) rfl ?_
        refine m_weak [some (.inr (.inl 2)), some (.inl law), some (.inl 1), some (.inl n), some (.inl 0), none, none] ⟨rfl, ⟨rfl, ⟨rfl, ⟨rfl, ⟨rfl, trivial⟩⟩⟩⟩⟩ ?_
        exact l_witA (lb := 1) (lc := n) (o := witS n tb law) hR hw hw2 (by omega) (by omega) (by omega) (by omega) ⟨rfl, rfl⟩ 0 (by omega) (by omega) (by rw [z_sub]; unfold witS lbS lcS; rw [if_neg (by omega), if_pos (by omega)])
  · refine m_run 6 (ps' := (16, [some (.inr (.inl 2)), some (.inl law), some (.inl n), none, none, none, none], [.inl 1, .inl law], mW (n, T, h, t, x) M, 0, 0)) rfl ?_
    refine m_icmp rfl ⟨by omega, by omega⟩ ⟨by omega, by omega⟩ (fun (zc2 : law ≤ 1) => ?_) (fun (zc2 : ¬ law ≤ 1) => ?_)
    · refine m_run 4 (ps' := (36, [some (.inr (.inl 2)), some (.inl law), some (.inl n), some (.inl 1), some (.inl 0), none, none], [], mW (n, T, h, t, x) M, 0, 0)) rfl ?_
      refine m_weak [some (.inr (.inl 2)), some (.inl law), some (.inl n), some (.inl 1), some (.inl 0), none, none] ⟨rfl, ⟨rfl, ⟨rfl, ⟨rfl, ⟨rfl, trivial⟩⟩⟩⟩⟩ ?_
      exact l_witA (lb := n) (lc := 1) (o := witS n tb law) hR hw hw2 (by omega) (by omega) (by omega) (by omega) ⟨rfl, rfl⟩ 0 (by omega) (by omega) (by rw [z_sub]; unfold witS lbS lcS; rw [if_pos (by omega), if_neg (by omega)])
    · refine m_run 2 (ps' := (21, [some (.inr (.inl 2)), some (.inl law), some (.inl n), none, none, none, none], [.inl 5, .inl law], mW (n, T, h, t, x) M, 0, 0)) rfl ?_
      refine m_icmp rfl ⟨by omega, by omega⟩ ⟨by omega, by omega⟩ (fun (zc3 : 5 ≤ law) => ?_) (fun (zc3 : ¬ 5 ≤ law) => ?_)
      · refine m_run 4 (ps' := (36, [some (.inr (.inl 2)), some (.inl law), some (.inl n), some (.inl 1), some (.inl 0), none, none], [], mW (n, T, h, t, x) M, 0, 0)) rfl ?_
        refine m_weak [some (.inr (.inl 2)), some (.inl law), some (.inl n), some (.inl 1), some (.inl 0), none, none] ⟨rfl, ⟨rfl, ⟨rfl, ⟨rfl, ⟨rfl, trivial⟩⟩⟩⟩⟩ ?_
        exact l_witA (lb := n) (lc := 1) (o := witS n tb law) hR hw hw2 (by omega) (by omega) (by omega) (by omega) ⟨rfl, rfl⟩ 0 (by omega) (by omega) (by rw [z_sub]; unfold witS lbS lcS; rw [if_pos (by omega), if_neg (by omega)])
      · refine m_run 6 (ps' := (36, [some (.inr (.inl 2)), some (.inl law), some (.inl n), some (.inl n), some (.inl 0), none, none], [], mW (n, T, h, t, x) M, 0, 0)) rfl ?_
        refine m_weak [some (.inr (.inl 2)), some (.inl law), some (.inl n), some (.inl n), some (.inl 0), none, none] ⟨rfl, ⟨rfl, ⟨rfl, ⟨rfl, ⟨rfl, trivial⟩⟩⟩⟩⟩ ?_
        exact l_witA (lb := n) (lc := n) (o := witS n tb law) hR hw hw2 (by omega) (by omega) (by omega) (by omega) ⟨rfl, rfl⟩ 0 (by omega) (by omega) (by rw [z_sub]; unfold witS lbS lcS; rw [if_pos (by omega), if_pos (by omega)])
theorem opt_some {α : Type} {f : Int → Option α} {a : α} : ∀ (k : Nat) (i : Int), optF f k i = some a → ∃ j, i ≤ j ∧ j < i + k ∧ f j = some a ∧ ∀ j', i ≤ j' → j' < j → f j' = none
  | 0, _, h => by cases h
  | k + 1, i, h => by
    unfold optF at h
    split at h
    next b hb =>
      cases h
      exact ⟨i, by omega, by omega, hb, fun j' h1 h2 => absurd h2 (by omega)⟩
    next hb =>
      obtain ⟨j, h1, h2, h3, h4⟩ := opt_some k (i + 1) h
      refine ⟨j, by omega, by omega, h3, fun j' g1 g2 => ?_⟩
      by_cases he : j' = i
      · rw [he]; exact hb
      · exact h4 j' (by omega) g2
theorem witS_in {n : Int} {tb : Int → Int → Int} {law : Int} (hn : okN n) {a b c : Int} (h : witS n tb law = some (a, b, c)) : (0 ≤ a ∧ a < n) ∧ (0 ≤ b ∧ b < n) ∧ (0 ≤ c ∧ c < n) := by
  have hl := okN_lo hn
  have e1 : 1 ≤ lbS n law ∧ lbS n law ≤ n := by unfold lbS; split <;> omega
  have e2 : 1 ≤ lcS n law ∧ lcS n law ≤ n := by unfold lcS; split <;> omega
  obtain ⟨a', h1, h2, h3, -⟩ := opt_some _ _ h
  obtain ⟨b', h4, h5, h6, -⟩ := opt_some _ _ h3
  obtain ⟨c', h7, h8, h9, -⟩ := opt_some _ _ h6
  unfold witC at h9
  split at h9
  · cases h9
  · cases h9
    omega
theorem wcode_in {n : Int} {tb : Int → Int → Int} {law : Int} (hn : okN n) : -1 ≤ wcode (witS n tb law) ∧ wcode (witS n tb law) < 729 := by
  have hl := okN_lo hn
  cases h : witS n tb law with
  | none => exact ⟨by decide, by decide⟩
  | some w =>
    obtain ⟨a, b, c⟩ := w
    have h1 := witS_in hn h
    show -1 ≤ 81 * a + 9 * b + c ∧ 81 * a + 9 * b + c < 729
    omega
def welS (w j : Int) : Int := if j = 1 then w / 81 else if j = 2 then w / 9 % 9 else w % 9
set_option maxHeartbeats 4000000 in
set_option maxRecDepth 100000 in
theorem k_wel {X : Nat × Nat × (Nat → Int32)} {n : Int} {T : Int → Int} {h : HS} {t : TS} {x : XS} {M : MS} {w0 j : Int} (h1 : 0 ≤ w0) (h2 : w0 < 729) (hj : m_R j) : m_Run X 5 [.inl w0, .inl j] (mW (n, T, h, t, x) M) (m_V (welS w0 j) (mW (n, T, h, t, x) M)) := by
  show m_Sem X 5 (0, [some (.inl w0), some (.inl j)], [], mW (n, T, h, t, x) M, 0, 0) _
  refine m_run 2 (ps' := (2, [some (.inl w0), some (.inl j)], [.inl 1, .inl j], mW (n, T, h, t, x) M, 0, 0)) rfl ?_
  refine m_icmp rfl hj ⟨by omega, by omega⟩ (fun (zc1 : ¬ j = 1) => ?_) (fun (zc1 : ¬ ¬ j = 1) => ?_)
  · refine m_run 2 (ps' := (12, [some (.inl w0), some (.inl j)], [.inl 2, .inl j], mW (n, T, h, t, x) M, 0, 0)) rfl ?_
    refine m_icmp rfl hj ⟨by omega, by omega⟩ (fun (zc2 : ¬ j = 2) => ?_) (fun (zc2 : ¬ ¬ j = 2) => ?_)
    · refine m_run 2 (ps' := (28, [some (.inl w0), some (.inl j)], [.inl 9, .inl w0], mW (n, T, h, t, x) M, 0, 0)) rfl ?_
      refine m_rem rfl (by omega) (by omega) (by omega) (by omega) ?_
      exact m_ret1 rfl (Or.inl rfl) rfl (m_Vi (by unfold welS; (repeat' split) <;> first | rfl | omega))
    · replace zc2 : j = 2 := Decidable.not_not.mp zc2
      refine m_run 2 (ps' := (18, [some (.inl w0), some (.inl j)], [.inl 9, .inl w0], mW (n, T, h, t, x) M, 0, 0)) rfl ?_
      refine m_div rfl (by omega) (by omega) (by omega) (by omega) ?_
      refine m_run 1 (ps' := (21, [some (.inl w0), some (.inl j)], [.inl 9, .inl (w0 / 9)], mW (n, T, h, t, x) M, 0, 0)) rfl ?_
      refine m_rem rfl (by omega) (by omega) (by omega) (by omega) ?_
      refine m_run 1 (ps' := (29, [some (.inl w0), some (.inl j)], [.inl ((w0 / 9) % 9)], mW (n, T, h, t, x) M, 0, 0)) rfl ?_
      exact m_ret1 rfl (Or.inl rfl) rfl (m_Vi (by unfold welS; (repeat' split) <;> first | rfl | omega))
  · replace zc1 : j = 1 := Decidable.not_not.mp zc1
    refine m_run 2 (ps' := (8, [some (.inl w0), some (.inl j)], [.inl 81, .inl w0], mW (n, T, h, t, x) M, 0, 0)) rfl ?_
    refine m_div rfl (by omega) (by omega) (by omega) (by omega) ?_
    exact m_ret1 rfl (Or.inl rfl) rfl (m_Vi (by unfold welS; (repeat' split) <;> first | rfl | omega))
def fitsS (n : Int) (tb : Int → Int → Int) (j a b c : Int) : Bool := if j = 0 then holdsS n tb 5 a b 0 else if j = 1 then holdsS n tb 3 b c a else holdsS n tb 4 a b c
set_option maxHeartbeats 4000000 in
set_option maxRecDepth 100000 in
theorem k_fits {X : Nat × Nat × (Nat → Int32)} {n : Int} {T : Int → Int} {h : HS} {t : TS} {x : XS} {M : MS} {tb : Int → Int → Int} {j a b c : Int} (hR : repC n T tb) (hj : 0 ≤ j) (hj2 : j < 3) (ha : 0 ≤ a) (ha2 : a < n) (hb : 0 ≤ b) (hb2 : b < n) (hc : 0 ≤ c) (hc2 : c < n) : m_Run X 8 [.inr (.inl 2), .inl j, .inl a, .inl b, .inl c] (mW (n, T, h, t, x) M) (m_V (bI (fitsS n tb j a b c)) (mW (n, T, h, t, x) M)) := by
  have hn := hR.1
  have hl := okN_lo hn
  show m_Sem X 8 (0, [some (.inr (.inl 2)), some (.inl j), some (.inl a), some (.inl b), some (.inl c)], [], mW (n, T, h, t, x) M, 0, 0) _
  refine m_run 1 (ps' := (1, [some (.inr (.inl 2)), some (.inl j), some (.inl a), some (.inl b), some (.inl c)], [.inl j], mW (n, T, h, t, x) M, 0, 0)) rfl ?_
  refine m_if rfl ⟨by omega, by omega⟩ (fun (zc1 : ¬ j = 0) => ?_) (fun (zc1 : ¬ ¬ j = 0) => ?_)
  · refine m_run 2 (ps' := (15, [some (.inr (.inl 2)), some (.inl j), some (.inl a), some (.inl b), some (.inl c)], [.inl 1, .inl j], mW (n, T, h, t, x) M, 0, 0)) rfl ?_
    refine m_icmp rfl ⟨by omega, by omega⟩ ⟨by omega, by omega⟩ (fun (zc2 : ¬ j = 1) => ?_) (fun (zc2 : ¬ ¬ j = 1) => ?_)
    · refine m_run 5 (ps' := (36, [some (.inr (.inl 2)), some (.inl j), some (.inl a), some (.inl b), some (.inl c)], [.inl c, .inl b, .inl a, .inl 4, .inr (.inl 2)], mW (n, T, h, t, x) M, 0, 0)) rfl ?_
      refine m_callSF [.inr (.inl 2), .inl 4, .inl a, .inl b, .inl c] [] rfl rfl rfl (k_holds (law := 4) (a := a) (b := b) (c := c) hR (by omega) (by omega) (by omega) (by omega) (by omega) (by omega) (by omega) (by omega)) ?_
      show m_Sem X 8 (39, [some (.inr (.inl 2)), some (.inl j), some (.inl a), some (.inl b), some (.inl c)], [.inl (bI (holdsS n tb 4 a b c))], mW (n, T, h, t, x) M, 0, 0) _
      exact m_ret1 rfl (Or.inr ⟨rfl, bI_01 (holdsS n tb 4 a b c)⟩) rfl (m_Vb (by unfold fitsS; (repeat' split) <;> first | rfl | omega))
    · replace zc2 : j = 1 := Decidable.not_not.mp zc2
      refine m_run 5 (ps' := (24, [some (.inr (.inl 2)), some (.inl j), some (.inl a), some (.inl b), some (.inl c)], [.inl a, .inl c, .inl b, .inl 3, .inr (.inl 2)], mW (n, T, h, t, x) M, 0, 0)) rfl ?_
      refine m_callSF [.inr (.inl 2), .inl 3, .inl b, .inl c, .inl a] [] rfl rfl rfl (k_holds (law := 3) (a := b) (b := c) (c := a) hR (by omega) (by omega) (by omega) (by omega) (by omega) (by omega) (by omega) (by omega)) ?_
      show m_Sem X 8 (27, [some (.inr (.inl 2)), some (.inl j), some (.inl a), some (.inl b), some (.inl c)], [.inl (bI (holdsS n tb 3 b c a))], mW (n, T, h, t, x) M, 0, 0) _
      refine m_run 1 (ps' := (39, [some (.inr (.inl 2)), some (.inl j), some (.inl a), some (.inl b), some (.inl c)], [.inl (bI (holdsS n tb 3 b c a))], mW (n, T, h, t, x) M, 0, 0)) rfl ?_
      exact m_ret1 rfl (Or.inr ⟨rfl, bI_01 (holdsS n tb 3 b c a)⟩) rfl (m_Vb (by unfold fitsS; (repeat' split) <;> first | rfl | omega))
  · replace zc1 : j = 0 := Decidable.not_not.mp zc1
    refine m_run 5 (ps' := (9, [some (.inr (.inl 2)), some (.inl j), some (.inl a), some (.inl b), some (.inl c)], [.inl 0, .inl b, .inl a, .inl 5, .inr (.inl 2)], mW (n, T, h, t, x) M, 0, 0)) rfl ?_
    refine m_callSF [.inr (.inl 2), .inl 5, .inl a, .inl b, .inl 0] [] rfl rfl rfl (k_holds (law := 5) (a := a) (b := b) (c := 0) hR (by omega) (by omega) (by omega) (by omega) (by omega) (by omega) (by omega) (by omega)) ?_
    show m_Sem X 8 (12, [some (.inr (.inl 2)), some (.inl j), some (.inl a), some (.inl b), some (.inl c)], [.inl (bI (holdsS n tb 5 a b 0))], mW (n, T, h, t, x) M, 0, 0) _
    exact m_ret1 rfl (Or.inr ⟨rfl, bI_01 (holdsS n tb 5 a b 0)⟩) rfl (m_Vb (by unfold fitsS; (repeat' split) <;> first | rfl | omega))
def isInR (n : Int) (tb : Int → Int → Int) (j lc a b : Int) : Bool := allF (fun c => fitsS n tb j a b c) lc.toNat 0
def isInS (n : Int) (tb : Int → Int → Int) (j a : Int) : Bool := allF (isInR n tb j (if j = 0 then 1 else n) a) n.toNat 0
set_option maxHeartbeats 4000000 in
set_option maxRecDepth 100000 in
theorem l_inI {X : Nat × Nat × (Nat → Int32)} {n : Int} {T : Int → Int} {h : HS} {t : TS} {x : XS} {M : MS} {tb : Int → Int → Int} {j a lc : Int} {Q : Option mPV → mPW → Prop} {o : Bool} (hR : repC n T tb) (hj : 0 ≤ j) (hj2 : j < 3) (hlc : 1 ≤ lc) (hlc2 : lc ≤ n) (ha : 0 ≤ a) (ha2 : a < n) {b : Int} (hb : 0 ≤ b) (hb2 : b < n) (K : o = true → m_Sem X 7 (16, [some (.inr (.inl 2)), some (.inl j), some (.inl a), some (.inl lc), some (.inl (b + 1)), none], [], mW (n, T, h, t, x) M, 0, 0) Q) (R : o = false → Q (some (.inl 0)) (mW (n, T, h, t, x) M)) : ∀ c : Int, 0 ≤ c → c ≤ lc → ∀ (ho : allF (fun c => fitsS n tb j a b c) (lc - c).toNat c = o), m_Sem X 7 (28, [some (.inr (.inl 2)), some (.inl j), some (.inl a), some (.inl lc), some (.inl b), some (.inl c)], [], mW (n, T, h, t, x) M, 0, 0) (Q) := by
  have hn := hR.1
  have hl := okN_lo hn
  refine m_down 0 lc ?_ ?_
  · intro ho
    rw [all_end] at ho
    show m_Sem X 7 (28, [some (.inr (.inl 2)), some (.inl j), some (.inl a), some (.inl lc), some (.inl b), some (.inl lc)], [], mW (n, T, h, t, x) M, 0, 0) _
    refine m_run 2 (ps' := (31, [some (.inr (.inl 2)), some (.inl j), some (.inl a), some (.inl lc), some (.inl b), some (.inl lc)], [.inl lc, .inl lc], mW (n, T, h, t, x) M, 0, 0)) rfl ?_
    refine m_icmp rfl ⟨by omega, by omega⟩ ⟨by omega, by omega⟩ (fun (zc1 : lc ≤ lc) => ?_) (fun (zc1 : ¬ lc ≤ lc) => absurd zc1 (not_not_intro (by omega)))
    refine m_run 2 (ps' := (16, [some (.inr (.inl 2)), some (.inl j), some (.inl a), some (.inl lc), some (.inl (b + 1)), some (.inl lc)], [], mW (n, T, h, t, x) M, 0, 0)) rfl ?_
    refine m_weak [some (.inr (.inl 2)), some (.inl j), some (.inl a), some (.inl lc), some (.inl (b + 1)), none] ⟨rfl, ⟨rfl, ⟨rfl, ⟨rfl, ⟨rfl, trivial⟩⟩⟩⟩⟩ ?_
    exact K ho.symm
  · intro c hi1 hi2 ih ho
    refine m_run 2 (ps' := (31, [some (.inr (.inl 2)), some (.inl j), some (.inl a), some (.inl lc), some (.inl b), some (.inl c)], [.inl lc, .inl c], mW (n, T, h, t, x) M, 0, 0)) rfl ?_
    refine m_icmp rfl ⟨by omega, by omega⟩ ⟨by omega, by omega⟩ (fun (zc1 : lc ≤ c) => absurd zc1 (by omega)) (fun (zc1 : ¬ lc ≤ c) => ?_)
    refine m_run 5 (ps' := (41, [some (.inr (.inl 2)), some (.inl j), some (.inl a), some (.inl lc), some (.inl b), some (.inl c)], [.inl c, .inl b, .inl a, .inl j, .inr (.inl 2)], mW (n, T, h, t, x) M, 0, 0)) rfl ?_
    refine m_callSF [.inr (.inl 2), .inl j, .inl a, .inl b, .inl c] [] rfl rfl rfl (k_fits (j := j) (a := a) (b := b) (c := c) hR (by omega) (by omega) (by omega) (by omega) (by omega) (by omega) (by omega) (by omega)) ?_
    show m_Sem X 7 (44, [some (.inr (.inl 2)), some (.inl j), some (.inl a), some (.inl lc), some (.inl b), some (.inl c)], [.inl (bI (fitsS n tb j a b c))], mW (n, T, h, t, x) M, 0, 0) _
    refine m_if rfl (bI_R (fitsS n tb j a b c)) (fun (zc2 : ¬ (bI (fitsS n tb j a b c)) = 0) => ?_) (fun (zc2 : ¬ ¬ (bI (fitsS n tb j a b c)) = 0) => ?_)
    · replace zc2 : (fitsS n tb j a b c) = true := bI_n0.mp zc2
      refine m_run 2 (ps' := (28, [some (.inr (.inl 2)), some (.inl j), some (.inl a), some (.inl lc), some (.inl b), some (.inl (c + 1))], [], mW (n, T, h, t, x) M, 0, 0)) rfl ?_
      refine m_weak [some (.inr (.inl 2)), some (.inl j), some (.inl a), some (.inl lc), some (.inl b), some (.inl (c + 1))] ⟨rfl, ⟨rfl, ⟨rfl, ⟨rfl, ⟨rfl, ⟨rfl, trivial⟩⟩⟩⟩⟩⟩ ?_
      rw [all_t hi2 zc2] at ho
      exact ih ho
    · replace zc2 : (fitsS n tb j a b c) = false := bI_e0.mp (Decidable.not_not.mp zc2)
      refine m_run 1 (ps' := (48, [some (.inr (.inl 2)), some (.inl j), some (.inl a), some (.inl lc), some (.inl b), some (.inl c)], [.inl 0], mW (n, T, h, t, x) M, 0, 0)) rfl ?_
      exact m_ret1 rfl (Or.inr ⟨rfl, Or.inl rfl⟩) rfl (R (by rw [← ho]; exact all_f hi2 zc2))
set_option maxHeartbeats 4000000 in
set_option maxRecDepth 100000 in
theorem l_inO {X : Nat × Nat × (Nat → Int32)} {n : Int} {T : Int → Int} {h : HS} {t : TS} {x : XS} {M : MS} {tb : Int → Int → Int} {j a lc : Int} {Q : Option mPV → mPW → Prop} {o : Bool} (hR : repC n T tb) (hj : 0 ≤ j) (hj2 : j < 3) (hlc : 1 ≤ lc) (hlc2 : lc ≤ n) (ha : 0 ≤ a) (ha2 : a < n) (R : Q (some (.inl (bI o))) (mW (n, T, h, t, x) M)) : ∀ b : Int, 0 ≤ b → b ≤ n → ∀ (ho : allF (isInR n tb j lc a) (n - b).toNat b = o), m_Sem X 7 (16, [some (.inr (.inl 2)), some (.inl j), some (.inl a), some (.inl lc), some (.inl b), none], [], mW (n, T, h, t, x) M, 0, 0) (Q) := by
  have hn := hR.1
  have hl := okN_lo hn
  refine m_down 0 n ?_ ?_
  · intro ho
    show m_Sem X 7 (16, [some (.inr (.inl 2)), some (.inl j), some (.inl a), some (.inl lc), some (.inl n), none], [], mW (n, T, h, t, x) M, 0, 0) _
    refine m_run 3 (ps' := (22, [some (.inr (.inl 2)), some (.inl j), some (.inl a), some (.inl lc), some (.inl n), none], [.inl n, .inl n], mW (n, T, h, t, x) M, 0, 0)) rfl ?_
    refine m_icmp rfl ⟨by omega, by omega⟩ ⟨by omega, by omega⟩ (fun (zc1 : n ≤ n) => ?_) (fun (zc1 : ¬ n ≤ n) => absurd zc1 (not_not_intro (by omega)))
    refine m_run 1 (ps' := (62, [some (.inr (.inl 2)), some (.inl j), some (.inl a), some (.inl lc), some (.inl n), none], [.inl 1], mW (n, T, h, t, x) M, 0, 0)) rfl ?_
    exact m_ret1 rfl (Or.inr ⟨rfl, Or.inr rfl⟩) rfl (by rw [all_end] at ho; subst ho; exact R)
  · intro b hi1 hi2 ih ho
    refine m_run 3 (ps' := (22, [some (.inr (.inl 2)), some (.inl j), some (.inl a), some (.inl lc), some (.inl b), none], [.inl n, .inl b], mW (n, T, h, t, x) M, 0, 0)) rfl ?_
    refine m_icmp rfl ⟨by omega, by omega⟩ ⟨by omega, by omega⟩ (fun (zc1 : n ≤ b) => absurd zc1 (by omega)) (fun (zc1 : ¬ n ≤ b) => ?_)
    refine m_run 2 (ps' := (28, [some (.inr (.inl 2)), some (.inl j), some (.inl a), some (.inl lc), some (.inl b), some (.inl 0)], [], mW (n, T, h, t, x) M, 0, 0)) rfl ?_
    refine m_weak [some (.inr (.inl 2)), some (.inl j), some (.inl a), some (.inl lc), some (.inl b), some (.inl 0)] ⟨rfl, ⟨rfl, ⟨rfl, ⟨rfl, ⟨rfl, ⟨rfl, trivial⟩⟩⟩⟩⟩⟩ ?_
    cases hh : isInR n tb j lc a b with
    | true =>
      rw [all_t hi2 hh] at ho
      exact l_inI (o := true) hR hj hj2 hlc hlc2 ha ha2 hi1 hi2 (fun _ => ih ho) (fun h => by cases h) 0 (by omega) (by omega) (by rw [z_sub]; exact hh)
    | false =>
      rw [all_f hi2 hh] at ho
      subst ho
      exact l_inI (o := false) hR hj hj2 hlc hlc2 ha ha2 hi1 hi2 (fun h => by cases h) (fun _ => R) 0 (by omega) (by omega) (by rw [z_sub]; exact hh)
set_option maxHeartbeats 4000000 in
set_option maxRecDepth 100000 in
theorem k_isin {X : Nat × Nat × (Nat → Int32)} {n : Int} {T : Int → Int} {h : HS} {t : TS} {x : XS} {M : MS} {tb : Int → Int → Int} {j a : Int} (hR : repC n T tb) (hj : 0 ≤ j) (hj2 : j < 3) (ha : 0 ≤ a) (ha2 : a < n) : m_Run X 7 [.inr (.inl 2), .inl j, .inl a] (mW (n, T, h, t, x) M) (m_V (bI (isInS n tb j a)) (mW (n, T, h, t, x) M)) := by
  have hn := hR.1
  have hl := okN_lo hn
  show m_Sem X 7 (0, [some (.inr (.inl 2)), some (.inl j), some (.inl a), none, none, none], [], mW (n, T, h, t, x) M, 0, 0) _
  refine m_run 1 (ps' := (1, [some (.inr (.inl 2)), some (.inl j), some (.inl a), none, none, none], [.inl j], mW (n, T, h, t, x) M, 0, 0)) rfl ?_
  refine m_if rfl ⟨by omega, by omega⟩ (fun (zc1 : ¬ j = 0) => ?_) (fun (zc1 : ¬ ¬ j = 0) => ?_)
  · refine m_run 5 (ps' := (16, [some (.inr (.inl 2)), some (.inl j), some (.inl a), some (.inl n), some (.inl 0), none], [], mW (n, T, h, t, x) M, 0, 0)) rfl ?_
    refine m_weak [some (.inr (.inl 2)), some (.inl j), some (.inl a), some (.inl n), some (.inl 0), none] ⟨rfl, ⟨rfl, ⟨rfl, ⟨rfl, ⟨rfl, trivial⟩⟩⟩⟩⟩ ?_
    exact l_inO (lc := n) (o := isInS n tb j a) hR hj hj2 (by omega) (by omega) ha ha2 ⟨rfl, rfl⟩ 0 (by omega) (by omega) (by rw [z_sub]; unfold isInS; rw [if_neg (by omega)])
  · replace zc1 : j = 0 := Decidable.not_not.mp zc1
    refine m_run 5 (ps' := (16, [some (.inr (.inl 2)), some (.inl j), some (.inl a), some (.inl 1), some (.inl 0), none], [], mW (n, T, h, t, x) M, 0, 0)) rfl ?_
    refine m_weak [some (.inr (.inl 2)), some (.inl j), some (.inl a), some (.inl 1), some (.inl 0), none] ⟨rfl, ⟨rfl, ⟨rfl, ⟨rfl, ⟨rfl, trivial⟩⟩⟩⟩⟩ ?_
    exact l_inO (lc := 1) (o := isInS n tb j a) hR hj hj2 (by omega) (by omega) ha ha2 ⟨rfl, rfl⟩ 0 (by omega) (by omega) (by rw [z_sub]; unfold isInS; rw [if_pos (by omega)])
end
section
def NP (n : Int) : Int := n * n + n + 1
def tbR (n : Int) (tb : Int → Int → Int) : Prop := ∀ a b, 0 ≤ a → a < n → 0 ≤ b → b < n → 0 ≤ tb a b ∧ tb a b < n
theorem repC.tb {n : Int} {T : Int → Int} {tb : Int → Int → Int} (h : repC n T tb) : tbR n tb := fun a b h1 h2 h3 h4 => (h.2 a b h1 h2 h3 h4).2
theorem sq_b {n : Int} (hn : okN n) : 4 ≤ n * n ∧ n * n ≤ 81 := by
  unfold okN at hn
  rcases hn with rfl | rfl | rfl | rfl | rfl | rfl <;> decide
theorem div_in {n p : Int} (hn : okN n) (h1 : 0 ≤ p) (h2 : p < n * n) : 0 ≤ p / n ∧ p / n < n := by
  have hl := okN_lo hn
  exact ⟨Int.ediv_nonneg h1 (by omega), Int.ediv_lt_of_lt_mul (by omega) h2⟩
theorem mod_in {n p : Int} (hn : okN n) : 0 ≤ p % n ∧ p % n < n := by
  have hl := okN_lo hn
  exact ⟨Int.emod_nonneg p (by omega), Int.emod_lt_of_pos p (by omega)⟩
theorem dmp {n p : Int} (hn : okN n) : ¬ (0 ≤ p ∧ p < n * n) ∨ (0 ≤ p / n ∧ p / n < n) := by
  by_cases h : 0 ≤ p ∧ p < n * n
  · exact Or.inr (div_in hn h.1 h.2)
  · exact Or.inl h
theorem div_np {n p : Int} (hn : okN n) : ¬ (0 ≤ p ∧ p < n * n + n + 1) ∨ (0 ≤ p / n ∧ p / n ≤ n + 1) := by
  have hl := okN_lo hn
  by_cases h : 0 ≤ p ∧ p < n * n + n + 1
  · refine Or.inr ⟨Int.ediv_nonneg h.1 (by omega), ?_⟩
    have h2 : p / n < n + 2 := Int.ediv_lt_of_lt_mul (by omega) (by rw [Int.add_mul]; omega)
    omega
  · exact Or.inl h
theorem fst_in {p : Int → Bool} : ∀ (k : Nat) (i : Int), fstF p k i = -1 ∨ (i ≤ fstF p k i ∧ fstF p k i < i + k ∧ p (fstF p k i) = true)
  | 0, _ => Or.inl rfl
  | k + 1, i => by
    unfold fstF
    cases h : p i with
    | true => exact Or.inr ⟨Int.le_refl _, by show i < _; omega, h⟩
    | false =>
      rcases fst_in (p := p) k (i + 1) with h1 | ⟨h1, h2, h3⟩
      · exact Or.inl h1
      · exact Or.inr ⟨by show i ≤ fstF p k (i + 1); omega, by show fstF p k (i + 1) < _; omega, h3⟩
set_option maxHeartbeats 4000000 in
set_option maxRecDepth 100000 in
theorem k_pts {X : Nat × Nat × (Nat → Int32)} {n : Int} {T : Int → Int} {h : HS} {t : TS} {x : XS} {M : MS} {tb : Int → Int → Int} (hR : repC n T tb) : m_Run X 12 [.inr (.inl 1)] (mW (n, T, h, t, x) M) (m_V (NP n) (mW (n, T, h, t, x) M)) := by
  have hn := hR.1
  have hl := okN_lo hn
  have hq := sq_b hn
  show m_Sem X 12 (0, [some (.inr (.inl 1))], [], mW (n, T, h, t, x) M, 0, 0) _
  refine m_run 13 (ps' := (25, [some (.inr (.inl 1))], [.inl (((n * n) + n) + 1)], mW (n, T, h, t, x) M, 0, 0)) rfl ?_
  exact m_ret1 rfl (Or.inl rfl) rfl (m_Vi rfl)
end
section
def dropH (h : HS) : HS := (3, m_cpy h.2.1 h.2.1 1 0 3, m_cpy h.2.2 h.2.2 81 0 (3 * 81))
def pushH (n : Int) (T : Int → Int) (h : HS) : HS := (h.1 + 1, m_up h.2.1 h.1 n, m_cpy T h.2.2 0 (h.1 * 81) 81)
def keepH (n : Int) (T : Int → Int) (h : HS) : HS := if h.1 = 4 then pushH n T (dropH h) else pushH n T h
set_option maxHeartbeats 4000000 in
set_option maxRecDepth 100000 in
theorem k_drop {X : Nat × Nat × (Nat → Int32)} {n : Int} {T : Int → Int} {hc : Int} {hs hp : Int → Int} {t : TS} {x : XS} {M : MS} : m_Run X 3 [.inr (.inl 4)] (mW (n, T, (hc, hs, hp), t, x) M) (m_U (mW (n, T, dropH (hc, hs, hp), t, x) M)) := by
  show m_Sem X 3 (0, [some (.inr (.inl 4)), none], [], mW (n, T, (hc, hs, hp), t, x) M, 0, 0) _
  refine m_run 9 (ps' := (13, [some (.inr (.inl 4)), some (.inl 3)], [.inl 3, .inl 0, .inr (.inl 5), .inl 1, .inr (.inl 5)], mW (n, T, (hc, hs, hp), t, x) M, 0, 0)) rfl ?_
  refine m_acp rfl rfl rfl (by omega) (by omega) (by omega) (by omega) (by omega) (by decide) (by decide) rfl rfl ?_
  show m_Sem X 3 (16, [some (.inr (.inl 4)), some (.inl 3)], [], mW (n, T, (hc, (m_cpy hs hs 1 0 3), hp), t, x) M, 0, 0) _
  refine m_run 9 (ps' := (31, [some (.inr (.inl 4)), some (.inl 3)], [.inl (3 * 81), .inl 0, .inr (.inl 6), .inl 81, .inr (.inl 6)], mW (n, T, (hc, (m_cpy hs hs 1 0 3), hp), t, x) M, 0, 0)) rfl ?_
  refine m_acp rfl rfl rfl (by omega) (by omega) (by omega) (by omega) (by omega) (by decide) (by decide) rfl rfl ?_
  show m_Sem X 3 (34, [some (.inr (.inl 4)), some (.inl 3)], [], mW (n, T, (hc, (m_cpy hs hs 1 0 3), (m_cpy hp hp 81 0 (3 * 81))), t, x) M, 0, 0) _
  refine m_run 3 (ps' := (39, [some (.inr (.inl 4)), some (.inl 3)], [], mW (n, T, (3, (m_cpy hs hs 1 0 3), (m_cpy hp hp 81 0 (3 * 81))), t, x) M, 0, 0)) rfl ?_
  exact m_ret0 rfl rfl rfl (⟨rfl, rfl⟩)
set_option maxHeartbeats 4000000 in
set_option maxRecDepth 100000 in
theorem k_keep {X : Nat × Nat × (Nat → Int32)} {n : Int} {T : Int → Int} {hc : Int} {hs hp : Int → Int} {t : TS} {x : XS} {M : MS} (hn : m_R n) (h1 : 0 ≤ hc) (h2 : hc ≤ 4) : m_Run X 2 [.inr (.inl 4), .inr (.inl 2)] (mW (n, T, (hc, hs, hp), t, x) M) (m_U (mW (n, T, keepH n T (hc, hs, hp), t, x) M)) := by
  show m_Sem X 2 (0, [some (.inr (.inl 4)), some (.inr (.inl 2))], [], mW (n, T, (hc, hs, hp), t, x) M, 0, 0) _
  refine m_run 3 (ps' := (5, [some (.inr (.inl 4)), some (.inr (.inl 2))], [.inl 4, .inl hc], mW (n, T, (hc, hs, hp), t, x) M, 0, 0)) rfl ?_
  refine m_icmp rfl ⟨by omega, by omega⟩ ⟨by omega, by omega⟩ (fun (zc1 : hc < 4) => ?_) (fun (zc1 : ¬ hc < 4) => ?_)
  · refine m_run 2 (ps' := (16, [some (.inr (.inl 4)), some (.inr (.inl 2))], [.inl hc], mW (n, T, (hc, hs, hp), t, x) M, 0, 0)) rfl ?_
    refine m_if rfl ⟨by omega, by omega⟩ (fun (zc2 : hc < 0) => absurd zc2 (by omega)) (fun (zc2 : ¬ hc < 0) => ?_)
    refine m_run 3 (ps' := (24, [some (.inr (.inl 4)), some (.inr (.inl 2))], [.inl 4, .inl hc], mW (n, T, (hc, hs, hp), t, x) M, 0, 0)) rfl ?_
    refine m_icmp rfl ⟨by omega, by omega⟩ ⟨by omega, by omega⟩ (fun (zc3 : 4 ≤ hc) => absurd zc3 (by omega)) (fun (zc3 : ¬ 4 ≤ hc) => ?_)
    refine m_run 6 (ps' := (39, [some (.inr (.inl 4)), some (.inr (.inl 2))], [.inl n, .inl hc, .inr (.inl 5)], mW (n, T, (hc, hs, hp), t, x) M, 0, 0)) rfl ?_
    refine m_iast rfl rfl (by omega) (by omega) (by decide) ?_
    show m_Sem X 2 (40, [some (.inr (.inl 4)), some (.inr (.inl 2))], [], mW (n, T, (hc, (m_up hs hc n), hp), t, x) M, 0, 0) _
    refine m_run 10 (ps' := (58, [some (.inr (.inl 4)), some (.inr (.inl 2))], [.inl 81, .inl (hc * 81), .inr (.inl 6), .inl 0, .inr (.inl 3)], mW (n, T, (hc, (m_up hs hc n), hp), t, x) M, 0, 0)) rfl ?_
    refine m_acp rfl rfl rfl (by omega) (by omega) (by omega) (by omega) (by omega) (by decide) (by decide) rfl rfl ?_
    show m_Sem X 2 (61, [some (.inr (.inl 4)), some (.inr (.inl 2))], [], mW (n, T, (hc, (m_up hs hc n), (m_cpy T hp 0 (hc * 81) 81)), t, x) M, 0, 0) _
    refine m_run 6 (ps' := (71, [some (.inr (.inl 4)), some (.inr (.inl 2))], [], mW (n, T, ((hc + 1), (m_up hs hc n), (m_cpy T hp 0 (hc * 81) 81)), t, x) M, 0, 0)) rfl ?_
    exact m_ret0 rfl rfl rfl (⟨rfl, by unfold keepH; (first | rw [if_pos (show hc = 4 by omega)] | rw [if_neg (show ¬ hc = 4 by omega)]) <;> rfl⟩)
  · refine m_run 1 (ps' := (9, [some (.inr (.inl 4)), some (.inr (.inl 2))], [.inr (.inl 4)], mW (n, T, (hc, hs, hp), t, x) M, 0, 0)) rfl ?_
    refine m_callVU [] [] rfl rfl ⟨_, rfl, rfl⟩ rfl rfl k_drop ?_
    show m_Sem X 2 (12, [some (.inr (.inl 4)), some (.inr (.inl 2))], [], mW (n, T, (3, (m_cpy hs hs 1 0 3), (m_cpy hp hp 81 0 (3 * 81))), t, x) M, 0, 0) _
    refine m_run 2 (ps' := (16, [some (.inr (.inl 4)), some (.inr (.inl 2))], [.inl 3], mW (n, T, (3, (m_cpy hs hs 1 0 3), (m_cpy hp hp 81 0 (3 * 81))), t, x) M, 0, 0)) rfl ?_
    refine m_if rfl ⟨by omega, by omega⟩ (fun (zc2 : 3 < 0) => absurd zc2 (by omega)) (fun (zc2 : ¬ 3 < 0) => ?_)
    refine m_run 3 (ps' := (24, [some (.inr (.inl 4)), some (.inr (.inl 2))], [.inl 4, .inl 3], mW (n, T, (3, (m_cpy hs hs 1 0 3), (m_cpy hp hp 81 0 (3 * 81))), t, x) M, 0, 0)) rfl ?_
    refine m_icmp rfl ⟨by omega, by omega⟩ ⟨by omega, by omega⟩ (fun (zc3 : 4 ≤ 3) => absurd zc3 (by omega)) (fun (zc3 : ¬ 4 ≤ 3) => ?_)
    refine m_run 6 (ps' := (39, [some (.inr (.inl 4)), some (.inr (.inl 2))], [.inl n, .inl 3, .inr (.inl 5)], mW (n, T, (3, (m_cpy hs hs 1 0 3), (m_cpy hp hp 81 0 (3 * 81))), t, x) M, 0, 0)) rfl ?_
    refine m_iast rfl rfl (by omega) (by omega) (by decide) ?_
    show m_Sem X 2 (40, [some (.inr (.inl 4)), some (.inr (.inl 2))], [], mW (n, T, (3, (m_up (m_cpy hs hs 1 0 3) 3 n), (m_cpy hp hp 81 0 (3 * 81))), t, x) M, 0, 0) _
    refine m_run 10 (ps' := (58, [some (.inr (.inl 4)), some (.inr (.inl 2))], [.inl 81, .inl (3 * 81), .inr (.inl 6), .inl 0, .inr (.inl 3)], mW (n, T, (3, (m_up (m_cpy hs hs 1 0 3) 3 n), (m_cpy hp hp 81 0 (3 * 81))), t, x) M, 0, 0)) rfl ?_
    refine m_acp rfl rfl rfl (by omega) (by omega) (by omega) (by omega) (by omega) (by decide) (by decide) rfl rfl ?_
    show m_Sem X 2 (61, [some (.inr (.inl 4)), some (.inr (.inl 2))], [], mW (n, T, (3, (m_up (m_cpy hs hs 1 0 3) 3 n), (m_cpy T (m_cpy hp hp 81 0 (3 * 81)) 0 (3 * 81) 81)), t, x) M, 0, 0) _
    refine m_run 6 (ps' := (71, [some (.inr (.inl 4)), some (.inr (.inl 2))], [], mW (n, T, ((3 + 1), (m_up (m_cpy hs hs 1 0 3) 3 n), (m_cpy T (m_cpy hp hp 81 0 (3 * 81)) 0 (3 * 81) 81)), t, x) M, 0, 0)) rfl ?_
    exact m_ret0 rfl rfl rfl (⟨rfl, by unfold keepH; (first | rw [if_pos (show hc = 4 by omega)] | rw [if_neg (show ¬ hc = 4 by omega)]) <;> rfl⟩)
end
section
def szS (n : Int) : Bool := decide (n = 2 ∨ n = 3 ∨ n = 4 ∨ n = 5 ∨ n = 7 ∨ n = 9)
theorem szS_i {n : Int} : szS n = true ↔ okN n := by unfold szS okN; exact decide_eq_true_iff
set_option maxHeartbeats 4000000 in
set_option maxRecDepth 100000 in
theorem k_sz {X : Nat × Nat × (Nat → Int32)} {n : Int} {T : Int → Int} {h : HS} {t : TS} {x : XS} {M : MS} {e : Int} (he : m_R e) : m_Run X 39 [.inl e] (mW (n, T, h, t, x) M) (m_V (bI (szS e)) (mW (n, T, h, t, x) M)) := by
  show m_Sem X 39 (0, [some (.inl e)], [], mW (n, T, h, t, x) M, 0, 0) _
  refine m_run 2 (ps' := (2, [some (.inl e)], [.inl 2, .inl e], mW (n, T, h, t, x) M, 0, 0)) rfl ?_
  refine m_icmp rfl he ⟨by omega, by omega⟩ (fun (zc1 : e = 2) => ?_) (fun (zc1 : ¬ e = 2) => ?_)
  · refine m_run 2 (ps' := (37, [some (.inl e)], [.inl 1], mW (n, T, h, t, x) M, 0, 0)) rfl ?_
    exact m_ret1 rfl (Or.inr ⟨rfl, Or.inr rfl⟩) rfl (m_Vb (b1 (decide_eq_true (by omega))))
  · refine m_run 2 (ps' := (7, [some (.inl e)], [.inl 3, .inl e], mW (n, T, h, t, x) M, 0, 0)) rfl ?_
    refine m_icmp rfl he ⟨by omega, by omega⟩ (fun (zc2 : e = 3) => ?_) (fun (zc2 : ¬ e = 3) => ?_)
    · refine m_run 2 (ps' := (37, [some (.inl e)], [.inl 1], mW (n, T, h, t, x) M, 0, 0)) rfl ?_
      exact m_ret1 rfl (Or.inr ⟨rfl, Or.inr rfl⟩) rfl (m_Vb (b1 (decide_eq_true (by omega))))
    · refine m_run 2 (ps' := (12, [some (.inl e)], [.inl 4, .inl e], mW (n, T, h, t, x) M, 0, 0)) rfl ?_
      refine m_icmp rfl he ⟨by omega, by omega⟩ (fun (zc3 : e = 4) => ?_) (fun (zc3 : ¬ e = 4) => ?_)
      · refine m_run 2 (ps' := (37, [some (.inl e)], [.inl 1], mW (n, T, h, t, x) M, 0, 0)) rfl ?_
        exact m_ret1 rfl (Or.inr ⟨rfl, Or.inr rfl⟩) rfl (m_Vb (b1 (decide_eq_true (by omega))))
      · refine m_run 2 (ps' := (17, [some (.inl e)], [.inl 5, .inl e], mW (n, T, h, t, x) M, 0, 0)) rfl ?_
        refine m_icmp rfl he ⟨by omega, by omega⟩ (fun (zc4 : e = 5) => ?_) (fun (zc4 : ¬ e = 5) => ?_)
        · refine m_run 2 (ps' := (37, [some (.inl e)], [.inl 1], mW (n, T, h, t, x) M, 0, 0)) rfl ?_
          exact m_ret1 rfl (Or.inr ⟨rfl, Or.inr rfl⟩) rfl (m_Vb (b1 (decide_eq_true (by omega))))
        · refine m_run 2 (ps' := (23, [some (.inl e)], [.inl 7, .inl e], mW (n, T, h, t, x) M, 0, 0)) rfl ?_
          refine m_icmp rfl he ⟨by omega, by omega⟩ (fun (zc5 : e = 7) => ?_) (fun (zc5 : ¬ e = 7) => ?_)
          · refine m_run 2 (ps' := (37, [some (.inl e)], [.inl 1], mW (n, T, h, t, x) M, 0, 0)) rfl ?_
            exact m_ret1 rfl (Or.inr ⟨rfl, Or.inr rfl⟩) rfl (m_Vb (b1 (decide_eq_true (by omega))))
          · refine m_run 2 (ps' := (29, [some (.inl e)], [.inl 9, .inl e], mW (n, T, h, t, x) M, 0, 0)) rfl ?_
            refine m_icmp rfl he ⟨by omega, by omega⟩ (fun (zc6 : ¬ e = 9) => ?_) (fun (zc6 : ¬ ¬ e = 9) => ?_)
            · refine m_run 1 (ps' := (37, [some (.inl e)], [.inl 0], mW (n, T, h, t, x) M, 0, 0)) rfl ?_
              exact m_ret1 rfl (Or.inr ⟨rfl, Or.inl rfl⟩) rfl (m_Vb (b0 (decide_eq_false (by omega))))
            · replace zc6 : e = 9 := Decidable.not_not.mp zc6
              refine m_run 2 (ps' := (37, [some (.inl e)], [.inl 1], mW (n, T, h, t, x) M, 0, 0)) rfl ?_
              exact m_ret1 rfl (Or.inr ⟨rfl, Or.inr rfl⟩) rfl (m_Vb (b1 (decide_eq_true (by omega))))
def onfS (v : Int) : Int := if v = -1 then -1000004 else v
set_option maxHeartbeats 4000000 in
set_option maxRecDepth 100000 in
theorem k_onf {X : Nat × Nat × (Nat → Int32)} {n : Int} {T : Int → Int} {h : HS} {t : TS} {x : XS} {M : MS} {e : Int} (he : m_R e) : m_Run X 40 [.inl e] (mW (n, T, h, t, x) M) (m_V (onfS e) (mW (n, T, h, t, x) M)) := by
  show m_Sem X 40 (0, [some (.inl e)], [], mW (n, T, h, t, x) M, 0, 0) _
  refine m_run 2 (ps' := (2, [some (.inl e)], [.inl (-1), .inl e], mW (n, T, h, t, x) M, 0, 0)) rfl ?_
  refine m_icmp rfl he ⟨by omega, by omega⟩ (fun (zc1 : ¬ e = (-1)) => ?_) (fun (zc1 : ¬ ¬ e = (-1)) => ?_)
  · refine m_run 1 (ps' := (11, [some (.inl e)], [.inl e], mW (n, T, h, t, x) M, 0, 0)) rfl ?_
    exact m_ret1 rfl (Or.inl rfl) rfl (m_Vi (by unfold onfS; (repeat' split) <;> first | rfl | (exfalso; omega) | omega | simp_all))
  · replace zc1 : e = (-1) := Decidable.not_not.mp zc1
    refine m_run 2 (ps' := (11, [some (.inl e)], [.inl (-1000004)], mW (n, T, h, t, x) M, 0, 0)) rfl ?_
    exact m_ret1 rfl (Or.inl rfl) rfl (m_Vi (by unfold onfS; (repeat' split) <;> first | rfl | (exfalso; omega) | omega | simp_all))
set_option maxHeartbeats 4000000 in
set_option maxRecDepth 100000 in
theorem k_field {X : Nat × Nat × (Nat → Int32)} {n : Int} {T : Int → Int} {hc : Int} {hs hp : Int → Int} {t : TS} {x : XS} {M : MS} {tb : Int → Int → Int} {e : Int} (he : m_R e) (hok : okN e) (hR : repC n T tb) (hT : okT T) (h1 : 0 ≤ hc) (h2 : hc ≤ 4) : m_Run X 30 [.inr (.inl 0), .inl e] (mW (n, T, (hc, hs, hp), t, x) M) (fun r w => r = some (.inl n) ∧ ∃ T2, w = mW (e, T2, keepH n T (hc, hs, hp), t, x) M ∧ okT T2 ∧ ∀ a b, 0 ≤ a → a < e → 0 ≤ b → b < e → T2 (9 * a + b) = fpS e a b) := by
  have hn := hR.1
  have hl := okN_lo hn
  show m_Sem X 30 (0, [some (.inr (.inl 0)), some (.inl e), none], [], mW (n, T, (hc, hs, hp), t, x) M, 0, 0) _
  refine m_run 1 (ps' := (1, [some (.inr (.inl 0)), some (.inl e), none], [.inl e], mW (n, T, (hc, hs, hp), t, x) M, 0, 0)) rfl ?_
  refine m_callSF [.inl e] [] rfl rfl rfl (k_sz (e := e) he) ?_
  show m_Sem X 30 (4, [some (.inr (.inl 0)), some (.inl e), none], [.inl (bI (szS e))], mW (n, T, (hc, hs, hp), t, x) M, 0, 0) _
  refine m_if rfl (bI_R (szS e)) (fun (zc1 : ¬ (bI (szS e)) = 0) => ?_) (fun (zc1 : ¬ ¬ (bI (szS e)) = 0) => absurd zc1 (not_not_intro (by rw [szS_i.mpr hok]; decide)))
  replace zc1 : (szS e) = true := bI_n0.mp zc1
  refine m_run 4 (ps' := (18, [some (.inr (.inl 0)), some (.inl e), none], [.inr (.inl 2), .inr (.inl 4)], mW (n, T, (hc, hs, hp), t, x) M, 0, 0)) rfl ?_
  refine m_callVU [.inr (.inl 2)] [] rfl rfl ⟨_, rfl, rfl⟩ rfl rfl (k_keep ⟨by omega, by omega⟩ (by omega) (by omega)) ?_
  show m_Sem X 30 (21, [some (.inr (.inl 0)), some (.inl e), none], [], mW (n, T, (keepH n T (hc, hs, hp)), t, x) M, 0, 0) _
  refine m_run 7 (ps' := (34, [some (.inr (.inl 0)), some (.inl e), some (.inl n)], [.inl e, .inr (.inl 2)], mW (n, T, (keepH n T (hc, hs, hp)), t, x) M, 0, 0)) rfl ?_
  refine m_callV [.inl e] [] rfl rfl ⟨_, rfl, rfl⟩ rfl rfl (k_bf hok hT) (fun r_ w_ hq_ _ => ?_)
  obtain ⟨rfl, T2, rfl, hT2, hF2⟩ := hq_
  show m_Sem X 30 (37, [some (.inr (.inl 0)), some (.inl e), some (.inl n)], [], mW (e, T2, (keepH n T (hc, hs, hp)), t, x) M, 0, 0) _
  refine m_run 1 (ps' := (38, [some (.inr (.inl 0)), some (.inl e), some (.inl n)], [.inl n], mW (e, T2, (keepH n T (hc, hs, hp)), t, x) M, 0, 0)) rfl ?_
  exact m_ret1 rfl (Or.inl rfl) rfl (⟨rfl, T2, rfl, hT2, hF2⟩)
set_option maxHeartbeats 4000000 in
set_option maxRecDepth 100000 in
theorem k_fieldN {X : Nat × Nat × (Nat → Int32)} {n : Int} {T : Int → Int} {h : HS} {t : TS} {x : XS} {M : MS} {e : Int} (he : m_R e) (hno : ¬ okN e) : m_Run X 30 [.inr (.inl 0), .inl e] (mW (n, T, h, t, x) M) (m_V (-1000001) (mW (n, T, h, t, x) M)) := by
  show m_Sem X 30 (0, [some (.inr (.inl 0)), some (.inl e), none], [], mW (n, T, h, t, x) M, 0, 0) _
  refine m_run 1 (ps' := (1, [some (.inr (.inl 0)), some (.inl e), none], [.inl e], mW (n, T, h, t, x) M, 0, 0)) rfl ?_
  refine m_callSF [.inl e] [] rfl rfl rfl (k_sz (e := e) he) ?_
  show m_Sem X 30 (4, [some (.inr (.inl 0)), some (.inl e), none], [.inl (bI (szS e))], mW (n, T, h, t, x) M, 0, 0) _
  refine m_if rfl (bI_R (szS e)) (fun (zc1 : ¬ (bI (szS e)) = 0) => absurd zc1 (by rw [Bool.eq_false_iff.mpr (fun h9 => hno (szS_i.mp h9))]; decide)) (fun (zc1 : ¬ ¬ (bI (szS e)) = 0) => ?_)
  replace zc1 : (szS e) = false := bI_e0.mp (Decidable.not_not.mp zc1)
  refine m_run 1 (ps' := (9, [some (.inr (.inl 0)), some (.inl e), none], [.inl (-1000001)], mW (n, T, h, t, x) M, 0, 0)) rfl ?_
  exact m_ret1 rfl (Or.inl rfl) rfl (m_Vi rfl)
set_option maxHeartbeats 4000000 in
set_option maxRecDepth 100000 in
theorem k_twist {X : Nat × Nat × (Nat → Int32)} {T : Int → Int} {hc : Int} {hs hp : Int → Int} {t : TS} {x : XS} {M : MS} {tb : Int → Int → Int} (hR : repC 9 T tb) (hT : okT T) (h1 : 0 ≤ hc) (h2 : hc ≤ 4) : m_Run X 31 [.inr (.inl 0)] (mW (9, T, (hc, hs, hp), t, x) M) (fun r w => r = some (.inl (twC tb)) ∧ ∃ T2, w = mW (9, T2, keepH 9 T (hc, hs, hp), t, x) M ∧ okT T2 ∧ ∀ a b, 0 ≤ a → a < 9 → 0 ≤ b → b < 9 → T2 (9 * a + b) = twS a b) := by
  show m_Sem X 31 (0, [some (.inr (.inl 0))], [], mW (9, T, (hc, hs, hp), t, x) M, 0, 0) _
  refine m_run 4 (ps' := (9, [some (.inr (.inl 0))], [.inl 9, .inl 9], mW (9, T, (hc, hs, hp), t, x) M, 0, 0)) rfl ?_
  refine m_icmp rfl ⟨by omega, by omega⟩ ⟨by omega, by omega⟩ (fun (zc1 : 9 = 9) => ?_) (fun (zc1 : ¬ 9 = 9) => absurd zc1 (not_not_intro (by omega)))
  refine m_run 4 (ps' := (23, [some (.inr (.inl 0))], [.inr (.inl 2), .inr (.inl 4)], mW (9, T, (hc, hs, hp), t, x) M, 0, 0)) rfl ?_
  refine m_callVU [.inr (.inl 2)] [] rfl rfl ⟨_, rfl, rfl⟩ rfl rfl (k_keep ⟨by omega, by omega⟩ (by omega) (by omega)) ?_
  show m_Sem X 31 (26, [some (.inr (.inl 0))], [], mW (9, T, (keepH 9 T (hc, hs, hp)), t, x) M, 0, 0) _
  refine m_run 2 (ps' := (30, [some (.inr (.inl 0))], [.inr (.inl 2)], mW (9, T, (keepH 9 T (hc, hs, hp)), t, x) M, 0, 0)) rfl ?_
  refine m_callV [] [] rfl rfl ⟨_, rfl, rfl⟩ rfl rfl (k_bt hR hT) (fun r_ w_ hq_ _ => ?_)
  obtain ⟨rfl, T2, rfl, hT2, hF2⟩ := hq_
  show m_Sem X 31 (33, [some (.inr (.inl 0))], [.inl (twC tb)], mW (9, T2, (keepH 9 T (hc, hs, hp)), t, x) M, 0, 0) _
  exact m_ret1 rfl (Or.inl rfl) rfl (⟨rfl, T2, rfl, hT2, hF2⟩)
set_option maxHeartbeats 4000000 in
set_option maxRecDepth 100000 in
theorem k_twistN {X : Nat × Nat × (Nat → Int32)} {n : Int} {T : Int → Int} {h : HS} {t : TS} {x : XS} {M : MS} (hn : okN n) (hno : ¬ n = 9) : m_Run X 31 [.inr (.inl 0)] (mW (n, T, h, t, x) M) (m_V (-1000002) (mW (n, T, h, t, x) M)) := by
  have hl := okN_lo hn
  show m_Sem X 31 (0, [some (.inr (.inl 0))], [], mW (n, T, h, t, x) M, 0, 0) _
  refine m_run 4 (ps' := (9, [some (.inr (.inl 0))], [.inl 9, .inl n], mW (n, T, h, t, x) M, 0, 0)) rfl ?_
  refine m_icmp rfl ⟨by omega, by omega⟩ ⟨by omega, by omega⟩ (fun (zc1 : n = 9) => absurd zc1 (by omega)) (fun (zc1 : ¬ n = 9) => ?_)
  refine m_run 1 (ps' := (14, [some (.inr (.inl 0))], [.inl (-1000002)], mW (n, T, h, t, x) M, 0, 0)) rfl ?_
  exact m_ret1 rfl (Or.inl rfl) rfl (m_Vi rfl)
set_option maxHeartbeats 4000000 in
set_option maxRecDepth 100000 in
theorem k_prod {X : Nat × Nat × (Nat → Int32)} {n : Int} {T : Int → Int} {hc : Int} {hs hp : Int → Int} {t : TS} {x : XS} {M : MS} {tb : Int → Int → Int} {a b r : Int} (ha : m_R a) (hb : m_R b) (hr : m_R r) (hR : repC n T tb) (hT : okT T) (h1 : 0 ≤ hc) (h2 : hc ≤ 4) : m_Run X 32 [.inr (.inl 0), .inl a, .inl b, .inl r] (mW (n, T, (hc, hs, hp), t, x) M) (fun r9 w => if inN n a = true ∧ inN n b = true ∧ inN n r = true then r9 = some (.inl (tb a b)) ∧ w = mW (n, m_up T (9 * a + b) r, keepH n T (hc, hs, hp), t, x) M else r9 = some (.inl (-1000001)) ∧ w = mW (n, T, (hc, hs, hp), t, x) M) := by
  have hn := hR.1
  have hl := okN_lo hn
  show m_Sem X 32 (0, [some (.inr (.inl 0)), some (.inl a), some (.inl b), some (.inl r), none], [], mW (n, T, (hc, hs, hp), t, x) M, 0, 0) _
  refine m_run 3 (ps' := (5, [some (.inr (.inl 0)), some (.inl a), some (.inl b), some (.inl r), none], [.inl a, .inr (.inl 2)], mW (n, T, (hc, hs, hp), t, x) M, 0, 0)) rfl ?_
  refine m_callVF [.inl a] [] rfl rfl ⟨_, rfl, rfl⟩ rfl rfl (k_has (e := a) hn ha) ?_
  show m_Sem X 32 (8, [some (.inr (.inl 0)), some (.inl a), some (.inl b), some (.inl r), none], [.inl (bI (inN n a))], mW (n, T, (hc, hs, hp), t, x) M, 0, 0) _
  refine m_if rfl (bI_R (inN n a)) (fun (zc1 : (bI (inN n a)) = 0) => ?_) (fun (zc1 : ¬ (bI (inN n a)) = 0) => ?_)
  · replace zc1 : (inN n a) = false := bI_e0.mp zc1
    refine m_run 1 (ps' := (35, [some (.inr (.inl 0)), some (.inl a), some (.inl b), some (.inl r), none], [.inl (-1000001)], mW (n, T, (hc, hs, hp), t, x) M, 0, 0)) rfl ?_
    exact m_ret1 rfl (Or.inl rfl) rfl (by rw [if_neg (by simp [*])]; exact ⟨rfl, rfl⟩)
  · replace zc1 : (inN n a) = true := bI_n0.mp zc1
    have zi1 := inN_i.mp zc1
    refine m_run 3 (ps' := (16, [some (.inr (.inl 0)), some (.inl a), some (.inl b), some (.inl r), none], [.inl b, .inr (.inl 2)], mW (n, T, (hc, hs, hp), t, x) M, 0, 0)) rfl ?_
    refine m_callVF [.inl b] [] rfl rfl ⟨_, rfl, rfl⟩ rfl rfl (k_has (e := b) hn hb) ?_
    show m_Sem X 32 (19, [some (.inr (.inl 0)), some (.inl a), some (.inl b), some (.inl r), none], [.inl (bI (inN n b))], mW (n, T, (hc, hs, hp), t, x) M, 0, 0) _
    refine m_if rfl (bI_R (inN n b)) (fun (zc2 : (bI (inN n b)) = 0) => ?_) (fun (zc2 : ¬ (bI (inN n b)) = 0) => ?_)
    · replace zc2 : (inN n b) = false := bI_e0.mp zc2
      refine m_run 1 (ps' := (35, [some (.inr (.inl 0)), some (.inl a), some (.inl b), some (.inl r), none], [.inl (-1000001)], mW (n, T, (hc, hs, hp), t, x) M, 0, 0)) rfl ?_
      exact m_ret1 rfl (Or.inl rfl) rfl (by rw [if_neg (by simp [*])]; exact ⟨rfl, rfl⟩)
    · replace zc2 : (inN n b) = true := bI_n0.mp zc2
      have zi2 := inN_i.mp zc2
      refine m_run 3 (ps' := (27, [some (.inr (.inl 0)), some (.inl a), some (.inl b), some (.inl r), none], [.inl r, .inr (.inl 2)], mW (n, T, (hc, hs, hp), t, x) M, 0, 0)) rfl ?_
      refine m_callVF [.inl r] [] rfl rfl ⟨_, rfl, rfl⟩ rfl rfl (k_has (e := r) hn hr) ?_
      show m_Sem X 32 (30, [some (.inr (.inl 0)), some (.inl a), some (.inl b), some (.inl r), none], [.inl (bI (inN n r))], mW (n, T, (hc, hs, hp), t, x) M, 0, 0) _
      refine m_if rfl (bI_R (inN n r)) (fun (zc3 : ¬ (bI (inN n r)) = 0) => ?_) (fun (zc3 : ¬ ¬ (bI (inN n r)) = 0) => ?_)
      · replace zc3 : (inN n r) = true := bI_n0.mp zc3
        have zi3 := inN_i.mp zc3
        refine m_run 4 (ps' := (44, [some (.inr (.inl 0)), some (.inl a), some (.inl b), some (.inl r), none], [.inr (.inl 2), .inr (.inl 4)], mW (n, T, (hc, hs, hp), t, x) M, 0, 0)) rfl ?_
        refine m_callVU [.inr (.inl 2)] [] rfl rfl ⟨_, rfl, rfl⟩ rfl rfl (k_keep ⟨by omega, by omega⟩ (by omega) (by omega)) ?_
        show m_Sem X 32 (47, [some (.inr (.inl 0)), some (.inl a), some (.inl b), some (.inl r), none], [], mW (n, T, (keepH n T (hc, hs, hp)), t, x) M, 0, 0) _
        refine m_run 4 (ps' := (53, [some (.inr (.inl 0)), some (.inl a), some (.inl b), some (.inl r), none], [.inl b, .inl a, .inr (.inl 2)], mW (n, T, (keepH n T (hc, hs, hp)), t, x) M, 0, 0)) rfl ?_
        refine m_callVF [.inl a, .inl b] [] rfl rfl ⟨_, rfl, rfl⟩ rfl rfl (k_times (a := a) (b := b) hR (by omega) (by omega) (by omega) (by omega)) ?_
        have zt1 := (hR.2 a b (by omega) (by omega) (by omega) (by omega)).2
        show m_Sem X 32 (56, [some (.inr (.inl 0)), some (.inl a), some (.inl b), some (.inl r), none], [.inl (tb a b)], mW (n, T, (keepH n T (hc, hs, hp)), t, x) M, 0, 0) _
        refine m_run 6 (ps' := (65, [some (.inr (.inl 0)), some (.inl a), some (.inl b), some (.inl r), some (.inl (tb a b))], [.inl r, .inl b, .inl a, .inr (.inl 2)], mW (n, T, (keepH n T (hc, hs, hp)), t, x) M, 0, 0)) rfl ?_
        have hp9 := hT (9 * a + b) (by omega) (by omega)
        refine m_callVF [.inl a, .inl b, .inl r] [] rfl rfl ⟨_, rfl, rfl⟩ rfl rfl (k_set (T := T) (a := a) (b := b) (r := r) ⟨by omega, by omega⟩ ⟨by omega, by omega⟩ (by omega) (by omega) ⟨by omega, by omega⟩ ⟨by omega, by omega⟩) ?_
        show m_Sem X 32 (68, [some (.inr (.inl 0)), some (.inl a), some (.inl b), some (.inl r), some (.inl (tb a b))], [.inl (if T (9 * a + b) = r then 0 else 1)], mW (n, (m_up T (9 * a + b) r), (keepH n T (hc, hs, hp)), t, x) M, 0, 0) _
        refine m_run 2 (ps' := (71, [some (.inr (.inl 0)), some (.inl a), some (.inl b), some (.inl r), some (.inl (tb a b))], [.inl (tb a b)], mW (n, (m_up T (9 * a + b) r), (keepH n T (hc, hs, hp)), t, x) M, 0, 0)) rfl ?_
        exact m_ret1 rfl (Or.inl rfl) rfl (by rw [if_pos ⟨zc1, zc2, zc3⟩]; exact ⟨rfl, rfl⟩)
      · replace zc3 : (inN n r) = false := bI_e0.mp (Decidable.not_not.mp zc3)
        refine m_run 1 (ps' := (35, [some (.inr (.inl 0)), some (.inl a), some (.inl b), some (.inl r), none], [.inl (-1000001)], mW (n, T, (hc, hs, hp), t, x) M, 0, 0)) rfl ?_
        exact m_ret1 rfl (Or.inl rfl) rfl (by rw [if_neg (by simp [*])]; exact ⟨rfl, rfl⟩)
set_option maxHeartbeats 4000000 in
set_option maxRecDepth 100000 in
theorem k_exch {X : Nat × Nat × (Nat → Int32)} {n : Int} {T : Int → Int} {hc : Int} {hs hp : Int → Int} {t : TS} {x : XS} {M : MS} {tb : Int → Int → Int} (hR : repC n T tb) (hT : okT T) (h1 : 0 ≤ hc) (h2 : hc ≤ 4) : m_Run X 33 [.inr (.inl 0)] (mW (n, T, (hc, hs, hp), t, x) M) (fun r w => r = some (.inl (exC n tb)) ∧ ∃ T2, w = mW (n, T2, keepH n T (hc, hs, hp), t, x) M ∧ okT T2 ∧ ∀ a b, 0 ≤ a → a < n → 0 ≤ b → b < n → T2 (9 * a + b) = tb b a) := by
  have hn := hR.1
  have hl := okN_lo hn
  show m_Sem X 33 (0, [some (.inr (.inl 0))], [], mW (n, T, (hc, hs, hp), t, x) M, 0, 0) _
  refine m_run 4 (ps' := (8, [some (.inr (.inl 0))], [.inr (.inl 2), .inr (.inl 4)], mW (n, T, (hc, hs, hp), t, x) M, 0, 0)) rfl ?_
  refine m_callVU [.inr (.inl 2)] [] rfl rfl ⟨_, rfl, rfl⟩ rfl rfl (k_keep ⟨by omega, by omega⟩ (by omega) (by omega)) ?_
  show m_Sem X 33 (11, [some (.inr (.inl 0))], [], mW (n, T, (keepH n T (hc, hs, hp)), t, x) M, 0, 0) _
  refine m_run 2 (ps' := (15, [some (.inr (.inl 0))], [.inr (.inl 2)], mW (n, T, (keepH n T (hc, hs, hp)), t, x) M, 0, 0)) rfl ?_
  refine m_callV [] [] rfl rfl ⟨_, rfl, rfl⟩ rfl rfl (k_cs hR hT) (fun r_ w_ hq_ _ => ?_)
  obtain ⟨rfl, T2, rfl, hT2, hF2⟩ := hq_
  show m_Sem X 33 (18, [some (.inr (.inl 0))], [.inl (exC n tb)], mW (n, T2, (keepH n T (hc, hs, hp)), t, x) M, 0, 0) _
  exact m_ret1 rfl (Or.inl rfl) rfl (⟨rfl, T2, rfl, hT2, hF2⟩)
def facS (n : Int) (tb : Int → Int → Int) (r : Bool) (a b : Int) : Int := fstF (fun i => decide (sideS tb r a i = b)) n.toNat 0
def byS (n : Int) (tb : Int → Int → Int) (a b w : Int) : Int :=
  if inN n a = false then -1000001 else if inN n b = false then -1000001
  else if w = 0 then sumS n a b else if w = 1 then difS n a b else if w = 2 then tb a b else if w = 3 then onfS (facS n tb true a b) else if w = 4 then onfS (facS n tb false a b) else -1000001
theorem facS_in {n : Int} {tb : Int → Int → Int} {r : Bool} {a b : Int} (hn : okN n) : -1 ≤ facS n tb r a b ∧ facS n tb r a b < 9 := by
  have hl := okN_lo hn
  rcases fst_in (p := fun i => decide (sideS tb r a i = b)) n.toNat 0 with h | ⟨h1, h2, -⟩
  · unfold facS; rw [h]; omega
  · unfold facS; omega
set_option maxHeartbeats 4000000 in
set_option maxRecDepth 100000 in
theorem k_by {X : Nat × Nat × (Nat → Int32)} {n : Int} {T : Int → Int} {h : HS} {t : TS} {x : XS} {M : MS} {tb : Int → Int → Int} {a b wh : Int} (ha : m_R a) (hb : m_R b) (hw : m_R wh) (hR : repC n T tb) : m_Run X 34 [.inr (.inl 0), .inl a, .inl b, .inl wh] (mW (n, T, h, t, x) M) (m_V (byS n tb a b wh) (mW (n, T, h, t, x) M)) := by
  have hn := hR.1
  have hl := okN_lo hn
  obtain ⟨hw1, hw2⟩ := id hw
  show m_Sem X 34 (0, [some (.inr (.inl 0)), some (.inl a), some (.inl b), some (.inl wh)], [], mW (n, T, h, t, x) M, 0, 0) _
  refine m_run 3 (ps' := (5, [some (.inr (.inl 0)), some (.inl a), some (.inl b), some (.inl wh)], [.inl a, .inr (.inl 2)], mW (n, T, h, t, x) M, 0, 0)) rfl ?_
  refine m_callVF [.inl a] [] rfl rfl ⟨_, rfl, rfl⟩ rfl rfl (k_has (e := a) hn ha) ?_
  show m_Sem X 34 (8, [some (.inr (.inl 0)), some (.inl a), some (.inl b), some (.inl wh)], [.inl (bI (inN n a))], mW (n, T, h, t, x) M, 0, 0) _
  refine m_if rfl (bI_R (inN n a)) (fun (zc1 : (bI (inN n a)) = 0) => ?_) (fun (zc1 : ¬ (bI (inN n a)) = 0) => ?_)
  · replace zc1 : (inN n a) = false := bI_e0.mp zc1
    refine m_run 1 (ps' := (24, [some (.inr (.inl 0)), some (.inl a), some (.inl b), some (.inl wh)], [.inl (-1000001)], mW (n, T, h, t, x) M, 0, 0)) rfl ?_
    exact m_ret1 rfl (Or.inl rfl) rfl (m_Vi (by unfold byS; simp [*] <;> omega))
  · replace zc1 : (inN n a) = true := bI_n0.mp zc1
    have zi1 := inN_i.mp zc1
    refine m_run 3 (ps' := (16, [some (.inr (.inl 0)), some (.inl a), some (.inl b), some (.inl wh)], [.inl b, .inr (.inl 2)], mW (n, T, h, t, x) M, 0, 0)) rfl ?_
    refine m_callVF [.inl b] [] rfl rfl ⟨_, rfl, rfl⟩ rfl rfl (k_has (e := b) hn hb) ?_
    show m_Sem X 34 (19, [some (.inr (.inl 0)), some (.inl a), some (.inl b), some (.inl wh)], [.inl (bI (inN n b))], mW (n, T, h, t, x) M, 0, 0) _
    refine m_if rfl (bI_R (inN n b)) (fun (zc2 : ¬ (bI (inN n b)) = 0) => ?_) (fun (zc2 : ¬ ¬ (bI (inN n b)) = 0) => ?_)
    · replace zc2 : (inN n b) = true := bI_n0.mp zc2
      have zi2 := inN_i.mp zc2
      refine m_run 1 (ps' := (26, [some (.inr (.inl 0)), some (.inl a), some (.inl b), some (.inl wh)], [.inl wh], mW (n, T, h, t, x) M, 0, 0)) rfl ?_
      rcases (show wh < 0 ∨ wh = 0 ∨ wh = 1 ∨ wh = 2 ∨ wh = 3 ∨ wh = 4 ∨ 4 < wh by omega) with zs1 | rfl | rfl | rfl | rfl | rfl | zs1
      · refine m_tabOut (tgt := 118) rfl ⟨by omega, by omega⟩ (Or.inl (by omega)) rfl ?_
        refine m_run 1 (ps' := (120, [some (.inr (.inl 0)), some (.inl a), some (.inl b), some (.inl wh)], [.inl (-1000001)], mW (n, T, h, t, x) M, 0, 0)) rfl ?_
        exact m_ret1 rfl (Or.inl rfl) rfl (m_Vi (by unfold byS; simp [*] <;> omega))
      · refine m_tabIn (tgt := 60) rfl ⟨by decide, by decide⟩ (by decide) (by decide) rfl rfl ?_
        refine m_run 4 (ps' := (66, [some (.inr (.inl 0)), some (.inl a), some (.inl b), some (.inl 0)], [.inl b, .inl a, .inr (.inl 2)], mW (n, T, h, t, x) M, 0, 0)) rfl ?_
        refine m_callVF [.inl a, .inl b] [] rfl rfl ⟨_, rfl, rfl⟩ rfl rfl (k_sum (a := a) (b := b) hn (by omega) (by omega) (by omega) (by omega)) ?_
        have zt1 := sumS_in (n := n) (a := a) (b := b) hn (by omega) (by omega) (by omega) (by omega)
        show m_Sem X 34 (69, [some (.inr (.inl 0)), some (.inl a), some (.inl b), some (.inl 0)], [.inl (sumS n a b)], mW (n, T, h, t, x) M, 0, 0) _
        exact m_ret1 rfl (Or.inl rfl) rfl (m_Vi (by unfold byS; simp [*] <;> omega))
      · refine m_tabIn (tgt := 70) rfl ⟨by decide, by decide⟩ (by decide) (by decide) rfl rfl ?_
        refine m_run 4 (ps' := (76, [some (.inr (.inl 0)), some (.inl a), some (.inl b), some (.inl 1)], [.inl b, .inl a, .inr (.inl 2)], mW (n, T, h, t, x) M, 0, 0)) rfl ?_
        refine m_callVF [.inl a, .inl b] [] rfl rfl ⟨_, rfl, rfl⟩ rfl rfl (k_dif (a := a) (b := b) hn (by omega) (by omega) (by omega) (by omega)) ?_
        have zt1 := difS_in (n := n) (a := a) (b := b) hn (by omega) (by omega) (by omega) (by omega)
        show m_Sem X 34 (79, [some (.inr (.inl 0)), some (.inl a), some (.inl b), some (.inl 1)], [.inl (difS n a b)], mW (n, T, h, t, x) M, 0, 0) _
        exact m_ret1 rfl (Or.inl rfl) rfl (m_Vi (by unfold byS; simp [*] <;> omega))
      · refine m_tabIn (tgt := 80) rfl ⟨by decide, by decide⟩ (by decide) (by decide) rfl rfl ?_
        refine m_run 4 (ps' := (86, [some (.inr (.inl 0)), some (.inl a), some (.inl b), some (.inl 2)], [.inl b, .inl a, .inr (.inl 2)], mW (n, T, h, t, x) M, 0, 0)) rfl ?_
        refine m_callVF [.inl a, .inl b] [] rfl rfl ⟨_, rfl, rfl⟩ rfl rfl (k_times (a := a) (b := b) hR (by omega) (by omega) (by omega) (by omega)) ?_
        have zt1 := (hR.2 a b (by omega) (by omega) (by omega) (by omega)).2
        show m_Sem X 34 (89, [some (.inr (.inl 0)), some (.inl a), some (.inl b), some (.inl 2)], [.inl (tb a b)], mW (n, T, h, t, x) M, 0, 0) _
        exact m_ret1 rfl (Or.inl rfl) rfl (m_Vi (by unfold byS; simp [*] <;> omega))
      · refine m_tabIn (tgt := 90) rfl ⟨by decide, by decide⟩ (by decide) (by decide) rfl rfl ?_
        refine m_run 5 (ps' := (97, [some (.inr (.inl 0)), some (.inl a), some (.inl b), some (.inl 3)], [.inl 1, .inl b, .inl a, .inr (.inl 2)], mW (n, T, h, t, x) M, 0, 0)) rfl ?_
        refine m_callVF [.inl a, .inl b, .inl 1] [] rfl rfl ⟨_, rfl, rfl⟩ rfl rfl (k_low (r := true) hR (by omega) (by omega) (by omega) (by omega)) ?_
        have zt1 := facS_in (tb := tb) (r := true) (a := a) (b := b) hn
        show m_Sem X 34 (100, [some (.inr (.inl 0)), some (.inl a), some (.inl b), some (.inl 3)], [.inl (facS n tb true a b)], mW (n, T, h, t, x) M, 0, 0) _
        refine m_callSF [.inl (facS n tb true a b)] [] rfl rfl rfl (k_onf (e := (facS n tb true a b)) ⟨by omega, by omega⟩) ?_
        show m_Sem X 34 (103, [some (.inr (.inl 0)), some (.inl a), some (.inl b), some (.inl 3)], [.inl (onfS (facS n tb true a b))], mW (n, T, h, t, x) M, 0, 0) _
        exact m_ret1 rfl (Or.inl rfl) rfl (m_Vi (by unfold byS; simp [*] <;> omega))
      · refine m_tabIn (tgt := 104) rfl ⟨by decide, by decide⟩ (by decide) (by decide) rfl rfl ?_
        refine m_run 5 (ps' := (111, [some (.inr (.inl 0)), some (.inl a), some (.inl b), some (.inl 4)], [.inl 0, .inl b, .inl a, .inr (.inl 2)], mW (n, T, h, t, x) M, 0, 0)) rfl ?_
        refine m_callVF [.inl a, .inl b, .inl 0] [] rfl rfl ⟨_, rfl, rfl⟩ rfl rfl (k_low (r := false) hR (by omega) (by omega) (by omega) (by omega)) ?_
        have zt1 := facS_in (tb := tb) (r := false) (a := a) (b := b) hn
        show m_Sem X 34 (114, [some (.inr (.inl 0)), some (.inl a), some (.inl b), some (.inl 4)], [.inl (facS n tb false a b)], mW (n, T, h, t, x) M, 0, 0) _
        refine m_callSF [.inl (facS n tb false a b)] [] rfl rfl rfl (k_onf (e := (facS n tb false a b)) ⟨by omega, by omega⟩) ?_
        show m_Sem X 34 (117, [some (.inr (.inl 0)), some (.inl a), some (.inl b), some (.inl 4)], [.inl (onfS (facS n tb false a b))], mW (n, T, h, t, x) M, 0, 0) _
        exact m_ret1 rfl (Or.inl rfl) rfl (m_Vi (by unfold byS; simp [*] <;> omega))
      · refine m_tabOut (tgt := 118) rfl ⟨by omega, by omega⟩ (Or.inr (by omega)) rfl ?_
        refine m_run 1 (ps' := (120, [some (.inr (.inl 0)), some (.inl a), some (.inl b), some (.inl wh)], [.inl (-1000001)], mW (n, T, h, t, x) M, 0, 0)) rfl ?_
        exact m_ret1 rfl (Or.inl rfl) rfl (m_Vi (by unfold byS; simp [*] <;> omega))
    · replace zc2 : (inN n b) = false := bI_e0.mp (Decidable.not_not.mp zc2)
      refine m_run 1 (ps' := (24, [some (.inr (.inl 0)), some (.inl a), some (.inl b), some (.inl wh)], [.inl (-1000001)], mW (n, T, h, t, x) M, 0, 0)) rfl ?_
      exact m_ret1 rfl (Or.inl rfl) rfl (m_Vi (by unfold byS; simp [*] <;> omega))
def lawS (n : Int) (tb : Int → Int → Int) (l w : Int) : Int :=
  if l < 0 then -1000001 else if 8 ≤ l then -1000001 else if w < 0 then -1000001 else if 3 < w then -1000001
  else if w = 0 then (if wcode (witS n tb l) = -1 then 1 else 0) else if wcode (witS n tb l) = -1 then -1000004 else welS (wcode (witS n tb l)) w
set_option maxHeartbeats 4000000 in
set_option maxRecDepth 100000 in
theorem k_law {X : Nat × Nat × (Nat → Int32)} {n : Int} {T : Int → Int} {h : HS} {t : TS} {x : XS} {M : MS} {tb : Int → Int → Int} {l wh : Int} (hl9 : m_R l) (hw : m_R wh) (hR : repC n T tb) : m_Run X 35 [.inr (.inl 0), .inl l, .inl wh] (mW (n, T, h, t, x) M) (m_V (lawS n tb l wh) (mW (n, T, h, t, x) M)) := by
  have hn := hR.1
  have hl := okN_lo hn
  show m_Sem X 35 (0, [some (.inr (.inl 0)), some (.inl l), some (.inl wh), none], [], mW (n, T, h, t, x) M, 0, 0) _
  refine m_run 1 (ps' := (1, [some (.inr (.inl 0)), some (.inl l), some (.inl wh), none], [.inl l], mW (n, T, h, t, x) M, 0, 0)) rfl ?_
  refine m_if rfl hl9 (fun (zc1 : l < 0) => ?_) (fun (zc1 : ¬ l < 0) => ?_)
  · refine m_run 1 (ps' := (21, [some (.inr (.inl 0)), some (.inl l), some (.inl wh), none], [.inl (-1000001)], mW (n, T, h, t, x) M, 0, 0)) rfl ?_
    exact m_ret1 rfl (Or.inl rfl) rfl (m_Vi (by unfold lawS; (repeat' split) <;> first | rfl | (exfalso; omega) | omega | simp_all))
  · refine m_run 2 (ps' := (7, [some (.inr (.inl 0)), some (.inl l), some (.inl wh), none], [.inl 8, .inl l], mW (n, T, h, t, x) M, 0, 0)) rfl ?_
    refine m_icmp rfl hl9 ⟨by omega, by omega⟩ (fun (zc2 : 8 ≤ l) => ?_) (fun (zc2 : ¬ 8 ≤ l) => ?_)
    · refine m_run 1 (ps' := (21, [some (.inr (.inl 0)), some (.inl l), some (.inl wh), none], [.inl (-1000001)], mW (n, T, h, t, x) M, 0, 0)) rfl ?_
      exact m_ret1 rfl (Or.inl rfl) rfl (m_Vi (by unfold lawS; (repeat' split) <;> first | rfl | (exfalso; omega) | omega | simp_all))
    · refine m_run 1 (ps' := (11, [some (.inr (.inl 0)), some (.inl l), some (.inl wh), none], [.inl wh], mW (n, T, h, t, x) M, 0, 0)) rfl ?_
      refine m_if rfl hw (fun (zc3 : wh < 0) => ?_) (fun (zc3 : ¬ wh < 0) => ?_)
      · refine m_run 1 (ps' := (21, [some (.inr (.inl 0)), some (.inl l), some (.inl wh), none], [.inl (-1000001)], mW (n, T, h, t, x) M, 0, 0)) rfl ?_
        exact m_ret1 rfl (Or.inl rfl) rfl (m_Vi (by unfold lawS; (repeat' split) <;> first | rfl | (exfalso; omega) | omega | simp_all))
      · refine m_run 2 (ps' := (16, [some (.inr (.inl 0)), some (.inl l), some (.inl wh), none], [.inl 3, .inl wh], mW (n, T, h, t, x) M, 0, 0)) rfl ?_
        refine m_icmp rfl hw ⟨by omega, by omega⟩ (fun (zc4 : wh ≤ 3) => ?_) (fun (zc4 : ¬ wh ≤ 3) => ?_)
        · refine m_run 3 (ps' := (27, [some (.inr (.inl 0)), some (.inl l), some (.inl wh), none], [.inl l, .inr (.inl 2)], mW (n, T, h, t, x) M, 0, 0)) rfl ?_
          refine m_callSF [.inr (.inl 2), .inl l] [] rfl rfl rfl (k_wit (law := l) hR (by omega) (by omega)) ?_
          have zt1 := wcode_in (tb := tb) (law := l) hn
          show m_Sem X 35 (30, [some (.inr (.inl 0)), some (.inl l), some (.inl wh), none], [.inl (wcode (witS n tb l))], mW (n, T, h, t, x) M, 0, 0) _
          refine m_run 2 (ps' := (32, [some (.inr (.inl 0)), some (.inl l), some (.inl wh), some (.inl (wcode (witS n tb l)))], [.inl wh], mW (n, T, h, t, x) M, 0, 0)) rfl ?_
          refine m_if rfl hw (fun (zc5 : ¬ wh = 0) => ?_) (fun (zc5 : ¬ ¬ wh = 0) => ?_)
          · refine m_run 2 (ps' := (48, [some (.inr (.inl 0)), some (.inl l), some (.inl wh), some (.inl (wcode (witS n tb l)))], [.inl (-1), .inl (wcode (witS n tb l))], mW (n, T, h, t, x) M, 0, 0)) rfl ?_
            refine m_icmp rfl ⟨by omega, by omega⟩ ⟨by omega, by omega⟩ (fun (zc6 : ¬ (wcode (witS n tb l)) = (-1)) => ?_) (fun (zc6 : ¬ ¬ (wcode (witS n tb l)) = (-1)) => ?_)
            · refine m_run 2 (ps' := (58, [some (.inr (.inl 0)), some (.inl l), some (.inl wh), some (.inl (wcode (witS n tb l)))], [.inl wh, .inl (wcode (witS n tb l))], mW (n, T, h, t, x) M, 0, 0)) rfl ?_
              refine m_callSF [.inl (wcode (witS n tb l)), .inl wh] [] rfl rfl rfl (k_wel (w0 := (wcode (witS n tb l))) (j := wh) (by omega) (by omega) ⟨by omega, by omega⟩) ?_
              show m_Sem X 35 (61, [some (.inr (.inl 0)), some (.inl l), some (.inl wh), some (.inl (wcode (witS n tb l)))], [.inl (welS (wcode (witS n tb l)) wh)], mW (n, T, h, t, x) M, 0, 0) _
              exact m_ret1 rfl (Or.inl rfl) rfl (m_Vi (by unfold lawS; (repeat' split) <;> first | rfl | (exfalso; omega) | omega | simp_all))
            · replace zc6 : (wcode (witS n tb l)) = (-1) := Decidable.not_not.mp zc6
              refine m_run 2 (ps' := (61, [some (.inr (.inl 0)), some (.inl l), some (.inl wh), some (.inl (wcode (witS n tb l)))], [.inl (-1000004)], mW (n, T, h, t, x) M, 0, 0)) rfl ?_
              exact m_ret1 rfl (Or.inl rfl) rfl (m_Vi (by unfold lawS; (repeat' split) <;> first | rfl | (exfalso; omega) | omega | simp_all))
          · replace zc5 : wh = 0 := Decidable.not_not.mp zc5
            refine m_run 2 (ps' := (37, [some (.inr (.inl 0)), some (.inl l), some (.inl wh), some (.inl (wcode (witS n tb l)))], [.inl (-1), .inl (wcode (witS n tb l))], mW (n, T, h, t, x) M, 0, 0)) rfl ?_
            refine m_icmp rfl ⟨by omega, by omega⟩ ⟨by omega, by omega⟩ (fun (zc6 : ¬ (wcode (witS n tb l)) = (-1)) => ?_) (fun (zc6 : ¬ ¬ (wcode (witS n tb l)) = (-1)) => ?_)
            · refine m_run 1 (ps' := (45, [some (.inr (.inl 0)), some (.inl l), some (.inl wh), some (.inl (wcode (witS n tb l)))], [.inl 0], mW (n, T, h, t, x) M, 0, 0)) rfl ?_
              exact m_ret1 rfl (Or.inl rfl) rfl (m_Vi (by unfold lawS; (repeat' split) <;> first | rfl | (exfalso; omega) | omega | simp_all))
            · replace zc6 : (wcode (witS n tb l)) = (-1) := Decidable.not_not.mp zc6
              refine m_run 2 (ps' := (45, [some (.inr (.inl 0)), some (.inl l), some (.inl wh), some (.inl (wcode (witS n tb l)))], [.inl 1], mW (n, T, h, t, x) M, 0, 0)) rfl ?_
              exact m_ret1 rfl (Or.inl rfl) rfl (m_Vi (by unfold lawS; (repeat' split) <;> first | rfl | (exfalso; omega) | omega | simp_all))
        · refine m_run 1 (ps' := (21, [some (.inr (.inl 0)), some (.inl l), some (.inl wh), none], [.inl (-1000001)], mW (n, T, h, t, x) M, 0, 0)) rfl ?_
          exact m_ret1 rfl (Or.inl rfl) rfl (m_Vi (by unfold lawS; (repeat' split) <;> first | rfl | (exfalso; omega) | omega | simp_all))
def elsK (p : Int → Bool) : Nat → Int → Nat → Int
  | 0, _, s => (s : Int)
  | k + 1, i, s => elsK p k (i + 1) (bif p i then s ||| 2 ^ i.toNat else s)
theorem els_end (p : Int → Bool) (n : Int) (s : Nat) : elsK p (n - n).toNat n s = (s : Int) := by rw [nat_end]; rfl
theorem els_step {p : Int → Bool} {n i : Int} {s : Nat} (h : i < n) : elsK p (n - i).toNat i s = elsK p (n - (i + 1)).toNat (i + 1) (bif p i then s ||| 2 ^ i.toNat else s) := by rw [nat_step h]; rfl
def elmS (n : Int) (tb : Int → Int → Int) (w : Int) : Int := if w < 0 then -1000001 else if 2 < w then -1000001 else elsK (isInS n tb w) n.toNat 0 0
set_option maxHeartbeats 4000000 in
set_option maxRecDepth 100000 in
theorem l_els {X : Nat × Nat × (Nat → Int32)} {n : Int} {T : Int → Int} {h : HS} {t : TS} {x : XS} {M : MS} {tb : Int → Int → Int} {wh v : Int} (hw1 : 0 ≤ wh) (hw2 : wh < 3) (hR : repC n T tb) : ∀ iv : Int, 0 ≤ iv → iv ≤ n → ∀ (s : Nat) (hs : s < 512) (hu : elsK (isInS n tb wh) (n - iv).toNat iv s = v), m_Sem X 36 (16, [some (.inr (.inl 0)), some (.inl wh), some (.inl (s : Int)), some (.inl iv)], [], mW (n, T, h, t, x) M, 0, 0) (m_V v (mW (n, T, h, t, x) M)) := by
  have hn := hR.1
  have hl := okN_lo hn
  refine m_down 0 n ?_ ?_
  · intro s hs hu
    show m_Sem X 36 (16, [some (.inr (.inl 0)), some (.inl wh), some (.inl (s : Int)), some (.inl n)], [], mW (n, T, h, t, x) M, 0, 0) _
    refine m_run 4 (ps' := (24, [some (.inr (.inl 0)), some (.inl wh), some (.inl (s : Int)), some (.inl n)], [.inl n, .inl n], mW (n, T, h, t, x) M, 0, 0)) rfl ?_
    refine m_icmp rfl ⟨by omega, by omega⟩ ⟨by omega, by omega⟩ (fun (zc1 : n ≤ n) => ?_) (fun (zc1 : ¬ n ≤ n) => absurd zc1 (not_not_intro (by omega)))
    refine m_run 1 (ps' := (52, [some (.inr (.inl 0)), some (.inl wh), some (.inl (s : Int)), some (.inl n)], [.inl (s : Int)], mW (n, T, h, t, x) M, 0, 0)) rfl ?_
    exact m_ret1 rfl (Or.inl rfl) rfl (m_Vi (by rw [els_end] at hu; exact hu))
  · intro iv hi1 hi2 ih s hs hu
    rw [els_step hi2] at hu
    refine m_run 4 (ps' := (24, [some (.inr (.inl 0)), some (.inl wh), some (.inl (s : Int)), some (.inl iv)], [.inl n, .inl iv], mW (n, T, h, t, x) M, 0, 0)) rfl ?_
    refine m_icmp rfl ⟨by omega, by omega⟩ ⟨by omega, by omega⟩ (fun (zc1 : n ≤ iv) => absurd zc1 (by omega)) (fun (zc1 : ¬ n ≤ iv) => ?_)
    refine m_run 4 (ps' := (33, [some (.inr (.inl 0)), some (.inl wh), some (.inl (s : Int)), some (.inl iv)], [.inl iv, .inl wh, .inr (.inl 2)], mW (n, T, h, t, x) M, 0, 0)) rfl ?_
    refine m_callSF [.inr (.inl 2), .inl wh, .inl iv] [] rfl rfl rfl (k_isin (j := wh) (a := iv) hR (by omega) (by omega) (by omega) (by omega)) ?_
    show m_Sem X 36 (36, [some (.inr (.inl 0)), some (.inl wh), some (.inl (s : Int)), some (.inl iv)], [.inl (bI (isInS n tb wh iv))], mW (n, T, h, t, x) M, 0, 0) _
    refine m_if rfl (bI_R (isInS n tb wh iv)) (fun (zc2 : (bI (isInS n tb wh iv)) = 0) => ?_) (fun (zc2 : ¬ (bI (isInS n tb wh iv)) = 0) => ?_)
    · replace zc2 : (isInS n tb wh iv) = false := bI_e0.mp zc2
      refine m_run 2 (ps' := (16, [some (.inr (.inl 0)), some (.inl wh), some (.inl (s : Int)), some (.inl (iv + 1))], [], mW (n, T, h, t, x) M, 0, 0)) rfl ?_
      refine m_weak [some (.inr (.inl 0)), some (.inl wh), some (.inl (s : Int)), some (.inl (iv + 1))] ⟨rfl, ⟨rfl, ⟨rfl, ⟨rfl, trivial⟩⟩⟩⟩ ?_
      rw [zc2] at hu
      exact ih _ hs hu
    · replace zc2 : (isInS n tb wh iv) = true := bI_n0.mp zc2
      refine m_run 8 (ps' := (16, [some (.inr (.inl 0)), some (.inl wh), some (.inl ((Int32.ofInt (s : Int) ||| Int32.ofInt ((Int32.ofInt 1 <<< (Int32.ofInt iv &&& 31)).toInt)).toInt)), some (.inl (iv + 1))], [], mW (n, T, h, t, x) M, 0, 0)) rfl ?_
      refine m_weak [some (.inr (.inl 0)), some (.inl wh), some (.inl ((Int32.ofInt (s : Int) ||| Int32.ofInt ((Int32.ofInt 1 <<< (Int32.ofInt iv &&& 31)).toInt)).toInt)), some (.inl (iv + 1))] ⟨rfl, ⟨rfl, ⟨rfl, ⟨rfl, trivial⟩⟩⟩⟩ ?_
      rw [zc2] at hu
      have hw := pow9 hi1 (by omega)
      rw [m_shl1 hi1 (by omega), m_or (by omega) (by omega)]
      exact ih _ (or9 hs hw) hu
set_option maxHeartbeats 4000000 in
set_option maxRecDepth 100000 in
theorem k_els {X : Nat × Nat × (Nat → Int32)} {n : Int} {T : Int → Int} {h : HS} {t : TS} {x : XS} {M : MS} {tb : Int → Int → Int} {wh : Int} (hw : m_R wh) (hR : repC n T tb) : m_Run X 36 [.inr (.inl 0), .inl wh] (mW (n, T, h, t, x) M) (m_V (elmS n tb wh) (mW (n, T, h, t, x) M)) := by
  have hn := hR.1
  have hl := okN_lo hn
  show m_Sem X 36 (0, [some (.inr (.inl 0)), some (.inl wh), none, none], [], mW (n, T, h, t, x) M, 0, 0) _
  refine m_run 1 (ps' := (1, [some (.inr (.inl 0)), some (.inl wh), none, none], [.inl wh], mW (n, T, h, t, x) M, 0, 0)) rfl ?_
  refine m_if rfl hw (fun (zc1 : wh < 0) => ?_) (fun (zc1 : ¬ wh < 0) => ?_)
  · refine m_run 1 (ps' := (11, [some (.inr (.inl 0)), some (.inl wh), none, none], [.inl (-1000001)], mW (n, T, h, t, x) M, 0, 0)) rfl ?_
    exact m_ret1 rfl (Or.inl rfl) rfl (m_Vi (by unfold elmS; (repeat' split) <;> first | rfl | (exfalso; omega) | omega | simp_all))
  · refine m_run 2 (ps' := (6, [some (.inr (.inl 0)), some (.inl wh), none, none], [.inl 2, .inl wh], mW (n, T, h, t, x) M, 0, 0)) rfl ?_
    refine m_icmp rfl hw ⟨by omega, by omega⟩ (fun (zc2 : wh ≤ 2) => ?_) (fun (zc2 : ¬ wh ≤ 2) => ?_)
    · refine m_run 4 (ps' := (16, [some (.inr (.inl 0)), some (.inl wh), some (.inl 0), some (.inl 0)], [], mW (n, T, h, t, x) M, 0, 0)) rfl ?_
      refine m_weak [some (.inr (.inl 0)), some (.inl wh), some (.inl 0), some (.inl 0)] ⟨rfl, ⟨rfl, ⟨rfl, ⟨rfl, trivial⟩⟩⟩⟩ ?_
      have e9 : elmS n tb wh = elsK (isInS n tb wh) n.toNat 0 0 := by unfold elmS; rw [if_neg (by omega), if_neg (by omega)]
      rw [e9]
      exact l_els (by omega) (by omega) hR 0 (by omega) (by omega) 0 (by omega) (by rw [z_sub])
    · refine m_run 1 (ps' := (11, [some (.inr (.inl 0)), some (.inl wh), none, none], [.inl (-1000001)], mW (n, T, h, t, x) M, 0, 0)) rfl ?_
      exact m_ret1 rfl (Or.inl rfl) rfl (m_Vi (by unfold elmS; (repeat' split) <;> first | rfl | (exfalso; omega) | omega | simp_all))
end
section
def heldS (n : Int) (tb : Int → Int → Int) : Int := sumF (fun l => if wcode (witS n tb l) = -1 then 1 else 0) 8 0
/-- the bits of k eighths -/
def shB (k : Int) : Int := if k = 0 then 0 else if k = 1 then 1040187392 else if k = 2 then 1048576000 else if k = 3 then 1052770304 else if k = 4 then 1056964608 else if k = 5 then 1059061760 else if k = 6 then 1061158912 else if k = 7 then 1063256064 else 1065353216
theorem heldS_in (n : Int) (tb : Int → Int → Int) : 0 ≤ heldS n tb ∧ heldS n tb ≤ 8 := by
  have h := sum_bound (f := fun l => if wcode (witS n tb l) = -1 then 1 else 0) (B := 1) 8 0 (fun j _ _ => by split <;> decide)
  exact ⟨h.1, by have h2 : heldS n tb ≤ ((8 : Nat) : Int) * 1 := h.2; omega⟩
set_option maxHeartbeats 4000000 in
set_option maxRecDepth 100000 in
theorem k_bits0 {X : Nat × Nat × (Nat → Int32)} {n : Int} {T : Int → Int} {h : HS} {t : TS} {x : XS} {M : MS} : m_Run X 41 [.inr (.inr (.float 0))] (mW (n, T, h, t, x) M) (m_V 0 (mW (n, T, h, t, x) M)) := by
  show m_Sem X 41 (0, [some (.inr (.inr (.float 0))), none, none, none], [], mW (n, T, h, t, x) M, 0, 0) _
  refine m_run 3 (ps' := (3, [some (.inr (.inr (.float 0))), none, none, none], [.inl ((Op.cmpValue (FP.fcmp 0 FP.fconst0) .g).toInt)], mW (n, T, h, t, x) M, 0, 0)) rfl ?_
  refine m_if rfl ⟨by decide +kernel, by decide +kernel⟩ (fun (zc1 : 0 < (Op.cmpValue (FP.fcmp 0 FP.fconst0) .g).toInt) => absurd zc1 (by decide +kernel)) (fun (zc1 : ¬ 0 < (Op.cmpValue (FP.fcmp 0 FP.fconst0) .g).toInt) => ?_)
  refine m_run 1 (ps' := (7, [some (.inr (.inr (.float 0))), none, none, none], [.inl 0], mW (n, T, h, t, x) M, 0, 0)) rfl ?_
  exact m_ret1 rfl (Or.inl rfl) rfl (m_Vi (by decide +kernel))
set_option maxHeartbeats 4000000 in
set_option maxRecDepth 100000 in
theorem k_bits1 {X : Nat × Nat × (Nat → Int32)} {n : Int} {T : Int → Int} {h : HS} {t : TS} {x : XS} {M : MS} : m_Run X 41 [.inr (.inr (.float 1040187392))] (mW (n, T, h, t, x) M) (m_V 1040187392 (mW (n, T, h, t, x) M)) := by
  show m_Sem X 41 (0, [some (.inr (.inr (.float 1040187392))), none, none, none], [], mW (n, T, h, t, x) M, 0, 0) _
  refine m_run 3 (ps' := (3, [some (.inr (.inr (.float 1040187392))), none, none, none], [.inl ((Op.cmpValue (FP.fcmp 1040187392 FP.fconst0) .g).toInt)], mW (n, T, h, t, x) M, 0, 0)) rfl ?_
  refine m_if rfl ⟨by decide +kernel, by decide +kernel⟩ (fun (zc1 : 0 < (Op.cmpValue (FP.fcmp 1040187392 FP.fconst0) .g).toInt) => ?_) (fun (zc1 : ¬ 0 < (Op.cmpValue (FP.fcmp 1040187392 FP.fconst0) .g).toInt) => absurd zc1 (not_not_intro (by decide +kernel)))
  refine m_run 8 (ps' := (18, [some (.inr (.inr (.float 1040187392))), some (.inr (.inr (.float 1040187392))), some (.inl 127), some (.inl 0)], [.inl 126, .inl 0], mW (n, T, h, t, x) M, 0, 0)) rfl ?_
  refine m_icmp rfl ⟨by omega, by omega⟩ ⟨by omega, by omega⟩ (fun (zc2 : 126 ≤ 0) => absurd zc2 (by omega)) (fun (zc2 : ¬ 126 ≤ 0) => ?_)
  refine m_run 3 (ps' := (24, [some (.inr (.inr (.float 1040187392))), some (.inr (.inr (.float 1040187392))), some (.inl 127), some (.inl 0)], [.inl ((Op.cmpValue (FP.fcmp 1040187392 FP.fconst1) .g).toInt)], mW (n, T, h, t, x) M, 0, 0)) rfl ?_
  refine m_if rfl ⟨by decide +kernel, by decide +kernel⟩ (fun (zc3 : 0 ≤ (Op.cmpValue (FP.fcmp 1040187392 FP.fconst1) .g).toInt) => absurd zc3 (by decide +kernel)) (fun (zc3 : ¬ 0 ≤ (Op.cmpValue (FP.fcmp 1040187392 FP.fconst1) .g).toInt) => ?_)
  refine m_run 2 (ps' := (29, [some (.inr (.inr (.float 1040187392))), some (.inr (.inr (.float 1040187392))), some (.inl 127), some (.inl 0)], [.inr (.inr (.float FP.fconst2)), .inr (.inr (.float 1040187392))], mW (n, T, h, t, x) M, 0, 0)) rfl ?_
  refine m_fmul (v := 1048576000) rfl (by decide +kernel) (show vf_n32 1048576000 from by unfold vf_n32; decide +kernel) ?_
  refine m_run 6 (ps' := (18, [some (.inr (.inr (.float 1040187392))), some (.inr (.inr (.float 1048576000))), some (.inl (127 + (-1))), some (.inl (0 + 1))], [.inl 126, .inl (0 + 1)], mW (n, T, h, t, x) M, 0, 0)) rfl ?_
  refine m_icmp rfl ⟨by omega, by omega⟩ ⟨by omega, by omega⟩ (fun (zc4 : 126 ≤ (0 + 1)) => absurd zc4 (by omega)) (fun (zc4 : ¬ 126 ≤ (0 + 1)) => ?_)
  refine m_run 3 (ps' := (24, [some (.inr (.inr (.float 1040187392))), some (.inr (.inr (.float 1048576000))), some (.inl (127 + (-1))), some (.inl (0 + 1))], [.inl ((Op.cmpValue (FP.fcmp 1048576000 FP.fconst1) .g).toInt)], mW (n, T, h, t, x) M, 0, 0)) rfl ?_
  refine m_if rfl ⟨by decide +kernel, by decide +kernel⟩ (fun (zc5 : 0 ≤ (Op.cmpValue (FP.fcmp 1048576000 FP.fconst1) .g).toInt) => absurd zc5 (by decide +kernel)) (fun (zc5 : ¬ 0 ≤ (Op.cmpValue (FP.fcmp 1048576000 FP.fconst1) .g).toInt) => ?_)
  refine m_run 2 (ps' := (29, [some (.inr (.inr (.float 1040187392))), some (.inr (.inr (.float 1048576000))), some (.inl (127 + (-1))), some (.inl (0 + 1))], [.inr (.inr (.float FP.fconst2)), .inr (.inr (.float 1048576000))], mW (n, T, h, t, x) M, 0, 0)) rfl ?_
  refine m_fmul (v := 1056964608) rfl (by decide +kernel) (show vf_n32 1056964608 from by unfold vf_n32; decide +kernel) ?_
  refine m_run 6 (ps' := (18, [some (.inr (.inr (.float 1040187392))), some (.inr (.inr (.float 1056964608))), some (.inl ((127 + (-1)) + (-1))), some (.inl ((0 + 1) + 1))], [.inl 126, .inl ((0 + 1) + 1)], mW (n, T, h, t, x) M, 0, 0)) rfl ?_
  refine m_icmp rfl ⟨by omega, by omega⟩ ⟨by omega, by omega⟩ (fun (zc6 : 126 ≤ ((0 + 1) + 1)) => absurd zc6 (by omega)) (fun (zc6 : ¬ 126 ≤ ((0 + 1) + 1)) => ?_)
  refine m_run 3 (ps' := (24, [some (.inr (.inr (.float 1040187392))), some (.inr (.inr (.float 1056964608))), some (.inl ((127 + (-1)) + (-1))), some (.inl ((0 + 1) + 1))], [.inl ((Op.cmpValue (FP.fcmp 1056964608 FP.fconst1) .g).toInt)], mW (n, T, h, t, x) M, 0, 0)) rfl ?_
  refine m_if rfl ⟨by decide +kernel, by decide +kernel⟩ (fun (zc7 : 0 ≤ (Op.cmpValue (FP.fcmp 1056964608 FP.fconst1) .g).toInt) => absurd zc7 (by decide +kernel)) (fun (zc7 : ¬ 0 ≤ (Op.cmpValue (FP.fcmp 1056964608 FP.fconst1) .g).toInt) => ?_)
  refine m_run 2 (ps' := (29, [some (.inr (.inr (.float 1040187392))), some (.inr (.inr (.float 1056964608))), some (.inl ((127 + (-1)) + (-1))), some (.inl ((0 + 1) + 1))], [.inr (.inr (.float FP.fconst2)), .inr (.inr (.float 1056964608))], mW (n, T, h, t, x) M, 0, 0)) rfl ?_
  refine m_fmul (v := 1065353216) rfl (by decide +kernel) (show vf_n32 1065353216 from by unfold vf_n32; decide +kernel) ?_
  refine m_run 6 (ps' := (18, [some (.inr (.inr (.float 1040187392))), some (.inr (.inr (.float 1065353216))), some (.inl (((127 + (-1)) + (-1)) + (-1))), some (.inl (((0 + 1) + 1) + 1))], [.inl 126, .inl (((0 + 1) + 1) + 1)], mW (n, T, h, t, x) M, 0, 0)) rfl ?_
  refine m_icmp rfl ⟨by omega, by omega⟩ ⟨by omega, by omega⟩ (fun (zc8 : 126 ≤ (((0 + 1) + 1) + 1)) => absurd zc8 (by omega)) (fun (zc8 : ¬ 126 ≤ (((0 + 1) + 1) + 1)) => ?_)
  refine m_run 3 (ps' := (24, [some (.inr (.inr (.float 1040187392))), some (.inr (.inr (.float 1065353216))), some (.inl (((127 + (-1)) + (-1)) + (-1))), some (.inl (((0 + 1) + 1) + 1))], [.inl ((Op.cmpValue (FP.fcmp 1065353216 FP.fconst1) .g).toInt)], mW (n, T, h, t, x) M, 0, 0)) rfl ?_
  refine m_if rfl ⟨by decide +kernel, by decide +kernel⟩ (fun (zc9 : 0 ≤ (Op.cmpValue (FP.fcmp 1065353216 FP.fconst1) .g).toInt) => ?_) (fun (zc9 : ¬ 0 ≤ (Op.cmpValue (FP.fcmp 1065353216 FP.fconst1) .g).toInt) => absurd zc9 (not_not_intro (by decide +kernel)))
  refine m_run 5 (ps' := (46, [some (.inr (.inr (.float 1040187392))), some (.inr (.inr (.float 1065353216))), some (.inl (((127 + (-1)) + (-1)) + (-1))), some (.inl (((0 + 1) + 1) + 1))], [.inr (.inr (.float FP.fconst1)), .inr (.inr (.float 1065353216)), .inl ((Int32.ofInt (((127 + (-1)) + (-1)) + (-1)) <<< (Int32.ofInt 23 &&& 31)).toInt)], mW (n, T, h, t, x) M, 0, 0)) rfl ?_
  refine m_fsub (v := 0) rfl (by decide +kernel) (show vf_n32 0 from by unfold vf_n32; decide +kernel) ?_
  refine m_run 1 (ps' := (49, [some (.inr (.inr (.float 1040187392))), some (.inr (.inr (.float 1065353216))), some (.inl (((127 + (-1)) + (-1)) + (-1))), some (.inl (((0 + 1) + 1) + 1))], [.inr (.inr (.float 1258291200)), .inr (.inr (.float 0)), .inl ((Int32.ofInt (((127 + (-1)) + (-1)) + (-1)) <<< (Int32.ofInt 23 &&& 31)).toInt)], mW (n, T, h, t, x) M, 0, 0)) rfl ?_
  refine m_fmul (v := 0) rfl (by decide +kernel) (show vf_n32 0 from by unfold vf_n32; decide +kernel) ?_
  refine m_run 2 (ps' := (52, [some (.inr (.inr (.float 1040187392))), some (.inr (.inr (.float 1065353216))), some (.inl (((127 + (-1)) + (-1)) + (-1))), some (.inl (((0 + 1) + 1) + 1))], [.inl ((Int32.ofInt (((127 + (-1)) + (-1)) + (-1)) <<< (Int32.ofInt 23 &&& 31)).toInt + (FP.f2i 0).toInt)], mW (n, T, h, t, x) M, 0, 0)) rfl ?_
  exact m_ret1 rfl (Or.inl rfl) rfl (m_Vi (by decide +kernel))
set_option maxHeartbeats 4000000 in
set_option maxRecDepth 100000 in
theorem k_bits2 {X : Nat × Nat × (Nat → Int32)} {n : Int} {T : Int → Int} {h : HS} {t : TS} {x : XS} {M : MS} : m_Run X 41 [.inr (.inr (.float 1048576000))] (mW (n, T, h, t, x) M) (m_V 1048576000 (mW (n, T, h, t, x) M)) := by
  show m_Sem X 41 (0, [some (.inr (.inr (.float 1048576000))), none, none, none], [], mW (n, T, h, t, x) M, 0, 0) _
  refine m_run 3 (ps' := (3, [some (.inr (.inr (.float 1048576000))), none, none, none], [.inl ((Op.cmpValue (FP.fcmp 1048576000 FP.fconst0) .g).toInt)], mW (n, T, h, t, x) M, 0, 0)) rfl ?_
  refine m_if rfl ⟨by decide +kernel, by decide +kernel⟩ (fun (zc1 : 0 < (Op.cmpValue (FP.fcmp 1048576000 FP.fconst0) .g).toInt) => ?_) (fun (zc1 : ¬ 0 < (Op.cmpValue (FP.fcmp 1048576000 FP.fconst0) .g).toInt) => absurd zc1 (not_not_intro (by decide +kernel)))
  refine m_run 8 (ps' := (18, [some (.inr (.inr (.float 1048576000))), some (.inr (.inr (.float 1048576000))), some (.inl 127), some (.inl 0)], [.inl 126, .inl 0], mW (n, T, h, t, x) M, 0, 0)) rfl ?_
  refine m_icmp rfl ⟨by omega, by omega⟩ ⟨by omega, by omega⟩ (fun (zc2 : 126 ≤ 0) => absurd zc2 (by omega)) (fun (zc2 : ¬ 126 ≤ 0) => ?_)
  refine m_run 3 (ps' := (24, [some (.inr (.inr (.float 1048576000))), some (.inr (.inr (.float 1048576000))), some (.inl 127), some (.inl 0)], [.inl ((Op.cmpValue (FP.fcmp 1048576000 FP.fconst1) .g).toInt)], mW (n, T, h, t, x) M, 0, 0)) rfl ?_
  refine m_if rfl ⟨by decide +kernel, by decide +kernel⟩ (fun (zc3 : 0 ≤ (Op.cmpValue (FP.fcmp 1048576000 FP.fconst1) .g).toInt) => absurd zc3 (by decide +kernel)) (fun (zc3 : ¬ 0 ≤ (Op.cmpValue (FP.fcmp 1048576000 FP.fconst1) .g).toInt) => ?_)
  refine m_run 2 (ps' := (29, [some (.inr (.inr (.float 1048576000))), some (.inr (.inr (.float 1048576000))), some (.inl 127), some (.inl 0)], [.inr (.inr (.float FP.fconst2)), .inr (.inr (.float 1048576000))], mW (n, T, h, t, x) M, 0, 0)) rfl ?_
  refine m_fmul (v := 1056964608) rfl (by decide +kernel) (show vf_n32 1056964608 from by unfold vf_n32; decide +kernel) ?_
  refine m_run 6 (ps' := (18, [some (.inr (.inr (.float 1048576000))), some (.inr (.inr (.float 1056964608))), some (.inl (127 + (-1))), some (.inl (0 + 1))], [.inl 126, .inl (0 + 1)], mW (n, T, h, t, x) M, 0, 0)) rfl ?_
  refine m_icmp rfl ⟨by omega, by omega⟩ ⟨by omega, by omega⟩ (fun (zc4 : 126 ≤ (0 + 1)) => absurd zc4 (by omega)) (fun (zc4 : ¬ 126 ≤ (0 + 1)) => ?_)
  refine m_run 3 (ps' := (24, [some (.inr (.inr (.float 1048576000))), some (.inr (.inr (.float 1056964608))), some (.inl (127 + (-1))), some (.inl (0 + 1))], [.inl ((Op.cmpValue (FP.fcmp 1056964608 FP.fconst1) .g).toInt)], mW (n, T, h, t, x) M, 0, 0)) rfl ?_
  refine m_if rfl ⟨by decide +kernel, by decide +kernel⟩ (fun (zc5 : 0 ≤ (Op.cmpValue (FP.fcmp 1056964608 FP.fconst1) .g).toInt) => absurd zc5 (by decide +kernel)) (fun (zc5 : ¬ 0 ≤ (Op.cmpValue (FP.fcmp 1056964608 FP.fconst1) .g).toInt) => ?_)
  refine m_run 2 (ps' := (29, [some (.inr (.inr (.float 1048576000))), some (.inr (.inr (.float 1056964608))), some (.inl (127 + (-1))), some (.inl (0 + 1))], [.inr (.inr (.float FP.fconst2)), .inr (.inr (.float 1056964608))], mW (n, T, h, t, x) M, 0, 0)) rfl ?_
  refine m_fmul (v := 1065353216) rfl (by decide +kernel) (show vf_n32 1065353216 from by unfold vf_n32; decide +kernel) ?_
  refine m_run 6 (ps' := (18, [some (.inr (.inr (.float 1048576000))), some (.inr (.inr (.float 1065353216))), some (.inl ((127 + (-1)) + (-1))), some (.inl ((0 + 1) + 1))], [.inl 126, .inl ((0 + 1) + 1)], mW (n, T, h, t, x) M, 0, 0)) rfl ?_
  refine m_icmp rfl ⟨by omega, by omega⟩ ⟨by omega, by omega⟩ (fun (zc6 : 126 ≤ ((0 + 1) + 1)) => absurd zc6 (by omega)) (fun (zc6 : ¬ 126 ≤ ((0 + 1) + 1)) => ?_)
  refine m_run 3 (ps' := (24, [some (.inr (.inr (.float 1048576000))), some (.inr (.inr (.float 1065353216))), some (.inl ((127 + (-1)) + (-1))), some (.inl ((0 + 1) + 1))], [.inl ((Op.cmpValue (FP.fcmp 1065353216 FP.fconst1) .g).toInt)], mW (n, T, h, t, x) M, 0, 0)) rfl ?_
  refine m_if rfl ⟨by decide +kernel, by decide +kernel⟩ (fun (zc7 : 0 ≤ (Op.cmpValue (FP.fcmp 1065353216 FP.fconst1) .g).toInt) => ?_) (fun (zc7 : ¬ 0 ≤ (Op.cmpValue (FP.fcmp 1065353216 FP.fconst1) .g).toInt) => absurd zc7 (not_not_intro (by decide +kernel)))
  refine m_run 5 (ps' := (46, [some (.inr (.inr (.float 1048576000))), some (.inr (.inr (.float 1065353216))), some (.inl ((127 + (-1)) + (-1))), some (.inl ((0 + 1) + 1))], [.inr (.inr (.float FP.fconst1)), .inr (.inr (.float 1065353216)), .inl ((Int32.ofInt ((127 + (-1)) + (-1)) <<< (Int32.ofInt 23 &&& 31)).toInt)], mW (n, T, h, t, x) M, 0, 0)) rfl ?_
  refine m_fsub (v := 0) rfl (by decide +kernel) (show vf_n32 0 from by unfold vf_n32; decide +kernel) ?_
  refine m_run 1 (ps' := (49, [some (.inr (.inr (.float 1048576000))), some (.inr (.inr (.float 1065353216))), some (.inl ((127 + (-1)) + (-1))), some (.inl ((0 + 1) + 1))], [.inr (.inr (.float 1258291200)), .inr (.inr (.float 0)), .inl ((Int32.ofInt ((127 + (-1)) + (-1)) <<< (Int32.ofInt 23 &&& 31)).toInt)], mW (n, T, h, t, x) M, 0, 0)) rfl ?_
  refine m_fmul (v := 0) rfl (by decide +kernel) (show vf_n32 0 from by unfold vf_n32; decide +kernel) ?_
  refine m_run 2 (ps' := (52, [some (.inr (.inr (.float 1048576000))), some (.inr (.inr (.float 1065353216))), some (.inl ((127 + (-1)) + (-1))), some (.inl ((0 + 1) + 1))], [.inl ((Int32.ofInt ((127 + (-1)) + (-1)) <<< (Int32.ofInt 23 &&& 31)).toInt + (FP.f2i 0).toInt)], mW (n, T, h, t, x) M, 0, 0)) rfl ?_
  exact m_ret1 rfl (Or.inl rfl) rfl (m_Vi (by decide +kernel))
set_option maxHeartbeats 4000000 in
set_option maxRecDepth 100000 in
theorem k_bits3 {X : Nat × Nat × (Nat → Int32)} {n : Int} {T : Int → Int} {h : HS} {t : TS} {x : XS} {M : MS} : m_Run X 41 [.inr (.inr (.float 1052770304))] (mW (n, T, h, t, x) M) (m_V 1052770304 (mW (n, T, h, t, x) M)) := by
  show m_Sem X 41 (0, [some (.inr (.inr (.float 1052770304))), none, none, none], [], mW (n, T, h, t, x) M, 0, 0) _
  refine m_run 3 (ps' := (3, [some (.inr (.inr (.float 1052770304))), none, none, none], [.inl ((Op.cmpValue (FP.fcmp 1052770304 FP.fconst0) .g).toInt)], mW (n, T, h, t, x) M, 0, 0)) rfl ?_
  refine m_if rfl ⟨by decide +kernel, by decide +kernel⟩ (fun (zc1 : 0 < (Op.cmpValue (FP.fcmp 1052770304 FP.fconst0) .g).toInt) => ?_) (fun (zc1 : ¬ 0 < (Op.cmpValue (FP.fcmp 1052770304 FP.fconst0) .g).toInt) => absurd zc1 (not_not_intro (by decide +kernel)))
  refine m_run 8 (ps' := (18, [some (.inr (.inr (.float 1052770304))), some (.inr (.inr (.float 1052770304))), some (.inl 127), some (.inl 0)], [.inl 126, .inl 0], mW (n, T, h, t, x) M, 0, 0)) rfl ?_
  refine m_icmp rfl ⟨by omega, by omega⟩ ⟨by omega, by omega⟩ (fun (zc2 : 126 ≤ 0) => absurd zc2 (by omega)) (fun (zc2 : ¬ 126 ≤ 0) => ?_)
  refine m_run 3 (ps' := (24, [some (.inr (.inr (.float 1052770304))), some (.inr (.inr (.float 1052770304))), some (.inl 127), some (.inl 0)], [.inl ((Op.cmpValue (FP.fcmp 1052770304 FP.fconst1) .g).toInt)], mW (n, T, h, t, x) M, 0, 0)) rfl ?_
  refine m_if rfl ⟨by decide +kernel, by decide +kernel⟩ (fun (zc3 : 0 ≤ (Op.cmpValue (FP.fcmp 1052770304 FP.fconst1) .g).toInt) => absurd zc3 (by decide +kernel)) (fun (zc3 : ¬ 0 ≤ (Op.cmpValue (FP.fcmp 1052770304 FP.fconst1) .g).toInt) => ?_)
  refine m_run 2 (ps' := (29, [some (.inr (.inr (.float 1052770304))), some (.inr (.inr (.float 1052770304))), some (.inl 127), some (.inl 0)], [.inr (.inr (.float FP.fconst2)), .inr (.inr (.float 1052770304))], mW (n, T, h, t, x) M, 0, 0)) rfl ?_
  refine m_fmul (v := 1061158912) rfl (by decide +kernel) (show vf_n32 1061158912 from by unfold vf_n32; decide +kernel) ?_
  refine m_run 6 (ps' := (18, [some (.inr (.inr (.float 1052770304))), some (.inr (.inr (.float 1061158912))), some (.inl (127 + (-1))), some (.inl (0 + 1))], [.inl 126, .inl (0 + 1)], mW (n, T, h, t, x) M, 0, 0)) rfl ?_
  refine m_icmp rfl ⟨by omega, by omega⟩ ⟨by omega, by omega⟩ (fun (zc4 : 126 ≤ (0 + 1)) => absurd zc4 (by omega)) (fun (zc4 : ¬ 126 ≤ (0 + 1)) => ?_)
  refine m_run 3 (ps' := (24, [some (.inr (.inr (.float 1052770304))), some (.inr (.inr (.float 1061158912))), some (.inl (127 + (-1))), some (.inl (0 + 1))], [.inl ((Op.cmpValue (FP.fcmp 1061158912 FP.fconst1) .g).toInt)], mW (n, T, h, t, x) M, 0, 0)) rfl ?_
  refine m_if rfl ⟨by decide +kernel, by decide +kernel⟩ (fun (zc5 : 0 ≤ (Op.cmpValue (FP.fcmp 1061158912 FP.fconst1) .g).toInt) => absurd zc5 (by decide +kernel)) (fun (zc5 : ¬ 0 ≤ (Op.cmpValue (FP.fcmp 1061158912 FP.fconst1) .g).toInt) => ?_)
  refine m_run 2 (ps' := (29, [some (.inr (.inr (.float 1052770304))), some (.inr (.inr (.float 1061158912))), some (.inl (127 + (-1))), some (.inl (0 + 1))], [.inr (.inr (.float FP.fconst2)), .inr (.inr (.float 1061158912))], mW (n, T, h, t, x) M, 0, 0)) rfl ?_
  refine m_fmul (v := 1069547520) rfl (by decide +kernel) (show vf_n32 1069547520 from by unfold vf_n32; decide +kernel) ?_
  refine m_run 6 (ps' := (18, [some (.inr (.inr (.float 1052770304))), some (.inr (.inr (.float 1069547520))), some (.inl ((127 + (-1)) + (-1))), some (.inl ((0 + 1) + 1))], [.inl 126, .inl ((0 + 1) + 1)], mW (n, T, h, t, x) M, 0, 0)) rfl ?_
  refine m_icmp rfl ⟨by omega, by omega⟩ ⟨by omega, by omega⟩ (fun (zc6 : 126 ≤ ((0 + 1) + 1)) => absurd zc6 (by omega)) (fun (zc6 : ¬ 126 ≤ ((0 + 1) + 1)) => ?_)
  refine m_run 3 (ps' := (24, [some (.inr (.inr (.float 1052770304))), some (.inr (.inr (.float 1069547520))), some (.inl ((127 + (-1)) + (-1))), some (.inl ((0 + 1) + 1))], [.inl ((Op.cmpValue (FP.fcmp 1069547520 FP.fconst1) .g).toInt)], mW (n, T, h, t, x) M, 0, 0)) rfl ?_
  refine m_if rfl ⟨by decide +kernel, by decide +kernel⟩ (fun (zc7 : 0 ≤ (Op.cmpValue (FP.fcmp 1069547520 FP.fconst1) .g).toInt) => ?_) (fun (zc7 : ¬ 0 ≤ (Op.cmpValue (FP.fcmp 1069547520 FP.fconst1) .g).toInt) => absurd zc7 (not_not_intro (by decide +kernel)))
  refine m_run 5 (ps' := (46, [some (.inr (.inr (.float 1052770304))), some (.inr (.inr (.float 1069547520))), some (.inl ((127 + (-1)) + (-1))), some (.inl ((0 + 1) + 1))], [.inr (.inr (.float FP.fconst1)), .inr (.inr (.float 1069547520)), .inl ((Int32.ofInt ((127 + (-1)) + (-1)) <<< (Int32.ofInt 23 &&& 31)).toInt)], mW (n, T, h, t, x) M, 0, 0)) rfl ?_
  refine m_fsub (v := 1056964608) rfl (by decide +kernel) (show vf_n32 1056964608 from by unfold vf_n32; decide +kernel) ?_
  refine m_run 1 (ps' := (49, [some (.inr (.inr (.float 1052770304))), some (.inr (.inr (.float 1069547520))), some (.inl ((127 + (-1)) + (-1))), some (.inl ((0 + 1) + 1))], [.inr (.inr (.float 1258291200)), .inr (.inr (.float 1056964608)), .inl ((Int32.ofInt ((127 + (-1)) + (-1)) <<< (Int32.ofInt 23 &&& 31)).toInt)], mW (n, T, h, t, x) M, 0, 0)) rfl ?_
  refine m_fmul (v := 1249902592) rfl (by decide +kernel) (show vf_n32 1249902592 from by unfold vf_n32; decide +kernel) ?_
  refine m_run 2 (ps' := (52, [some (.inr (.inr (.float 1052770304))), some (.inr (.inr (.float 1069547520))), some (.inl ((127 + (-1)) + (-1))), some (.inl ((0 + 1) + 1))], [.inl ((Int32.ofInt ((127 + (-1)) + (-1)) <<< (Int32.ofInt 23 &&& 31)).toInt + (FP.f2i 1249902592).toInt)], mW (n, T, h, t, x) M, 0, 0)) rfl ?_
  exact m_ret1 rfl (Or.inl rfl) rfl (m_Vi (by decide +kernel))
set_option maxHeartbeats 4000000 in
set_option maxRecDepth 100000 in
theorem k_bits4 {X : Nat × Nat × (Nat → Int32)} {n : Int} {T : Int → Int} {h : HS} {t : TS} {x : XS} {M : MS} : m_Run X 41 [.inr (.inr (.float 1056964608))] (mW (n, T, h, t, x) M) (m_V 1056964608 (mW (n, T, h, t, x) M)) := by
  show m_Sem X 41 (0, [some (.inr (.inr (.float 1056964608))), none, none, none], [], mW (n, T, h, t, x) M, 0, 0) _
  refine m_run 3 (ps' := (3, [some (.inr (.inr (.float 1056964608))), none, none, none], [.inl ((Op.cmpValue (FP.fcmp 1056964608 FP.fconst0) .g).toInt)], mW (n, T, h, t, x) M, 0, 0)) rfl ?_
  refine m_if rfl ⟨by decide +kernel, by decide +kernel⟩ (fun (zc1 : 0 < (Op.cmpValue (FP.fcmp 1056964608 FP.fconst0) .g).toInt) => ?_) (fun (zc1 : ¬ 0 < (Op.cmpValue (FP.fcmp 1056964608 FP.fconst0) .g).toInt) => absurd zc1 (not_not_intro (by decide +kernel)))
  refine m_run 8 (ps' := (18, [some (.inr (.inr (.float 1056964608))), some (.inr (.inr (.float 1056964608))), some (.inl 127), some (.inl 0)], [.inl 126, .inl 0], mW (n, T, h, t, x) M, 0, 0)) rfl ?_
  refine m_icmp rfl ⟨by omega, by omega⟩ ⟨by omega, by omega⟩ (fun (zc2 : 126 ≤ 0) => absurd zc2 (by omega)) (fun (zc2 : ¬ 126 ≤ 0) => ?_)
  refine m_run 3 (ps' := (24, [some (.inr (.inr (.float 1056964608))), some (.inr (.inr (.float 1056964608))), some (.inl 127), some (.inl 0)], [.inl ((Op.cmpValue (FP.fcmp 1056964608 FP.fconst1) .g).toInt)], mW (n, T, h, t, x) M, 0, 0)) rfl ?_
  refine m_if rfl ⟨by decide +kernel, by decide +kernel⟩ (fun (zc3 : 0 ≤ (Op.cmpValue (FP.fcmp 1056964608 FP.fconst1) .g).toInt) => absurd zc3 (by decide +kernel)) (fun (zc3 : ¬ 0 ≤ (Op.cmpValue (FP.fcmp 1056964608 FP.fconst1) .g).toInt) => ?_)
  refine m_run 2 (ps' := (29, [some (.inr (.inr (.float 1056964608))), some (.inr (.inr (.float 1056964608))), some (.inl 127), some (.inl 0)], [.inr (.inr (.float FP.fconst2)), .inr (.inr (.float 1056964608))], mW (n, T, h, t, x) M, 0, 0)) rfl ?_
  refine m_fmul (v := 1065353216) rfl (by decide +kernel) (show vf_n32 1065353216 from by unfold vf_n32; decide +kernel) ?_
  refine m_run 6 (ps' := (18, [some (.inr (.inr (.float 1056964608))), some (.inr (.inr (.float 1065353216))), some (.inl (127 + (-1))), some (.inl (0 + 1))], [.inl 126, .inl (0 + 1)], mW (n, T, h, t, x) M, 0, 0)) rfl ?_
  refine m_icmp rfl ⟨by omega, by omega⟩ ⟨by omega, by omega⟩ (fun (zc4 : 126 ≤ (0 + 1)) => absurd zc4 (by omega)) (fun (zc4 : ¬ 126 ≤ (0 + 1)) => ?_)
  refine m_run 3 (ps' := (24, [some (.inr (.inr (.float 1056964608))), some (.inr (.inr (.float 1065353216))), some (.inl (127 + (-1))), some (.inl (0 + 1))], [.inl ((Op.cmpValue (FP.fcmp 1065353216 FP.fconst1) .g).toInt)], mW (n, T, h, t, x) M, 0, 0)) rfl ?_
  refine m_if rfl ⟨by decide +kernel, by decide +kernel⟩ (fun (zc5 : 0 ≤ (Op.cmpValue (FP.fcmp 1065353216 FP.fconst1) .g).toInt) => ?_) (fun (zc5 : ¬ 0 ≤ (Op.cmpValue (FP.fcmp 1065353216 FP.fconst1) .g).toInt) => absurd zc5 (not_not_intro (by decide +kernel)))
  refine m_run 5 (ps' := (46, [some (.inr (.inr (.float 1056964608))), some (.inr (.inr (.float 1065353216))), some (.inl (127 + (-1))), some (.inl (0 + 1))], [.inr (.inr (.float FP.fconst1)), .inr (.inr (.float 1065353216)), .inl ((Int32.ofInt (127 + (-1)) <<< (Int32.ofInt 23 &&& 31)).toInt)], mW (n, T, h, t, x) M, 0, 0)) rfl ?_
  refine m_fsub (v := 0) rfl (by decide +kernel) (show vf_n32 0 from by unfold vf_n32; decide +kernel) ?_
  refine m_run 1 (ps' := (49, [some (.inr (.inr (.float 1056964608))), some (.inr (.inr (.float 1065353216))), some (.inl (127 + (-1))), some (.inl (0 + 1))], [.inr (.inr (.float 1258291200)), .inr (.inr (.float 0)), .inl ((Int32.ofInt (127 + (-1)) <<< (Int32.ofInt 23 &&& 31)).toInt)], mW (n, T, h, t, x) M, 0, 0)) rfl ?_
  refine m_fmul (v := 0) rfl (by decide +kernel) (show vf_n32 0 from by unfold vf_n32; decide +kernel) ?_
  refine m_run 2 (ps' := (52, [some (.inr (.inr (.float 1056964608))), some (.inr (.inr (.float 1065353216))), some (.inl (127 + (-1))), some (.inl (0 + 1))], [.inl ((Int32.ofInt (127 + (-1)) <<< (Int32.ofInt 23 &&& 31)).toInt + (FP.f2i 0).toInt)], mW (n, T, h, t, x) M, 0, 0)) rfl ?_
  exact m_ret1 rfl (Or.inl rfl) rfl (m_Vi (by decide +kernel))
set_option maxHeartbeats 4000000 in
set_option maxRecDepth 100000 in
theorem k_bits5 {X : Nat × Nat × (Nat → Int32)} {n : Int} {T : Int → Int} {h : HS} {t : TS} {x : XS} {M : MS} : m_Run X 41 [.inr (.inr (.float 1059061760))] (mW (n, T, h, t, x) M) (m_V 1059061760 (mW (n, T, h, t, x) M)) := by
  show m_Sem X 41 (0, [some (.inr (.inr (.float 1059061760))), none, none, none], [], mW (n, T, h, t, x) M, 0, 0) _
  refine m_run 3 (ps' := (3, [some (.inr (.inr (.float 1059061760))), none, none, none], [.inl ((Op.cmpValue (FP.fcmp 1059061760 FP.fconst0) .g).toInt)], mW (n, T, h, t, x) M, 0, 0)) rfl ?_
  refine m_if rfl ⟨by decide +kernel, by decide +kernel⟩ (fun (zc1 : 0 < (Op.cmpValue (FP.fcmp 1059061760 FP.fconst0) .g).toInt) => ?_) (fun (zc1 : ¬ 0 < (Op.cmpValue (FP.fcmp 1059061760 FP.fconst0) .g).toInt) => absurd zc1 (not_not_intro (by decide +kernel)))
  refine m_run 8 (ps' := (18, [some (.inr (.inr (.float 1059061760))), some (.inr (.inr (.float 1059061760))), some (.inl 127), some (.inl 0)], [.inl 126, .inl 0], mW (n, T, h, t, x) M, 0, 0)) rfl ?_
  refine m_icmp rfl ⟨by omega, by omega⟩ ⟨by omega, by omega⟩ (fun (zc2 : 126 ≤ 0) => absurd zc2 (by omega)) (fun (zc2 : ¬ 126 ≤ 0) => ?_)
  refine m_run 3 (ps' := (24, [some (.inr (.inr (.float 1059061760))), some (.inr (.inr (.float 1059061760))), some (.inl 127), some (.inl 0)], [.inl ((Op.cmpValue (FP.fcmp 1059061760 FP.fconst1) .g).toInt)], mW (n, T, h, t, x) M, 0, 0)) rfl ?_
  refine m_if rfl ⟨by decide +kernel, by decide +kernel⟩ (fun (zc3 : 0 ≤ (Op.cmpValue (FP.fcmp 1059061760 FP.fconst1) .g).toInt) => absurd zc3 (by decide +kernel)) (fun (zc3 : ¬ 0 ≤ (Op.cmpValue (FP.fcmp 1059061760 FP.fconst1) .g).toInt) => ?_)
  refine m_run 2 (ps' := (29, [some (.inr (.inr (.float 1059061760))), some (.inr (.inr (.float 1059061760))), some (.inl 127), some (.inl 0)], [.inr (.inr (.float FP.fconst2)), .inr (.inr (.float 1059061760))], mW (n, T, h, t, x) M, 0, 0)) rfl ?_
  refine m_fmul (v := 1067450368) rfl (by decide +kernel) (show vf_n32 1067450368 from by unfold vf_n32; decide +kernel) ?_
  refine m_run 6 (ps' := (18, [some (.inr (.inr (.float 1059061760))), some (.inr (.inr (.float 1067450368))), some (.inl (127 + (-1))), some (.inl (0 + 1))], [.inl 126, .inl (0 + 1)], mW (n, T, h, t, x) M, 0, 0)) rfl ?_
  refine m_icmp rfl ⟨by omega, by omega⟩ ⟨by omega, by omega⟩ (fun (zc4 : 126 ≤ (0 + 1)) => absurd zc4 (by omega)) (fun (zc4 : ¬ 126 ≤ (0 + 1)) => ?_)
  refine m_run 3 (ps' := (24, [some (.inr (.inr (.float 1059061760))), some (.inr (.inr (.float 1067450368))), some (.inl (127 + (-1))), some (.inl (0 + 1))], [.inl ((Op.cmpValue (FP.fcmp 1067450368 FP.fconst1) .g).toInt)], mW (n, T, h, t, x) M, 0, 0)) rfl ?_
  refine m_if rfl ⟨by decide +kernel, by decide +kernel⟩ (fun (zc5 : 0 ≤ (Op.cmpValue (FP.fcmp 1067450368 FP.fconst1) .g).toInt) => ?_) (fun (zc5 : ¬ 0 ≤ (Op.cmpValue (FP.fcmp 1067450368 FP.fconst1) .g).toInt) => absurd zc5 (not_not_intro (by decide +kernel)))
  refine m_run 5 (ps' := (46, [some (.inr (.inr (.float 1059061760))), some (.inr (.inr (.float 1067450368))), some (.inl (127 + (-1))), some (.inl (0 + 1))], [.inr (.inr (.float FP.fconst1)), .inr (.inr (.float 1067450368)), .inl ((Int32.ofInt (127 + (-1)) <<< (Int32.ofInt 23 &&& 31)).toInt)], mW (n, T, h, t, x) M, 0, 0)) rfl ?_
  refine m_fsub (v := 1048576000) rfl (by decide +kernel) (show vf_n32 1048576000 from by unfold vf_n32; decide +kernel) ?_
  refine m_run 1 (ps' := (49, [some (.inr (.inr (.float 1059061760))), some (.inr (.inr (.float 1067450368))), some (.inl (127 + (-1))), some (.inl (0 + 1))], [.inr (.inr (.float 1258291200)), .inr (.inr (.float 1048576000)), .inl ((Int32.ofInt (127 + (-1)) <<< (Int32.ofInt 23 &&& 31)).toInt)], mW (n, T, h, t, x) M, 0, 0)) rfl ?_
  refine m_fmul (v := 1241513984) rfl (by decide +kernel) (show vf_n32 1241513984 from by unfold vf_n32; decide +kernel) ?_
  refine m_run 2 (ps' := (52, [some (.inr (.inr (.float 1059061760))), some (.inr (.inr (.float 1067450368))), some (.inl (127 + (-1))), some (.inl (0 + 1))], [.inl ((Int32.ofInt (127 + (-1)) <<< (Int32.ofInt 23 &&& 31)).toInt + (FP.f2i 1241513984).toInt)], mW (n, T, h, t, x) M, 0, 0)) rfl ?_
  exact m_ret1 rfl (Or.inl rfl) rfl (m_Vi (by decide +kernel))
set_option maxHeartbeats 4000000 in
set_option maxRecDepth 100000 in
theorem k_bits6 {X : Nat × Nat × (Nat → Int32)} {n : Int} {T : Int → Int} {h : HS} {t : TS} {x : XS} {M : MS} : m_Run X 41 [.inr (.inr (.float 1061158912))] (mW (n, T, h, t, x) M) (m_V 1061158912 (mW (n, T, h, t, x) M)) := by
  show m_Sem X 41 (0, [some (.inr (.inr (.float 1061158912))), none, none, none], [], mW (n, T, h, t, x) M, 0, 0) _
  refine m_run 3 (ps' := (3, [some (.inr (.inr (.float 1061158912))), none, none, none], [.inl ((Op.cmpValue (FP.fcmp 1061158912 FP.fconst0) .g).toInt)], mW (n, T, h, t, x) M, 0, 0)) rfl ?_
  refine m_if rfl ⟨by decide +kernel, by decide +kernel⟩ (fun (zc1 : 0 < (Op.cmpValue (FP.fcmp 1061158912 FP.fconst0) .g).toInt) => ?_) (fun (zc1 : ¬ 0 < (Op.cmpValue (FP.fcmp 1061158912 FP.fconst0) .g).toInt) => absurd zc1 (not_not_intro (by decide +kernel)))
  refine m_run 8 (ps' := (18, [some (.inr (.inr (.float 1061158912))), some (.inr (.inr (.float 1061158912))), some (.inl 127), some (.inl 0)], [.inl 126, .inl 0], mW (n, T, h, t, x) M, 0, 0)) rfl ?_
  refine m_icmp rfl ⟨by omega, by omega⟩ ⟨by omega, by omega⟩ (fun (zc2 : 126 ≤ 0) => absurd zc2 (by omega)) (fun (zc2 : ¬ 126 ≤ 0) => ?_)
  refine m_run 3 (ps' := (24, [some (.inr (.inr (.float 1061158912))), some (.inr (.inr (.float 1061158912))), some (.inl 127), some (.inl 0)], [.inl ((Op.cmpValue (FP.fcmp 1061158912 FP.fconst1) .g).toInt)], mW (n, T, h, t, x) M, 0, 0)) rfl ?_
  refine m_if rfl ⟨by decide +kernel, by decide +kernel⟩ (fun (zc3 : 0 ≤ (Op.cmpValue (FP.fcmp 1061158912 FP.fconst1) .g).toInt) => absurd zc3 (by decide +kernel)) (fun (zc3 : ¬ 0 ≤ (Op.cmpValue (FP.fcmp 1061158912 FP.fconst1) .g).toInt) => ?_)
  refine m_run 2 (ps' := (29, [some (.inr (.inr (.float 1061158912))), some (.inr (.inr (.float 1061158912))), some (.inl 127), some (.inl 0)], [.inr (.inr (.float FP.fconst2)), .inr (.inr (.float 1061158912))], mW (n, T, h, t, x) M, 0, 0)) rfl ?_
  refine m_fmul (v := 1069547520) rfl (by decide +kernel) (show vf_n32 1069547520 from by unfold vf_n32; decide +kernel) ?_
  refine m_run 6 (ps' := (18, [some (.inr (.inr (.float 1061158912))), some (.inr (.inr (.float 1069547520))), some (.inl (127 + (-1))), some (.inl (0 + 1))], [.inl 126, .inl (0 + 1)], mW (n, T, h, t, x) M, 0, 0)) rfl ?_
  refine m_icmp rfl ⟨by omega, by omega⟩ ⟨by omega, by omega⟩ (fun (zc4 : 126 ≤ (0 + 1)) => absurd zc4 (by omega)) (fun (zc4 : ¬ 126 ≤ (0 + 1)) => ?_)
  refine m_run 3 (ps' := (24, [some (.inr (.inr (.float 1061158912))), some (.inr (.inr (.float 1069547520))), some (.inl (127 + (-1))), some (.inl (0 + 1))], [.inl ((Op.cmpValue (FP.fcmp 1069547520 FP.fconst1) .g).toInt)], mW (n, T, h, t, x) M, 0, 0)) rfl ?_
  refine m_if rfl ⟨by decide +kernel, by decide +kernel⟩ (fun (zc5 : 0 ≤ (Op.cmpValue (FP.fcmp 1069547520 FP.fconst1) .g).toInt) => ?_) (fun (zc5 : ¬ 0 ≤ (Op.cmpValue (FP.fcmp 1069547520 FP.fconst1) .g).toInt) => absurd zc5 (not_not_intro (by decide +kernel)))
  refine m_run 5 (ps' := (46, [some (.inr (.inr (.float 1061158912))), some (.inr (.inr (.float 1069547520))), some (.inl (127 + (-1))), some (.inl (0 + 1))], [.inr (.inr (.float FP.fconst1)), .inr (.inr (.float 1069547520)), .inl ((Int32.ofInt (127 + (-1)) <<< (Int32.ofInt 23 &&& 31)).toInt)], mW (n, T, h, t, x) M, 0, 0)) rfl ?_
  refine m_fsub (v := 1056964608) rfl (by decide +kernel) (show vf_n32 1056964608 from by unfold vf_n32; decide +kernel) ?_
  refine m_run 1 (ps' := (49, [some (.inr (.inr (.float 1061158912))), some (.inr (.inr (.float 1069547520))), some (.inl (127 + (-1))), some (.inl (0 + 1))], [.inr (.inr (.float 1258291200)), .inr (.inr (.float 1056964608)), .inl ((Int32.ofInt (127 + (-1)) <<< (Int32.ofInt 23 &&& 31)).toInt)], mW (n, T, h, t, x) M, 0, 0)) rfl ?_
  refine m_fmul (v := 1249902592) rfl (by decide +kernel) (show vf_n32 1249902592 from by unfold vf_n32; decide +kernel) ?_
  refine m_run 2 (ps' := (52, [some (.inr (.inr (.float 1061158912))), some (.inr (.inr (.float 1069547520))), some (.inl (127 + (-1))), some (.inl (0 + 1))], [.inl ((Int32.ofInt (127 + (-1)) <<< (Int32.ofInt 23 &&& 31)).toInt + (FP.f2i 1249902592).toInt)], mW (n, T, h, t, x) M, 0, 0)) rfl ?_
  exact m_ret1 rfl (Or.inl rfl) rfl (m_Vi (by decide +kernel))
set_option maxHeartbeats 4000000 in
set_option maxRecDepth 100000 in
theorem k_bits7 {X : Nat × Nat × (Nat → Int32)} {n : Int} {T : Int → Int} {h : HS} {t : TS} {x : XS} {M : MS} : m_Run X 41 [.inr (.inr (.float 1063256064))] (mW (n, T, h, t, x) M) (m_V 1063256064 (mW (n, T, h, t, x) M)) := by
  show m_Sem X 41 (0, [some (.inr (.inr (.float 1063256064))), none, none, none], [], mW (n, T, h, t, x) M, 0, 0) _
  refine m_run 3 (ps' := (3, [some (.inr (.inr (.float 1063256064))), none, none, none], [.inl ((Op.cmpValue (FP.fcmp 1063256064 FP.fconst0) .g).toInt)], mW (n, T, h, t, x) M, 0, 0)) rfl ?_
  refine m_if rfl ⟨by decide +kernel, by decide +kernel⟩ (fun (zc1 : 0 < (Op.cmpValue (FP.fcmp 1063256064 FP.fconst0) .g).toInt) => ?_) (fun (zc1 : ¬ 0 < (Op.cmpValue (FP.fcmp 1063256064 FP.fconst0) .g).toInt) => absurd zc1 (not_not_intro (by decide +kernel)))
  refine m_run 8 (ps' := (18, [some (.inr (.inr (.float 1063256064))), some (.inr (.inr (.float 1063256064))), some (.inl 127), some (.inl 0)], [.inl 126, .inl 0], mW (n, T, h, t, x) M, 0, 0)) rfl ?_
  refine m_icmp rfl ⟨by omega, by omega⟩ ⟨by omega, by omega⟩ (fun (zc2 : 126 ≤ 0) => absurd zc2 (by omega)) (fun (zc2 : ¬ 126 ≤ 0) => ?_)
  refine m_run 3 (ps' := (24, [some (.inr (.inr (.float 1063256064))), some (.inr (.inr (.float 1063256064))), some (.inl 127), some (.inl 0)], [.inl ((Op.cmpValue (FP.fcmp 1063256064 FP.fconst1) .g).toInt)], mW (n, T, h, t, x) M, 0, 0)) rfl ?_
  refine m_if rfl ⟨by decide +kernel, by decide +kernel⟩ (fun (zc3 : 0 ≤ (Op.cmpValue (FP.fcmp 1063256064 FP.fconst1) .g).toInt) => absurd zc3 (by decide +kernel)) (fun (zc3 : ¬ 0 ≤ (Op.cmpValue (FP.fcmp 1063256064 FP.fconst1) .g).toInt) => ?_)
  refine m_run 2 (ps' := (29, [some (.inr (.inr (.float 1063256064))), some (.inr (.inr (.float 1063256064))), some (.inl 127), some (.inl 0)], [.inr (.inr (.float FP.fconst2)), .inr (.inr (.float 1063256064))], mW (n, T, h, t, x) M, 0, 0)) rfl ?_
  refine m_fmul (v := 1071644672) rfl (by decide +kernel) (show vf_n32 1071644672 from by unfold vf_n32; decide +kernel) ?_
  refine m_run 6 (ps' := (18, [some (.inr (.inr (.float 1063256064))), some (.inr (.inr (.float 1071644672))), some (.inl (127 + (-1))), some (.inl (0 + 1))], [.inl 126, .inl (0 + 1)], mW (n, T, h, t, x) M, 0, 0)) rfl ?_
  refine m_icmp rfl ⟨by omega, by omega⟩ ⟨by omega, by omega⟩ (fun (zc4 : 126 ≤ (0 + 1)) => absurd zc4 (by omega)) (fun (zc4 : ¬ 126 ≤ (0 + 1)) => ?_)
  refine m_run 3 (ps' := (24, [some (.inr (.inr (.float 1063256064))), some (.inr (.inr (.float 1071644672))), some (.inl (127 + (-1))), some (.inl (0 + 1))], [.inl ((Op.cmpValue (FP.fcmp 1071644672 FP.fconst1) .g).toInt)], mW (n, T, h, t, x) M, 0, 0)) rfl ?_
  refine m_if rfl ⟨by decide +kernel, by decide +kernel⟩ (fun (zc5 : 0 ≤ (Op.cmpValue (FP.fcmp 1071644672 FP.fconst1) .g).toInt) => ?_) (fun (zc5 : ¬ 0 ≤ (Op.cmpValue (FP.fcmp 1071644672 FP.fconst1) .g).toInt) => absurd zc5 (not_not_intro (by decide +kernel)))
  refine m_run 5 (ps' := (46, [some (.inr (.inr (.float 1063256064))), some (.inr (.inr (.float 1071644672))), some (.inl (127 + (-1))), some (.inl (0 + 1))], [.inr (.inr (.float FP.fconst1)), .inr (.inr (.float 1071644672)), .inl ((Int32.ofInt (127 + (-1)) <<< (Int32.ofInt 23 &&& 31)).toInt)], mW (n, T, h, t, x) M, 0, 0)) rfl ?_
  refine m_fsub (v := 1061158912) rfl (by decide +kernel) (show vf_n32 1061158912 from by unfold vf_n32; decide +kernel) ?_
  refine m_run 1 (ps' := (49, [some (.inr (.inr (.float 1063256064))), some (.inr (.inr (.float 1071644672))), some (.inl (127 + (-1))), some (.inl (0 + 1))], [.inr (.inr (.float 1258291200)), .inr (.inr (.float 1061158912)), .inl ((Int32.ofInt (127 + (-1)) <<< (Int32.ofInt 23 &&& 31)).toInt)], mW (n, T, h, t, x) M, 0, 0)) rfl ?_
  refine m_fmul (v := 1254096896) rfl (by decide +kernel) (show vf_n32 1254096896 from by unfold vf_n32; decide +kernel) ?_
  refine m_run 2 (ps' := (52, [some (.inr (.inr (.float 1063256064))), some (.inr (.inr (.float 1071644672))), some (.inl (127 + (-1))), some (.inl (0 + 1))], [.inl ((Int32.ofInt (127 + (-1)) <<< (Int32.ofInt 23 &&& 31)).toInt + (FP.f2i 1254096896).toInt)], mW (n, T, h, t, x) M, 0, 0)) rfl ?_
  exact m_ret1 rfl (Or.inl rfl) rfl (m_Vi (by decide +kernel))
set_option maxHeartbeats 4000000 in
set_option maxRecDepth 100000 in
theorem k_bits8 {X : Nat × Nat × (Nat → Int32)} {n : Int} {T : Int → Int} {h : HS} {t : TS} {x : XS} {M : MS} : m_Run X 41 [.inr (.inr (.float 1065353216))] (mW (n, T, h, t, x) M) (m_V 1065353216 (mW (n, T, h, t, x) M)) := by
  show m_Sem X 41 (0, [some (.inr (.inr (.float 1065353216))), none, none, none], [], mW (n, T, h, t, x) M, 0, 0) _
  refine m_run 3 (ps' := (3, [some (.inr (.inr (.float 1065353216))), none, none, none], [.inl ((Op.cmpValue (FP.fcmp 1065353216 FP.fconst0) .g).toInt)], mW (n, T, h, t, x) M, 0, 0)) rfl ?_
  refine m_if rfl ⟨by decide +kernel, by decide +kernel⟩ (fun (zc1 : 0 < (Op.cmpValue (FP.fcmp 1065353216 FP.fconst0) .g).toInt) => ?_) (fun (zc1 : ¬ 0 < (Op.cmpValue (FP.fcmp 1065353216 FP.fconst0) .g).toInt) => absurd zc1 (not_not_intro (by decide +kernel)))
  refine m_run 8 (ps' := (18, [some (.inr (.inr (.float 1065353216))), some (.inr (.inr (.float 1065353216))), some (.inl 127), some (.inl 0)], [.inl 126, .inl 0], mW (n, T, h, t, x) M, 0, 0)) rfl ?_
  refine m_icmp rfl ⟨by omega, by omega⟩ ⟨by omega, by omega⟩ (fun (zc2 : 126 ≤ 0) => absurd zc2 (by omega)) (fun (zc2 : ¬ 126 ≤ 0) => ?_)
  refine m_run 3 (ps' := (24, [some (.inr (.inr (.float 1065353216))), some (.inr (.inr (.float 1065353216))), some (.inl 127), some (.inl 0)], [.inl ((Op.cmpValue (FP.fcmp 1065353216 FP.fconst1) .g).toInt)], mW (n, T, h, t, x) M, 0, 0)) rfl ?_
  refine m_if rfl ⟨by decide +kernel, by decide +kernel⟩ (fun (zc3 : 0 ≤ (Op.cmpValue (FP.fcmp 1065353216 FP.fconst1) .g).toInt) => ?_) (fun (zc3 : ¬ 0 ≤ (Op.cmpValue (FP.fcmp 1065353216 FP.fconst1) .g).toInt) => absurd zc3 (not_not_intro (by decide +kernel)))
  refine m_run 5 (ps' := (46, [some (.inr (.inr (.float 1065353216))), some (.inr (.inr (.float 1065353216))), some (.inl 127), some (.inl 0)], [.inr (.inr (.float FP.fconst1)), .inr (.inr (.float 1065353216)), .inl ((Int32.ofInt 127 <<< (Int32.ofInt 23 &&& 31)).toInt)], mW (n, T, h, t, x) M, 0, 0)) rfl ?_
  refine m_fsub (v := 0) rfl (by decide +kernel) (show vf_n32 0 from by unfold vf_n32; decide +kernel) ?_
  refine m_run 1 (ps' := (49, [some (.inr (.inr (.float 1065353216))), some (.inr (.inr (.float 1065353216))), some (.inl 127), some (.inl 0)], [.inr (.inr (.float 1258291200)), .inr (.inr (.float 0)), .inl ((Int32.ofInt 127 <<< (Int32.ofInt 23 &&& 31)).toInt)], mW (n, T, h, t, x) M, 0, 0)) rfl ?_
  refine m_fmul (v := 0) rfl (by decide +kernel) (show vf_n32 0 from by unfold vf_n32; decide +kernel) ?_
  refine m_run 2 (ps' := (52, [some (.inr (.inr (.float 1065353216))), some (.inr (.inr (.float 1065353216))), some (.inl 127), some (.inl 0)], [.inl ((Int32.ofInt 127 <<< (Int32.ofInt 23 &&& 31)).toInt + (FP.f2i 0).toInt)], mW (n, T, h, t, x) M, 0, 0)) rfl ?_
  exact m_ret1 rfl (Or.inl rfl) rfl (m_Vi (by decide +kernel))
set_option maxHeartbeats 4000000 in
set_option maxRecDepth 100000 in
theorem l_sh {X : Nat × Nat × (Nat → Int32)} {n : Int} {T : Int → Int} {h : HS} {t : TS} {x : XS} {M : MS} {tb : Int → Int → Int} {v : Int} (hv : 0 ≤ v) (hv2 : v ≤ 8) (hR : repC n T tb) : ∀ iv : Int, 0 ≤ iv → iv ≤ 8 → ∀ (u : Int) (hu0 : 0 ≤ u) (hu : u + sumF (fun l => if wcode (witS n tb l) = -1 then 1 else 0) (8 - iv).toNat iv = v), m_Sem X 37 (4, [some (.inr (.inl 0)), some (.inl u), some (.inl iv)], [], mW (n, T, h, t, x) M, 0, 0) (m_V (shB v) (mW (n, T, h, t, x) M)) := by
  have hn := hR.1
  have hl := okN_lo hn
  refine m_down 0 8 ?_ ?_
  · intro u hu0 hu
    rw [sum_end] at hu
    have hu : u = v := by omega
    subst hu
    show m_Sem X 37 (4, [some (.inr (.inl 0)), some (.inl u), some (.inl 8)], [], mW (n, T, h, t, x) M, 0, 0) _
    refine m_run 2 (ps' := (7, [some (.inr (.inl 0)), some (.inl u), some (.inl 8)], [.inl 8, .inl 8], mW (n, T, h, t, x) M, 0, 0)) rfl ?_
    refine m_icmp rfl ⟨by omega, by omega⟩ ⟨by omega, by omega⟩ (fun (zc1 : 8 ≤ 8) => ?_) (fun (zc1 : ¬ 8 ≤ 8) => absurd zc1 (not_not_intro (by omega)))
    rcases (show u = 0 ∨ u = 1 ∨ u = 2 ∨ u = 3 ∨ u = 4 ∨ u = 5 ∨ u = 6 ∨ u = 7 ∨ u = 8 by omega) with rfl | rfl | rfl | rfl | rfl | rfl | rfl | rfl | rfl
    · refine m_run 3 (ps' := (35, [some (.inr (.inl 0)), some (.inl 0), some (.inl 8)], [.inr (.inr (.float 1090519040)), .inr (.inr (.float (FP.i2f (Int32.ofInt 0))))], mW (n, T, h, t, x) M, 0, 0)) rfl ?_
      refine m_fdiv (v := 0) rfl (by decide +kernel) (show vf_n32 0 from by unfold vf_n32; decide +kernel) ?_
      refine m_callSF [.inr (.inr (.float 0))] [] rfl rfl rfl k_bits0 ?_
      show m_Sem X 37 (39, [some (.inr (.inl 0)), some (.inl 0), some (.inl 8)], [.inl 0], mW (n, T, h, t, x) M, 0, 0) _
      exact m_ret1 rfl (Or.inl rfl) rfl (m_Vi rfl)
    · refine m_run 3 (ps' := (35, [some (.inr (.inl 0)), some (.inl 1), some (.inl 8)], [.inr (.inr (.float 1090519040)), .inr (.inr (.float (FP.i2f (Int32.ofInt 1))))], mW (n, T, h, t, x) M, 0, 0)) rfl ?_
      refine m_fdiv (v := 1040187392) rfl (by decide +kernel) (show vf_n32 1040187392 from by unfold vf_n32; decide +kernel) ?_
      refine m_callSF [.inr (.inr (.float 1040187392))] [] rfl rfl rfl k_bits1 ?_
      show m_Sem X 37 (39, [some (.inr (.inl 0)), some (.inl 1), some (.inl 8)], [.inl 1040187392], mW (n, T, h, t, x) M, 0, 0) _
      exact m_ret1 rfl (Or.inl rfl) rfl (m_Vi rfl)
    · refine m_run 3 (ps' := (35, [some (.inr (.inl 0)), some (.inl 2), some (.inl 8)], [.inr (.inr (.float 1090519040)), .inr (.inr (.float (FP.i2f (Int32.ofInt 2))))], mW (n, T, h, t, x) M, 0, 0)) rfl ?_
      refine m_fdiv (v := 1048576000) rfl (by decide +kernel) (show vf_n32 1048576000 from by unfold vf_n32; decide +kernel) ?_
      refine m_callSF [.inr (.inr (.float 1048576000))] [] rfl rfl rfl k_bits2 ?_
      show m_Sem X 37 (39, [some (.inr (.inl 0)), some (.inl 2), some (.inl 8)], [.inl 1048576000], mW (n, T, h, t, x) M, 0, 0) _
      exact m_ret1 rfl (Or.inl rfl) rfl (m_Vi rfl)
    · refine m_run 3 (ps' := (35, [some (.inr (.inl 0)), some (.inl 3), some (.inl 8)], [.inr (.inr (.float 1090519040)), .inr (.inr (.float (FP.i2f (Int32.ofInt 3))))], mW (n, T, h, t, x) M, 0, 0)) rfl ?_
      refine m_fdiv (v := 1052770304) rfl (by decide +kernel) (show vf_n32 1052770304 from by unfold vf_n32; decide +kernel) ?_
      refine m_callSF [.inr (.inr (.float 1052770304))] [] rfl rfl rfl k_bits3 ?_
      show m_Sem X 37 (39, [some (.inr (.inl 0)), some (.inl 3), some (.inl 8)], [.inl 1052770304], mW (n, T, h, t, x) M, 0, 0) _
      exact m_ret1 rfl (Or.inl rfl) rfl (m_Vi rfl)
    · refine m_run 3 (ps' := (35, [some (.inr (.inl 0)), some (.inl 4), some (.inl 8)], [.inr (.inr (.float 1090519040)), .inr (.inr (.float (FP.i2f (Int32.ofInt 4))))], mW (n, T, h, t, x) M, 0, 0)) rfl ?_
      refine m_fdiv (v := 1056964608) rfl (by decide +kernel) (show vf_n32 1056964608 from by unfold vf_n32; decide +kernel) ?_
      refine m_callSF [.inr (.inr (.float 1056964608))] [] rfl rfl rfl k_bits4 ?_
      show m_Sem X 37 (39, [some (.inr (.inl 0)), some (.inl 4), some (.inl 8)], [.inl 1056964608], mW (n, T, h, t, x) M, 0, 0) _
      exact m_ret1 rfl (Or.inl rfl) rfl (m_Vi rfl)
    · refine m_run 3 (ps' := (35, [some (.inr (.inl 0)), some (.inl 5), some (.inl 8)], [.inr (.inr (.float 1090519040)), .inr (.inr (.float (FP.i2f (Int32.ofInt 5))))], mW (n, T, h, t, x) M, 0, 0)) rfl ?_
      refine m_fdiv (v := 1059061760) rfl (by decide +kernel) (show vf_n32 1059061760 from by unfold vf_n32; decide +kernel) ?_
      refine m_callSF [.inr (.inr (.float 1059061760))] [] rfl rfl rfl k_bits5 ?_
      show m_Sem X 37 (39, [some (.inr (.inl 0)), some (.inl 5), some (.inl 8)], [.inl 1059061760], mW (n, T, h, t, x) M, 0, 0) _
      exact m_ret1 rfl (Or.inl rfl) rfl (m_Vi rfl)
    · refine m_run 3 (ps' := (35, [some (.inr (.inl 0)), some (.inl 6), some (.inl 8)], [.inr (.inr (.float 1090519040)), .inr (.inr (.float (FP.i2f (Int32.ofInt 6))))], mW (n, T, h, t, x) M, 0, 0)) rfl ?_
      refine m_fdiv (v := 1061158912) rfl (by decide +kernel) (show vf_n32 1061158912 from by unfold vf_n32; decide +kernel) ?_
      refine m_callSF [.inr (.inr (.float 1061158912))] [] rfl rfl rfl k_bits6 ?_
      show m_Sem X 37 (39, [some (.inr (.inl 0)), some (.inl 6), some (.inl 8)], [.inl 1061158912], mW (n, T, h, t, x) M, 0, 0) _
      exact m_ret1 rfl (Or.inl rfl) rfl (m_Vi rfl)
    · refine m_run 3 (ps' := (35, [some (.inr (.inl 0)), some (.inl 7), some (.inl 8)], [.inr (.inr (.float 1090519040)), .inr (.inr (.float (FP.i2f (Int32.ofInt 7))))], mW (n, T, h, t, x) M, 0, 0)) rfl ?_
      refine m_fdiv (v := 1063256064) rfl (by decide +kernel) (show vf_n32 1063256064 from by unfold vf_n32; decide +kernel) ?_
      refine m_callSF [.inr (.inr (.float 1063256064))] [] rfl rfl rfl k_bits7 ?_
      show m_Sem X 37 (39, [some (.inr (.inl 0)), some (.inl 7), some (.inl 8)], [.inl 1063256064], mW (n, T, h, t, x) M, 0, 0) _
      exact m_ret1 rfl (Or.inl rfl) rfl (m_Vi rfl)
    · refine m_run 3 (ps' := (35, [some (.inr (.inl 0)), some (.inl 8), some (.inl 8)], [.inr (.inr (.float 1090519040)), .inr (.inr (.float (FP.i2f (Int32.ofInt 8))))], mW (n, T, h, t, x) M, 0, 0)) rfl ?_
      refine m_fdiv (v := 1065353216) rfl (by decide +kernel) (show vf_n32 1065353216 from by unfold vf_n32; decide +kernel) ?_
      refine m_callSF [.inr (.inr (.float 1065353216))] [] rfl rfl rfl k_bits8 ?_
      show m_Sem X 37 (39, [some (.inr (.inl 0)), some (.inl 8), some (.inl 8)], [.inl 1065353216], mW (n, T, h, t, x) M, 0, 0) _
      exact m_ret1 rfl (Or.inl rfl) rfl (m_Vi rfl)
  · intro iv hi1 hi2 ih u hu0 hu
    rw [sum_step hi2] at hu
    refine m_run 2 (ps' := (7, [some (.inr (.inl 0)), some (.inl u), some (.inl iv)], [.inl 8, .inl iv], mW (n, T, h, t, x) M, 0, 0)) rfl ?_
    refine m_icmp rfl ⟨by omega, by omega⟩ ⟨by omega, by omega⟩ (fun (zc1 : 8 ≤ iv) => absurd zc1 (by omega)) (fun (zc1 : ¬ 8 ≤ iv) => ?_)
    refine m_run 3 (ps' := (15, [some (.inr (.inl 0)), some (.inl u), some (.inl iv)], [.inl iv, .inr (.inl 2)], mW (n, T, h, t, x) M, 0, 0)) rfl ?_
    refine m_callSF [.inr (.inl 2), .inl iv] [] rfl rfl rfl (k_wit (law := iv) hR (by omega) (by omega)) ?_
    have zt1 := wcode_in (tb := tb) (law := iv) hn
    show m_Sem X 37 (18, [some (.inr (.inl 0)), some (.inl u), some (.inl iv)], [.inl (wcode (witS n tb iv))], mW (n, T, h, t, x) M, 0, 0) _
    refine m_run 1 (ps' := (19, [some (.inr (.inl 0)), some (.inl u), some (.inl iv)], [.inl (-1), .inl (wcode (witS n tb iv))], mW (n, T, h, t, x) M, 0, 0)) rfl ?_
    refine m_icmp rfl ⟨by omega, by omega⟩ ⟨by omega, by omega⟩ (fun (zc2 : ¬ (wcode (witS n tb iv)) = (-1)) => ?_) (fun (zc2 : ¬ ¬ (wcode (witS n tb iv)) = (-1)) => ?_)
    · refine m_run 2 (ps' := (4, [some (.inr (.inl 0)), some (.inl u), some (.inl (iv + 1))], [], mW (n, T, h, t, x) M, 0, 0)) rfl ?_
      refine m_weak [some (.inr (.inl 0)), some (.inl u), some (.inl (iv + 1))] ⟨rfl, ⟨rfl, ⟨rfl, trivial⟩⟩⟩ ?_
      refine ih _ (by omega) ?_
      rw [← hu]
      simp only [zc2, if_true, if_false]
      omega
    · replace zc2 : (wcode (witS n tb iv)) = (-1) := Decidable.not_not.mp zc2
      refine m_run 3 (ps' := (4, [some (.inr (.inl 0)), some (.inl (u + 1)), some (.inl (iv + 1))], [], mW (n, T, h, t, x) M, 0, 0)) rfl ?_
      refine m_weak [some (.inr (.inl 0)), some (.inl (u + 1)), some (.inl (iv + 1))] ⟨rfl, ⟨rfl, ⟨rfl, trivial⟩⟩⟩ ?_
      refine ih _ (by omega) ?_
      rw [← hu]
      simp only [zc2, if_true, if_false]
      omega
set_option maxHeartbeats 4000000 in
set_option maxRecDepth 100000 in
theorem k_share {X : Nat × Nat × (Nat → Int32)} {n : Int} {T : Int → Int} {h : HS} {t : TS} {x : XS} {M : MS} {tb : Int → Int → Int} (hR : repC n T tb) : m_Run X 37 [.inr (.inl 0)] (mW (n, T, h, t, x) M) (m_V (shB (heldS n tb)) (mW (n, T, h, t, x) M)) := by
  have hn := hR.1
  have hl := okN_lo hn
  show m_Sem X 37 (0, [some (.inr (.inl 0)), none, none], [], mW (n, T, h, t, x) M, 0, 0) _
  refine m_run 4 (ps' := (4, [some (.inr (.inl 0)), some (.inl 0), some (.inl 0)], [], mW (n, T, h, t, x) M, 0, 0)) rfl ?_
  refine m_weak [some (.inr (.inl 0)), some (.inl 0), some (.inl 0)] ⟨rfl, ⟨rfl, ⟨rfl, trivial⟩⟩⟩ ?_
  have h9 := heldS_in n tb
  exact l_sh h9.1 h9.2 hR 0 (by omega) (by omega) 0 (by omega) (by rw [Int.zero_add]; rfl)
def cntS (n : Int) (tb : Int → Int → Int) (hc ln w : Int) : Int := if w = 0 then n else if w = 1 then NP n else if w = 2 then unlS n tb else if w = 3 then zeroS n tb else if w = 4 then hc else if w = 5 then ln else -1000001
set_option maxHeartbeats 4000000 in
set_option maxRecDepth 100000 in
theorem k_cnt {X : Nat × Nat × (Nat → Int32)} {n : Int} {T : Int → Int} {hc : Int} {hs hp : Int → Int} {ln : Int} {sg : Int → Int} {x : XS} {M : MS} {tb : Int → Int → Int} {wh : Int} (hw : m_R wh) (hR : repC n T tb) : m_Run X 38 [.inr (.inl 0), .inl wh] (mW (n, T, (hc, hs, hp), (ln, sg), x) M) (m_V (cntS n tb hc ln wh) (mW (n, T, (hc, hs, hp), (ln, sg), x) M)) := by
  have hn := hR.1
  have hl := okN_lo hn
  have hq := sq_b hn
  obtain ⟨hw1, hw2⟩ := id hw
  show m_Sem X 38 (0, [some (.inr (.inl 0)), some (.inl wh)], [], mW (n, T, (hc, hs, hp), (ln, sg), x) M, 0, 0) _
  refine m_run 1 (ps' := (1, [some (.inr (.inl 0)), some (.inl wh)], [.inl wh], mW (n, T, (hc, hs, hp), (ln, sg), x) M, 0, 0)) rfl ?_
  rcases (show wh < 0 ∨ wh = 0 ∨ wh = 1 ∨ wh = 2 ∨ wh = 3 ∨ wh = 4 ∨ wh = 5 ∨ 5 < wh by omega) with zs1 | rfl | rfl | rfl | rfl | rfl | rfl | zs1
  · refine m_tabOut (tgt := 88) rfl ⟨by omega, by omega⟩ (Or.inl (by omega)) rfl ?_
    refine m_run 1 (ps' := (90, [some (.inr (.inl 0)), some (.inl wh)], [.inl (-1000001)], mW (n, T, (hc, hs, hp), (ln, sg), x) M, 0, 0)) rfl ?_
    exact m_ret1 rfl (Or.inl rfl) rfl (m_Vi (by unfold cntS; (repeat' split) <;> first | rfl | (exfalso; omega) | omega | simp_all))
  · refine m_tabIn (tgt := 40) rfl ⟨by decide, by decide⟩ (by decide) (by decide) rfl rfl ?_
    refine m_run 3 (ps' := (47, [some (.inr (.inl 0)), some (.inl 0)], [.inl n], mW (n, T, (hc, hs, hp), (ln, sg), x) M, 0, 0)) rfl ?_
    exact m_ret1 rfl (Or.inl rfl) rfl (m_Vi (by unfold cntS; (repeat' split) <;> first | rfl | (exfalso; omega) | omega | simp_all))
  · refine m_tabIn (tgt := 48) rfl ⟨by decide, by decide⟩ (by decide) (by decide) rfl rfl ?_
    refine m_run 2 (ps' := (52, [some (.inr (.inl 0)), some (.inl 1)], [.inr (.inl 1)], mW (n, T, (hc, hs, hp), (ln, sg), x) M, 0, 0)) rfl ?_
    refine m_callVF [] [] rfl rfl ⟨_, rfl, rfl⟩ rfl rfl (k_pts hR) ?_
    have zt1 : NP n = n * n + n + 1 := rfl
    show m_Sem X 38 (55, [some (.inr (.inl 0)), some (.inl 1)], [.inl (NP n)], mW (n, T, (hc, hs, hp), (ln, sg), x) M, 0, 0) _
    exact m_ret1 rfl (Or.inl rfl) rfl (m_Vi (by unfold cntS; (repeat' split) <;> first | rfl | (exfalso; omega) | omega | simp_all))
  · refine m_tabIn (tgt := 56) rfl ⟨by decide, by decide⟩ (by decide) (by decide) rfl rfl ?_
    refine m_run 2 (ps' := (60, [some (.inr (.inl 0)), some (.inl 2)], [.inr (.inl 2)], mW (n, T, (hc, hs, hp), (ln, sg), x) M, 0, 0)) rfl ?_
    refine m_callVF [] [] rfl rfl ⟨_, rfl, rfl⟩ rfl rfl (k_unl hR) ?_
    show m_Sem X 38 (63, [some (.inr (.inl 0)), some (.inl 2)], [.inl (unlS n tb)], mW (n, T, (hc, hs, hp), (ln, sg), x) M, 0, 0) _
    exact m_ret1 rfl (Or.inl rfl) rfl (m_Vi (by unfold cntS; (repeat' split) <;> first | rfl | (exfalso; omega) | omega | simp_all))
  · refine m_tabIn (tgt := 64) rfl ⟨by decide, by decide⟩ (by decide) (by decide) rfl rfl ?_
    refine m_run 2 (ps' := (68, [some (.inr (.inl 0)), some (.inl 3)], [.inr (.inl 2)], mW (n, T, (hc, hs, hp), (ln, sg), x) M, 0, 0)) rfl ?_
    refine m_callVF [] [] rfl rfl ⟨_, rfl, rfl⟩ rfl rfl (k_zero hR) ?_
    show m_Sem X 38 (71, [some (.inr (.inl 0)), some (.inl 3)], [.inl (zeroS n tb)], mW (n, T, (hc, hs, hp), (ln, sg), x) M, 0, 0) _
    exact m_ret1 rfl (Or.inl rfl) rfl (m_Vi (by unfold cntS; (repeat' split) <;> first | rfl | (exfalso; omega) | omega | simp_all))
  · refine m_tabIn (tgt := 72) rfl ⟨by decide, by decide⟩ (by decide) (by decide) rfl rfl ?_
    refine m_run 3 (ps' := (79, [some (.inr (.inl 0)), some (.inl 4)], [.inl hc], mW (n, T, (hc, hs, hp), (ln, sg), x) M, 0, 0)) rfl ?_
    exact m_ret1 rfl (Or.inl rfl) rfl (m_Vi (by unfold cntS; (repeat' split) <;> first | rfl | (exfalso; omega) | omega | simp_all))
  · refine m_tabIn (tgt := 80) rfl ⟨by decide, by decide⟩ (by decide) (by decide) rfl rfl ?_
    refine m_run 3 (ps' := (87, [some (.inr (.inl 0)), some (.inl 5)], [.inl ln], mW (n, T, (hc, hs, hp), (ln, sg), x) M, 0, 0)) rfl ?_
    exact m_ret1 rfl (Or.inl rfl) rfl (m_Vi (by unfold cntS; (repeat' split) <;> first | rfl | (exfalso; omega) | omega | simp_all))
  · refine m_tabOut (tgt := 88) rfl ⟨by omega, by omega⟩ (Or.inr (by omega)) rfl ?_
    refine m_run 1 (ps' := (90, [some (.inr (.inl 0)), some (.inl wh)], [.inl (-1000001)], mW (n, T, (hc, hs, hp), (ln, sg), x) M, 0, 0)) rfl ?_
    exact m_ret1 rfl (Or.inl rfl) rfl (m_Vi (by unfold cntS; (repeat' split) <;> first | rfl | (exfalso; omega) | omega | simp_all))
end
section
/-! Sums and counts. -/
theorem cn_split (f : Int → Int) : ∀ (a b : Nat) (i : Int), sumF f (a + b) i = sumF f a i + sumF f b (i + a)
  | 0, b, i => by rw [Nat.zero_add]; show _ = 0 + sumF f b (i + ((0 : Nat) : Int)); rw [Int.zero_add]; congr 1; omega
  | a + 1, b, i => by
    rw [show a + 1 + b = (a + b) + 1 by omega]
    show f i + sumF f (a + b) (i + 1) = f i + sumF f a (i + 1) + sumF f b (i + ((a + 1 : Nat) : Int))
    rw [cn_split f a b (i + 1), show i + 1 + (a : Int) = i + ((a + 1 : Nat) : Int) by omega]
    omega
theorem cn_zero {f : Int → Int} : ∀ (k : Nat) (i : Int), (∀ j, i ≤ j → j < i + k → f j = 0) → sumF f k i = 0
  | 0, _, _ => rfl
  | k + 1, i, h => by
    unfold sumF
    rw [h i (by omega) (by omega), cn_zero k (i + 1) (fun j h1 h2 => h j (by omega) (by omega))]
    rfl
theorem cn_const {f : Int → Int} {c : Int} : ∀ (k : Nat) (i : Int), (∀ j, i ≤ j → j < i + k → f j = c) → sumF f k i = k * c
  | 0, _, _ => by simp [sumF]
  | k + 1, i, h => by
    unfold sumF
    rw [h i (by omega) (by omega), cn_const k (i + 1) (fun j h1 h2 => h j (by omega) (by omega)), Int.natCast_add, Int.add_mul]
    simp
    omega
theorem cn_add (f g : Int → Int) : ∀ (k : Nat) (i : Int), sumF (fun j => f j + g j) k i = sumF f k i + sumF g k i
  | 0, _ => rfl
  | k + 1, i => by
    unfold sumF
    rw [cn_add f g k (i + 1)]
    omega
theorem cn_swap (f : Int → Int → Int) (b : Nat) (j : Int) : ∀ (a : Nat) (i : Int), sumF (fun x => sumF (fun y => f x y) b j) a i = sumF (fun y => sumF (fun x => f x y) a i) b j
  | 0, i => by
    rw [show sumF (fun x => sumF (fun y => f x y) b j) 0 i = 0 from rfl]
    exact (cn_zero b j (fun y _ _ => rfl)).symm
  | a + 1, i => by
    rw [show sumF (fun x => sumF (fun y => f x y) b j) (a + 1) i = sumF (fun y => f i y) b j + sumF (fun x => sumF (fun y => f x y) b j) a (i + 1) from rfl]
    rw [cn_swap f b j a (i + 1), ← cn_add]
    rfl
theorem cn_le {f g : Int → Int} : ∀ (k : Nat) (i : Int), (∀ j, i ≤ j → j < i + k → f j ≤ g j) → sumF f k i ≤ sumF g k i
  | 0, _, _ => Int.le_refl _
  | k + 1, i, h => by
    unfold sumF
    have h1 := h i (by omega) (by omega)
    have h2 := cn_le k (i + 1) (fun j h1 h2 => h j (by omega) (by omega))
    omega
theorem cn_pos {f : Int → Int} {j0 c : Int} : ∀ (k : Nat) (i : Int), (∀ j, i ≤ j → j < i + k → 0 ≤ f j) → i ≤ j0 → j0 < i + k → c ≤ f j0 → c ≤ sumF f k i
  | 0, _, _, h1, h2, _ => by omega
  | k + 1, i, h, h1, h2, h3 => by
    unfold sumF
    have h4 := h i (by omega) (by omega)
    have h6 : ∀ j, i + 1 ≤ j → j < i + 1 + k → 0 ≤ f j := fun j h1 h2 => h j (by omega) (by omega)
    have h7 : 0 ≤ sumF f k (i + 1) := by
      have h8 := cn_le (f := fun _ => 0) (g := f) k (i + 1) h6
      rw [cn_zero k (i + 1) (fun _ _ _ => rfl)] at h8
      exact h8
    by_cases he : i = j0
    · subst he; omega
    · have h5 := cn_pos k (i + 1) h6 (by omega) (by omega) h3
      omega
/-- how many there are -/
def cnP (p : Int → Bool) (k : Nat) (i : Int) : Int := sumF (fun j => bI (p j)) k i
theorem bI_in (b : Bool) : 0 ≤ bI b ∧ bI b ≤ 1 := by cases b <;> decide
theorem cnP_0 (p : Int → Bool) (i : Int) : cnP p 0 i = 0 := rfl
theorem cnP_s (p : Int → Bool) (k : Nat) (i : Int) : cnP p (k + 1) i = bI (p i) + cnP p k (i + 1) := rfl
theorem cnP_in (p : Int → Bool) : ∀ (k : Nat) (i : Int), 0 ≤ cnP p k i ∧ cnP p k i ≤ k
  | 0, _ => ⟨Int.le_refl 0, Int.le_refl 0⟩
  | k + 1, i => by
    have h := cnP_in p k (i + 1)
    have h1 := bI_in (p i)
    rw [cnP_s]
    omega
theorem cnP_congr {p q : Int → Bool} (k : Nat) (i : Int) (h : ∀ j, i ≤ j → j < i + k → p j = q j) : cnP p k i = cnP q k i := sum_congr k i (fun j h1 h2 => by rw [h j h1 h2])
theorem cnP_zero {p : Int → Bool} : ∀ (k : Nat) (i : Int), cnP p k i = 0 ↔ ∀ j, i ≤ j → j < i + k → p j = false
  | 0, i => ⟨fun _ j h1 h2 => absurd h2 (by omega), fun _ => rfl⟩
  | k + 1, i => by
    rw [cnP_s]
    have h1 := bI_in (p i)
    have h2 := cnP_in p k (i + 1)
    refine ⟨fun h j g1 g2 => ?_, fun h => ?_⟩
    · by_cases he : j = i
      · rw [he]; exact bI_e0.mp (by omega)
      · exact (cnP_zero k (i + 1)).mp (by omega) j (by omega) (by omega)
    · rw [bI_e0.mpr (h i (by omega) (by omega)), (cnP_zero k (i + 1)).mpr (fun j h1 h2 => h j (by omega) (by omega))]
      rfl
theorem cnP_one {p : Int → Bool} : ∀ (k : Nat) (i : Int), cnP p k i = 1 ↔ ∃ j, (i ≤ j ∧ j < i + k ∧ p j = true) ∧ ∀ j', i ≤ j' → j' < i + k → p j' = true → j' = j
  | 0, i => ⟨fun h => by rw [cnP_0] at h; omega, fun ⟨j, h1, _⟩ => by omega⟩
  | k + 1, i => by
    rw [cnP_s]
    have h2 := cnP_in p k (i + 1)
    cases hp : p i with
    | true =>
      show 1 + cnP p k (i + 1) = 1 ↔ _
      refine ⟨fun h => ⟨i, ⟨by omega, by omega, hp⟩, fun j' g1 g2 g3 => ?_⟩, fun ⟨j, h3, h4⟩ => ?_⟩
      · by_cases he : j' = i
        · exact he
        · have h5 := (cnP_zero (p := p) k (i + 1)).mp (by omega) j' (by omega) (by omega)
          rw [h5] at g3; cases g3
      · have h5 := h4 i (by omega) (by omega) hp
        rw [(cnP_zero k (i + 1)).mpr (fun j' g1 g2 => ?_)]
        · rfl
        · cases h6 : p j' with
          | false => rfl
          | true => have h7 := h4 j' (by omega) (by omega) h6; omega
    | false =>
      show 0 + cnP p k (i + 1) = 1 ↔ _
      rw [Int.zero_add, cnP_one k (i + 1)]
      refine ⟨fun ⟨j, h3, h4⟩ => ⟨j, ⟨by omega, by omega, h3.2.2⟩, fun j' g1 g2 g3 => ?_⟩, fun ⟨j, h3, h4⟩ => ⟨j, ⟨?_, by omega, h3.2.2⟩, fun j' g1 g2 g3 => h4 j' (by omega) (by omega) g3⟩⟩
      · by_cases he : j' = i
        · rw [he, hp] at g3; cases g3
        · exact h4 j' (by omega) (by omega) g3
      · by_cases he : j = i
        · rw [he, hp] at h3; exact absurd h3.2.2 (by decide)
        · omega
theorem cnP_le1 {p : Int → Bool} : ∀ (k : Nat) (i : Int), (∀ j j', i ≤ j → j < j' → j' < i + k → p j = true → p j' = false) → cnP p k i ≤ 1
  | 0, i, _ => by rw [cnP_0]; decide
  | k + 1, i, h => by
    rw [cnP_s]
    cases hp : p i with
    | true =>
      rw [(cnP_zero k (i + 1)).mpr (fun j g1 g2 => h i j (by omega) (by omega) (by omega) hp)]
      decide
    | false =>
      have h3 := cnP_le1 k (i + 1) (fun j j' g1 g2 g3 => h j j' (by omega) g2 (by omega))
      show 0 + _ ≤ _
      omega
theorem cnP_ge1 {p : Int → Bool} {j0 : Int} (k : Nat) (i : Int) (h1 : i ≤ j0) (h2 : j0 < i + k) (h3 : p j0 = true) : 1 ≤ cnP p k i :=
  cn_pos k i (fun j _ _ => (bI_in (p j)).1) h1 h2 (by rw [h3]; decide)
theorem cnP_ge2 {p : Int → Bool} {j0 j1 : Int} : ∀ (k : Nat) (i : Int), i ≤ j0 → j0 < j1 → j1 < i + k → p j0 = true → p j1 = true → 2 ≤ cnP p k i
  | 0, i, h1, h2, h3, _, _ => by omega
  | k + 1, i, h1, h2, h3, h4, h5 => by
    rw [cnP_s]
    by_cases he : i = j0
    · subst he
      have h6 := cnP_ge1 (p := p) (j0 := j1) k (i + 1) (by omega) (by omega) h5
      rw [h4]
      show 2 ≤ 1 + _
      omega
    · have h6 := cnP_ge2 k (i + 1) (by omega) h2 (by omega) h4 h5
      have h7 := (bI_in (p i)).1
      omega
theorem cnP_miss {p : Int → Bool} {j0 : Int} : ∀ (k : Nat) (i : Int), i ≤ j0 → j0 < i + k → p j0 = false → cnP p k i < k
  | 0, i, h1, h2, _ => by omega
  | k + 1, i, h1, h2, h3 => by
    rw [cnP_s]
    have h6 := cnP_in p k (i + 1)
    by_cases he : i = j0
    · subst he
      rw [h3]
      show 0 + _ < _
      omega
    · have h4 := cnP_miss k (i + 1) (by omega) (by omega) h3
      have h5 := (bI_in (p i)).2
      omega
theorem cnP_all {p : Int → Bool} (k : Nat) (i : Int) : cnP p k i = k ↔ ∀ j, i ≤ j → j < i + k → p j = true := by
  refine ⟨fun h j h1 h2 => ?_, fun h => ?_⟩
  · cases hp : p j with
    | true => rfl
    | false => have h3 := cnP_miss k i h1 h2 hp; omega
  · unfold cnP
    rw [cn_const (c := 1) k i (fun j h1 h2 => by rw [h j h1 h2]; rfl)]
    omega
/-- how often a value comes -/
def cnV (f : Int → Int) (v : Int) (k : Nat) (i : Int) : Int := cnP (fun m => decide (f m = v)) k i
theorem pw_bit (d v : Nat) : (2 ^ d).testBit v = decide (d = v) := Nat.testBit_two_pow
def onB (sb eb : Bool) (c : Int) : Bool := !eb && (bif sb then decide (c = 0) else decide (c = 1))
theorem onB_s (sb eb : Bool) {c : Int} (h : 0 ≤ c) : onB true (eb || sb) c = onB sb eb (1 + c) := by
  unfold onB
  cases sb <;> cases eb <;> simp <;> omega
theorem b_full (k : Nat) (v : Nat) (h : v < 9) : (k ^^^ 4294967295).testBit v = ! k.testBit v := by
  rw [Nat.testBit_xor, show (4294967295 : Nat) = 2 ^ 32 - 1 by decide, Nat.testBit_two_pow_sub_one, decide_eq_true (by omega)]
  cases k.testBit v <;> rfl
theorem once_bits (f : Int → Int) : ∀ (k : Nat) (i : Int) (s e : Nat), (∀ j, i ≤ j → j < i + k → 0 ≤ f j) → onceK f k i s e = sumF (fun v => bI (onB (s.testBit v.toNat) (e.testBit v.toNat) (cnV f v k i))) 9 0
  | 0, i, s, e, _ => by
    show popc (s &&& (e ^^^ 4294967295)) = _
    unfold popc
    refine sum_congr 9 0 (fun v h1 h2 => ?_)
    rw [Nat.testBit_and, b_full e v.toNat (by omega)]
    show bI _ = bI (onB _ _ 0)
    unfold onB
    cases s.testBit v.toNat <;> cases e.testBit v.toNat <;> rfl
  | k + 1, i, s, e, h => by
    show onceK f k (i + 1) (s ||| 2 ^ (f i).toNat) (e ||| (s &&& 2 ^ (f i).toNat)) = _
    rw [once_bits f k (i + 1) _ _ (fun j h1 h2 => h j (by omega) (by omega))]
    refine sum_congr 9 0 (fun v h1 h2 => ?_)
    have h3 := h i (by omega) (by omega)
    have h4 := (cnP_in (fun m => decide (f m = v)) k (i + 1)).1
    have e1 : cnV f v (k + 1) i = bI (decide (f i = v)) + cnV f v k (i + 1) := rfl
    rw [Nat.testBit_or, Nat.testBit_or, Nat.testBit_and, pw_bit, e1]
    by_cases he : f i = v
    · rw [decide_eq_true he, decide_eq_true (by omega), Bool.or_true, Bool.and_true]
      exact congrArg bI (onB_s _ _ h4)
    · rw [decide_eq_false he, decide_eq_false (by omega), Bool.or_false, Bool.and_false, Bool.or_false]
      rw [show bI false + cnV f v k (i + 1) = cnV f v k (i + 1) from Int.zero_add _]
theorem once_cnt {n : Int} {f : Int → Int} (h1 : 0 ≤ n) (h2 : n ≤ 9) (hf : ∀ j, 0 ≤ j → j < n → 0 ≤ f j ∧ f j < n) : onceK f n.toNat 0 0 0 = cnP (fun v => decide (cnV f v n.toNat 0 = 1)) n.toNat 0 := by
  rw [once_bits f n.toNat 0 0 0 (fun j g1 g2 => (hf j g1 (by omega)).1)]
  rw [show (9 : Nat) = n.toNat + (9 - n.toNat) by omega, cn_split]
  have hz : sumF (fun v => bI (onB (Nat.testBit 0 v.toNat) (Nat.testBit 0 v.toNat) (cnV f v n.toNat 0))) (9 - n.toNat) (0 + (n.toNat : Int)) = 0 := by
    refine cn_zero _ _ (fun v g1 g2 => ?_)
    have h0 : cnV f v n.toNat 0 = 0 := (cnP_zero _ _).mpr (fun j g3 g4 => decide_eq_false (by have := hf j g3 (by omega); omega))
    rw [h0, Nat.zero_testBit]
    rfl
  rw [hz, Int.add_zero]
  refine sum_congr _ _ (fun v g1 g2 => ?_)
  rw [Nat.zero_testBit]
  unfold onB
  simp
/-- no number comes twice -/
def distK (f : Int → Int) : Nat → Int → Nat → Bool
  | 0, _, _ => true
  | k + 1, i, s => if s.testBit (f i).toNat = true then false else distK f k (i + 1) (s ||| 2 ^ (f i).toNat)
theorem dist_end (f : Int → Int) (n : Int) (s : Nat) : distK f (n - n).toNat n s = true := by rw [nat_end]; rfl
theorem dist_step {f : Int → Int} {n i : Int} {s : Nat} (h : i < n) : distK f (n - i).toNat i s = if s.testBit (f i).toNat = true then false else distK f (n - (i + 1)).toNat (i + 1) (s ||| 2 ^ (f i).toNat) := by rw [nat_step h]; rfl
theorem dist_iff (f : Int → Int) : ∀ (k : Nat) (i : Int) (s : Nat), (∀ j, i ≤ j → j < i + k → 0 ≤ f j) → (distK f k i s = true ↔ (∀ j, i ≤ j → j < i + k → s.testBit (f j).toNat = false) ∧ ∀ j j', i ≤ j → j < j' → j' < i + k → f j ≠ f j')
  | 0, i, s, _ => ⟨fun _ => ⟨fun j h1 h2 => absurd h2 (by omega), fun j j' h1 h2 h3 => absurd h3 (by omega)⟩, fun _ => rfl⟩
  | k + 1, i, s, h => by
    unfold distK
    have h0 := h i (by omega) (by omega)
    have ih := dist_iff f k (i + 1) (s ||| 2 ^ (f i).toNat) (fun j h1 h2 => h j (by omega) (by omega))
    split
    next hb =>
      refine ⟨fun h9 => (by cases h9), fun h9 => ?_⟩
      have h8 := h9.1 i (by omega) (by omega)
      rw [hb] at h8; cases h8
    next hb =>
      rw [ih]
      refine ⟨fun ⟨h1, h2⟩ => ⟨fun j g1 g2 => ?_, fun j j' g1 g2 g3 => ?_⟩, fun ⟨h1, h2⟩ => ⟨fun j g1 g2 => ?_, fun j j' g1 g2 g3 => h2 j j' (by omega) g2 (by omega)⟩⟩
      · by_cases he : j = i
        · rw [he]; exact Bool.eq_false_iff.mpr hb
        · have h3 := h1 j (by omega) (by omega)
          rw [Nat.testBit_or] at h3
          exact (Bool.or_eq_false_iff.mp h3).1
      · by_cases he : j = i
        · rw [he]
          have h3 := h1 j' (by omega) (by omega)
          rw [Nat.testBit_or, pw_bit] at h3
          intro h4
          rw [h4] at h3
          have h5 := (Bool.or_eq_false_iff.mp h3).2
          exact absurd h5 (by simp)
        · exact h2 j j' (by omega) g2 (by omega)
      · rw [Nat.testBit_or, pw_bit, h1 j (by omega) (by omega), Bool.false_or]
        have h3 := h2 i j (by omega) (by omega) (by omega)
        have h4 := h j (by omega) (by omega)
        exact decide_eq_false (by omega)
theorem dist_once {n : Int} {f : Int → Int} (h1 : 0 ≤ n) (h2 : n ≤ 9) (hf : ∀ j, 0 ≤ j → j < n → 0 ≤ f j ∧ f j < n) : distK f n.toNat 0 0 = decide (onceK f n.toNat 0 0 0 = n) := by
  have hd := dist_iff f n.toNat 0 0 (fun j g1 g2 => (hf j g1 (by omega)).1)
  rw [once_cnt h1 h2 hf]
  cases hk : distK f n.toNat 0 0 with
  | true =>
    have h3 := (hd.mp hk).2
    symm
    refine decide_eq_true ?_
    have hle : ∀ v, cnV f v n.toNat 0 ≤ 1 := fun v => cnP_le1 _ _ (fun j j' g1 g2 g3 g4 => decide_eq_false (fun g5 => h3 j j' g1 g2 g3 ((of_decide_eq_true g4).trans g5.symm)))
    have e1 : cnP (fun v => decide (cnV f v n.toNat 0 = 1)) n.toNat 0 = sumF (fun v => sumF (fun m => bI (decide (f m = v))) n.toNat 0) n.toNat 0 := by
      refine sum_congr _ _ (fun v g1 g2 => ?_)
      have g3 := hle v
      have g4 := (cnP_in (fun m => decide (f m = v)) n.toNat 0).1
      show bI (decide (cnV f v n.toNat 0 = 1)) = cnV f v n.toNat 0
      have g5 : 0 ≤ cnV f v n.toNat 0 := g4
      rcases (show cnV f v n.toNat 0 = 0 ∨ cnV f v n.toNat 0 = 1 by omega) with h | h <;> rw [h] <;> rfl
    rw [e1, cn_swap (fun v m => bI (decide (f m = v)))]
    rw [cn_const (c := 1) n.toNat 0 (fun m g1 g2 => ?_)]
    · omega
    · have g3 := hf m g1 (by omega)
      exact (cnP_one (p := fun v => decide (f m = v)) n.toNat 0).mpr ⟨f m, ⟨g3.1, by omega, decide_eq_true rfl⟩, fun j' _ _ g6 => (of_decide_eq_true g6).symm⟩
  | false =>
    symm
    refine decide_eq_false (fun h9 => ?_)
    have h10 := (cnP_all (p := fun v => decide (cnV f v n.toNat 0 = 1)) n.toNat 0).mp (by rw [h9]; omega)
    have h11 : distK f n.toNat 0 0 = true := hd.mpr ⟨fun j _ _ => Nat.zero_testBit _, fun j j' g1 g2 g3 g4 => by
      have g5 := hf j g1 (by omega)
      have g6 := of_decide_eq_true (h10 (f j) g5.1 (by omega))
      have g7 := cnP_ge2 (p := fun m => decide (f m = f j)) (j0 := j) (j1 := j') n.toNat 0 g1 g2 g3 (decide_eq_true rfl) (decide_eq_true g4.symm)
      have g8 : cnV f (f j) n.toNat 0 = cnP (fun m => decide (f m = f j)) n.toNat 0 := rfl
      omega⟩
    rw [h11] at hk
    cases hk
end
section
/-! The objects are made: first the ring, in a world of four cells. -/
def mS (n : Int) (T : Int → Int) : mPW := [.inr (5, [.inr (.inr .null), .inr (.inr .null), .inr (.inr .null), .inr (.inr .null), .inr (.inr .null)]), .inr (2, [.inr (.inr .null)]), .inr (3, [.inl n, .inr (.inl 3)]), .inl (0, 81, .inl T)]
def mC (c : CS) : mPW := mW c []
set_option maxHeartbeats 4000000 in
set_option maxRecDepth 100000 in
theorem s_fp {X : Nat × Nat × (Nat → Int32)} {n : Int} {T : Int → Int} {a b : Int} (hn : okN n) (ha : 0 ≤ a) (ha2 : a < n) (hb : 0 ≤ b) (hb2 : b < n) : m_Run X 27 [.inl n, .inl a, .inl b] (mS n T) (m_V (fpS n a b) (mS n T)) := by
  have hl := okN_lo hn
  have p0 := mul_b (x := a) (y := b) (B := 8) (C := 8) ha (by omega) hb (by omega)
  have p1 := mul_b (x := a / 3) (y := b % 3) (B := 2) (C := 2) (by omega) (by omega) (by omega) (by omega)
  have p2 := mul_b (x := a % 3) (y := b / 3) (B := 2) (C := 2) (by omega) (by omega) (by omega) (by omega)
  have p3 := mul_b (x := a % 3) (y := b % 3) (B := 2) (C := 2) (by omega) (by omega) (by omega) (by omega)
  have p4 := mul_b (x := a / 3) (y := b / 3) (B := 2) (C := 2) (by omega) (by omega) (by omega) (by omega)
  show m_Sem X 27 (0, [some (.inl n), some (.inl a), some (.inl b), none, none, none, none], [], mS n T, 0, 0) _
  refine m_run 2 (ps' := (2, [some (.inl n), some (.inl a), some (.inl b), none, none, none, none], [.inl 4, .inl n], mS n T, 0, 0)) rfl ?_
  refine m_icmp rfl ⟨by omega, by omega⟩ ⟨by omega, by omega⟩ (fun (zc1 : ¬ n = 4) => ?_) (fun (zc1 : ¬ ¬ n = 4) => ?_)
  · refine m_run 2 (ps' := (30, [some (.inl n), some (.inl a), some (.inl b), none, none, none, none], [.inl 9, .inl n], mS n T, 0, 0)) rfl ?_
    refine m_icmp rfl ⟨by omega, by omega⟩ ⟨by omega, by omega⟩ (fun (zc2 : ¬ n = 9) => ?_) (fun (zc2 : ¬ ¬ n = 9) => ?_)
    · refine m_run 1 (ps' := (84, [some (.inl n), some (.inl a), some (.inl b), none, none, none, none], [.inl n], mS n T, 0, 0)) rfl ?_
      refine m_if rfl ⟨by omega, by omega⟩ (fun (zc3 : n ≤ 0) => ?_) (fun (zc3 : ¬ n ≤ 0) => ?_)
      · refine m_run 1 (ps' := (96, [some (.inl n), some (.inl a), some (.inl b), none, none, none, none], [.inl 0], mS n T, 0, 0)) rfl ?_
        exact m_ret1 rfl (Or.inl rfl) rfl (m_Vi (by unfold fpS; (repeat' split) <;> first | rfl | omega))
      · refine m_run 4 (ps' := (91, [some (.inl n), some (.inl a), some (.inl b), none, none, none, none], [.inl n, .inl (a * b)], mS n T, 0, 0)) rfl ?_
        refine m_rem rfl (by omega) (by omega) (by omega) (by omega) ?_
        refine m_run 1 (ps' := (96, [some (.inl n), some (.inl a), some (.inl b), none, none, none, none], [.inl ((a * b) % n)], mS n T, 0, 0)) rfl ?_
        exact m_ret1 rfl (Or.inl rfl) rfl (m_Vi (by unfold fpS; (repeat' split) <;> first | rfl | omega))
    · replace zc2 : n = 9 := Decidable.not_not.mp zc2
      refine m_run 2 (ps' := (35, [some (.inl n), some (.inl a), some (.inl b), none, none, none, none], [.inl 3, .inl a], mS n T, 0, 0)) rfl ?_
      refine m_div rfl (by omega) (by omega) (by omega) (by omega) ?_
      refine m_run 3 (ps' := (39, [some (.inl n), some (.inl a), some (.inl b), some (.inl (a / 3)), none, none, none], [.inl 3, .inl a], mS n T, 0, 0)) rfl ?_
      refine m_rem rfl (by omega) (by omega) (by omega) (by omega) ?_
      refine m_run 3 (ps' := (44, [some (.inl n), some (.inl a), some (.inl b), some (.inl (a / 3)), some (.inl (a % 3)), none, none], [.inl 3, .inl b], mS n T, 0, 0)) rfl ?_
      refine m_div rfl (by omega) (by omega) (by omega) (by omega) ?_
      refine m_run 3 (ps' := (49, [some (.inl n), some (.inl a), some (.inl b), some (.inl (a / 3)), some (.inl (a % 3)), some (.inl (b / 3)), none], [.inl 3, .inl b], mS n T, 0, 0)) rfl ?_
      refine m_rem rfl (by omega) (by omega) (by omega) (by omega) ?_
      refine m_run 10 (ps' := (64, [some (.inl n), some (.inl a), some (.inl b), some (.inl (a / 3)), some (.inl (a % 3)), some (.inl (b / 3)), some (.inl (b % 3))], [.inl 3, .inl (((a / 3) * (b % 3)) + ((a % 3) * (b / 3))), .inl 3], mS n T, 0, 0)) rfl ?_
      refine m_rem rfl (by omega) (by omega) (by omega) (by omega) ?_
      refine m_run 11 (ps' := (80, [some (.inl n), some (.inl a), some (.inl b), some (.inl (a / 3)), some (.inl (a % 3)), some (.inl (b / 3)), some (.inl (b % 3))], [.inl 3, .inl ((((a % 3) * (b % 3)) - ((a / 3) * (b / 3))) + 6), .inl (3 * ((((a / 3) * (b % 3)) + ((a % 3) * (b / 3))) % 3))], mS n T, 0, 0)) rfl ?_
      refine m_rem rfl (by omega) (by omega) (by omega) (by omega) ?_
      refine m_run 1 (ps' := (82, [some (.inl n), some (.inl a), some (.inl b), some (.inl (a / 3)), some (.inl (a % 3)), some (.inl (b / 3)), some (.inl (b % 3))], [.inl ((3 * ((((a / 3) * (b % 3)) + ((a % 3) * (b / 3))) % 3)) + (((((a % 3) * (b % 3)) - ((a / 3) * (b / 3))) + 6) % 3))], mS n T, 0, 0)) rfl ?_
      exact m_ret1 rfl (Or.inl rfl) rfl (m_Vi (by unfold fpS; (repeat' split) <;> first | rfl | omega))
  · replace zc1 : n = 4 := Decidable.not_not.mp zc1
    refine m_run 1 (ps' := (6, [some (.inl n), some (.inl a), some (.inl b), none, none, none, none], [.inl a], mS n T, 0, 0)) rfl ?_
    refine m_if rfl ⟨by omega, by omega⟩ (fun (zc2 : a = 0) => ?_) (fun (zc2 : ¬ a = 0) => ?_)
    · refine m_run 2 (ps' := (26, [some (.inl n), some (.inl a), some (.inl b), none, none, none, none], [.inl 0], mS n T, 0, 0)) rfl ?_
      exact m_ret1 rfl (Or.inl rfl) rfl (m_Vi (by unfold fpS; (repeat' split) <;> first | rfl | omega))
    · refine m_run 1 (ps' := (10, [some (.inl n), some (.inl a), some (.inl b), none, none, none, none], [.inl b], mS n T, 0, 0)) rfl ?_
      refine m_if rfl ⟨by omega, by omega⟩ (fun (zc3 : ¬ b = 0) => ?_) (fun (zc3 : ¬ ¬ b = 0) => ?_)
      · refine m_run 7 (ps' := (24, [some (.inl n), some (.inl a), some (.inl b), none, none, none, none], [.inl 3, .inl ((a + b) - 2), .inl 1], mS n T, 0, 0)) rfl ?_
        refine m_rem rfl (by omega) (by omega) (by omega) (by omega) ?_
        refine m_run 1 (ps' := (26, [some (.inl n), some (.inl a), some (.inl b), none, none, none, none], [.inl (1 + (((a + b) - 2) % 3))], mS n T, 0, 0)) rfl ?_
        exact m_ret1 rfl (Or.inl rfl) rfl (m_Vi (by unfold fpS; (repeat' split) <;> first | rfl | omega))
      · replace zc3 : b = 0 := Decidable.not_not.mp zc3
        refine m_run 2 (ps' := (26, [some (.inl n), some (.inl a), some (.inl b), none, none, none, none], [.inl 0], mS n T, 0, 0)) rfl ?_
        exact m_ret1 rfl (Or.inl rfl) rfl (m_Vi (by unfold fpS; (repeat' split) <;> first | rfl | omega))
set_option maxHeartbeats 4000000 in
set_option maxRecDepth 100000 in
theorem s_set {X : Nat × Nat × (Nat → Int32)} {n : Int} {T : Int → Int} {a b r : Int} (hr : m_R r) (hT : m_R (T (9 * a + b))) (h1 : 0 ≤ 9 * a + b) (h2 : 9 * a + b < 81) (h3 : m_R a) (h4 : m_R b) : m_Run X 20 [.inr (.inl 2), .inl a, .inl b, .inl r] (mS n T) (m_V (if T (9 * a + b) = r then 0 else 1) (mS n (m_up T (9 * a + b) r))) := by
  show m_Sem X 20 (0, [some (.inr (.inl 2)), some (.inl a), some (.inl b), some (.inl r), none], [], mS n T, 0, 0) _
  refine m_run 7 (ps' := (10, [some (.inr (.inl 2)), some (.inl a), some (.inl b), some (.inl r), some (.inl ((9 * a) + b))], [.inl ((9 * a) + b)], mS n T, 0, 0)) rfl ?_
  refine m_if rfl ⟨by omega, by omega⟩ (fun (zc1 : ((9 * a) + b) < 0) => absurd zc1 (by omega)) (fun (zc1 : ¬ ((9 * a) + b) < 0) => ?_)
  refine m_run 4 (ps' := (20, [some (.inr (.inl 2)), some (.inl a), some (.inl b), some (.inl r), some (.inl ((9 * a) + b))], [.inl 81, .inl ((9 * a) + b)], mS n T, 0, 0)) rfl ?_
  refine m_icmp rfl ⟨by omega, by omega⟩ ⟨by omega, by omega⟩ (fun (zc2 : 81 ≤ ((9 * a) + b)) => absurd zc2 (by omega)) (fun (zc2 : ¬ 81 ≤ ((9 * a) + b)) => ?_)
  refine m_run 3 (ps' := (29, [some (.inr (.inl 2)), some (.inl a), some (.inl b), some (.inl r), some (.inl ((9 * a) + b))], [.inl ((9 * a) + b), .inr (.inl 3)], mS n T, 0, 0)) rfl ?_
  refine m_iald rfl rfl (by omega) (by omega) (by decide) ?_
  refine m_run 1 (ps' := (31, [some (.inr (.inl 2)), some (.inl a), some (.inl b), some (.inl r), some (.inl ((9 * a) + b))], [.inl r, .inl (T ((9 * a) + b))], mS n T, 0, 0)) rfl ?_
  refine m_icmp rfl hT hr (fun (zc3 : ¬ (T ((9 * a) + b)) = r) => ?_) (fun (zc3 : ¬ ¬ (T ((9 * a) + b)) = r) => ?_)
  · refine m_run 4 (ps' := (43, [some (.inr (.inl 2)), some (.inl a), some (.inl b), some (.inl r), some (.inl ((9 * a) + b))], [.inl r, .inl ((9 * a) + b), .inr (.inl 3)], mS n T, 0, 0)) rfl ?_
    refine m_iast rfl rfl (by omega) (by omega) (by decide) ?_
    show m_Sem X 20 (44, [some (.inr (.inl 2)), some (.inl a), some (.inl b), some (.inl r), some (.inl ((9 * a) + b))], [], mS n (m_up T ((9 * a) + b) r), 0, 0) _
    refine m_run 1 (ps' := (45, [some (.inr (.inl 2)), some (.inl a), some (.inl b), some (.inl r), some (.inl ((9 * a) + b))], [.inl 1], mS n (m_up T ((9 * a) + b) r), 0, 0)) rfl ?_
    exact m_ret1 rfl (Or.inl rfl) rfl (m_Vi (by rw [if_neg zc3]))
  · replace zc3 : (T ((9 * a) + b)) = r := Decidable.not_not.mp zc3
    refine m_run 1 (ps' := (35, [some (.inr (.inl 2)), some (.inl a), some (.inl b), some (.inl r), some (.inl ((9 * a) + b))], [.inl 0], mS n T, 0, 0)) rfl ?_
    exact m_ret1 rfl (Or.inl rfl) rfl (m_Vw (by rw [if_pos zc3]) (by rw [← m_up_id T zc3]))
set_option maxHeartbeats 4000000 in
set_option maxRecDepth 100000 in
theorem s_bfI {X : Nat × Nat × (Nat → Int32)} {n : Int} {a : Int} {Q : Option mPV → mPW → Prop} (hn : okN n) (ha : 0 ≤ a) (ha2 : a < n) (K : ∀ T : Int → Int, okT T → fill n (fpS n) T (a + 1) 0 → m_Sem X 21 (7, [some (.inr (.inl 2)), some (.inl n), some (.inl (a + 1)), none], [], mS n T, 0, 0) Q) : ∀ b : Int, 0 ≤ b → b ≤ n → ∀ (T : Int → Int) (hT : okT T) (hf : fill n (fpS n) T a b), m_Sem X 21 (14, [some (.inr (.inl 2)), some (.inl n), some (.inl a), some (.inl b)], [], mS n T, 0, 0) (Q) := by
  have hl := okN_lo hn
  refine m_down 0 n ?_ ?_
  · intro T hT hf
    show m_Sem X 21 (14, [some (.inr (.inl 2)), some (.inl n), some (.inl a), some (.inl n)], [], mS n T, 0, 0) _
    refine m_run 2 (ps' := (16, [some (.inr (.inl 2)), some (.inl n), some (.inl a), some (.inl n)], [.inl n, .inl n], mS n T, 0, 0)) rfl ?_
    refine m_icmp rfl ⟨by omega, by omega⟩ ⟨by omega, by omega⟩ (fun (zc1 : n ≤ n) => ?_) (fun (zc1 : ¬ n ≤ n) => absurd zc1 (not_not_intro (by omega)))
    refine m_run 2 (ps' := (7, [some (.inr (.inl 2)), some (.inl n), some (.inl (a + 1)), some (.inl n)], [], mS n T, 0, 0)) rfl ?_
    refine m_weak [some (.inr (.inl 2)), some (.inl n), some (.inl (a + 1)), none] ⟨rfl, ⟨rfl, ⟨rfl, trivial⟩⟩⟩ ?_
    exact K T hT (fill_r hf)
  · intro b hi1 hi2 ih T hT hf
    have hp := hT (9 * a + b) (by omega) (by omega)
    refine m_run 2 (ps' := (16, [some (.inr (.inl 2)), some (.inl n), some (.inl a), some (.inl b)], [.inl n, .inl b], mS n T, 0, 0)) rfl ?_
    refine m_icmp rfl ⟨by omega, by omega⟩ ⟨by omega, by omega⟩ (fun (zc1 : n ≤ b) => absurd zc1 (by omega)) (fun (zc1 : ¬ n ≤ b) => ?_)
    refine m_run 6 (ps' := (25, [some (.inr (.inl 2)), some (.inl n), some (.inl a), some (.inl b)], [.inl b, .inl a, .inl n, .inl b, .inl a, .inr (.inl 2)], mS n T, 0, 0)) rfl ?_
    refine m_callSF [.inl n, .inl a, .inl b] [.inl b, .inl a, .inr (.inl 2)] rfl rfl rfl (s_fp (a := a) (b := b) hn (by omega) (by omega) (by omega) (by omega)) ?_
    have zt1 := fpS_in (n := n) (a := a) (b := b) hn (by omega) (by omega) (by omega) (by omega)
    show m_Sem X 21 (28, [some (.inr (.inl 2)), some (.inl n), some (.inl a), some (.inl b)], [.inl (fpS n a b), .inl b, .inl a, .inr (.inl 2)], mS n T, 0, 0) _
    refine m_callVF [.inl a, .inl b, .inl (fpS n a b)] [] rfl rfl ⟨_, rfl, rfl⟩ rfl rfl (s_set (T := T) (a := a) (b := b) (r := (fpS n a b)) ⟨by omega, by omega⟩ ⟨by omega, by omega⟩ (by omega) (by omega) ⟨by omega, by omega⟩ ⟨by omega, by omega⟩) ?_
    show m_Sem X 21 (31, [some (.inr (.inl 2)), some (.inl n), some (.inl a), some (.inl b)], [.inl (if T (9 * a + b) = (fpS n a b) then 0 else 1)], mS n (m_up T (9 * a + b) (fpS n a b)), 0, 0) _
    refine m_run 3 (ps' := (14, [some (.inr (.inl 2)), some (.inl n), some (.inl a), some (.inl (b + 1))], [], mS n (m_up T (9 * a + b) (fpS n a b)), 0, 0)) rfl ?_
    refine m_weak [some (.inr (.inl 2)), some (.inl n), some (.inl a), some (.inl (b + 1))] ⟨rfl, ⟨rfl, ⟨rfl, ⟨rfl, trivial⟩⟩⟩⟩ ?_
    exact ih _ (okT_up hT (by omega) (by omega)) (fill_s hf hi1 hi2 (by omega) rfl)
set_option maxHeartbeats 4000000 in
set_option maxRecDepth 100000 in
theorem s_bfO {X : Nat × Nat × (Nat → Int32)} {n : Int} {Q : Option mPV → mPW → Prop} (hn : okN n) (K : ∀ T : Int → Int, okT T → fill n (fpS n) T n 0 → Q none (mS n T)) : ∀ a : Int, 0 ≤ a → a ≤ n → ∀ (T : Int → Int) (hT : okT T) (hf : fill n (fpS n) T a 0), m_Sem X 21 (7, [some (.inr (.inl 2)), some (.inl n), some (.inl a), none], [], mS n T, 0, 0) (Q) := by
  have hl := okN_lo hn
  refine m_down 0 n ?_ ?_
  · intro T hT hf
    show m_Sem X 21 (7, [some (.inr (.inl 2)), some (.inl n), some (.inl n), none], [], mS n T, 0, 0) _
    refine m_run 2 (ps' := (9, [some (.inr (.inl 2)), some (.inl n), some (.inl n), none], [.inl n, .inl n], mS n T, 0, 0)) rfl ?_
    refine m_icmp rfl ⟨by omega, by omega⟩ ⟨by omega, by omega⟩ (fun (zc1 : n ≤ n) => ?_) (fun (zc1 : ¬ n ≤ n) => absurd zc1 (not_not_intro (by omega)))
    exact m_ret0 rfl rfl rfl (K T hT hf)
  · intro a hi1 hi2 ih T hT hf
    refine m_run 2 (ps' := (9, [some (.inr (.inl 2)), some (.inl n), some (.inl a), none], [.inl n, .inl a], mS n T, 0, 0)) rfl ?_
    refine m_icmp rfl ⟨by omega, by omega⟩ ⟨by omega, by omega⟩ (fun (zc1 : n ≤ a) => absurd zc1 (by omega)) (fun (zc1 : ¬ n ≤ a) => ?_)
    refine m_run 2 (ps' := (14, [some (.inr (.inl 2)), some (.inl n), some (.inl a), some (.inl 0)], [], mS n T, 0, 0)) rfl ?_
    refine m_weak [some (.inr (.inl 2)), some (.inl n), some (.inl a), some (.inl 0)] ⟨rfl, ⟨rfl, ⟨rfl, ⟨rfl, trivial⟩⟩⟩⟩ ?_
    exact s_bfI hn hi1 hi2 ih 0 (by omega) (by omega) T hT hf
set_option maxHeartbeats 4000000 in
set_option maxRecDepth 100000 in
theorem s_bf {X : Nat × Nat × (Nat → Int32)} {n : Int} {n0 : Int} {T : Int → Int} (hn : okN n) (hT : okT T) : m_Run X 21 [.inr (.inl 2), .inl n] (mS n0 T) (fun r w => r = none ∧ ∃ T2, w = mS n T2 ∧ okT T2 ∧ ∀ a b, 0 ≤ a → a < n → 0 ≤ b → b < n → T2 (9 * a + b) = fpS n a b) := by
  have hl := okN_lo hn
  show m_Sem X 21 (0, [some (.inr (.inl 2)), some (.inl n), none, none], [], mS n0 T, 0, 0) _
  refine m_run 5 (ps' := (7, [some (.inr (.inl 2)), some (.inl n), some (.inl 0), none], [], mS n T, 0, 0)) rfl ?_
  refine m_weak [some (.inr (.inl 2)), some (.inl n), some (.inl 0), none] ⟨rfl, ⟨rfl, ⟨rfl, trivial⟩⟩⟩ ?_
  exact s_bfO hn (fun T2 hT2 hf => ⟨rfl, T2, rfl, hT2, fill_e hf⟩) 0 (by omega) (by omega) T hT fill_0
set_option maxHeartbeats 4000000 in
set_option maxRecDepth 100000 in
theorem i_ring {X : Nat × Nat × (Nat → Int32)} : m_Run X 13 [.inr (.inl 2)] ([.inr (5, [.inr (.inr .null), .inr (.inr .null), .inr (.inr .null), .inr (.inr .null), .inr (.inr .null)]), .inr (2, [.inr (.inr .null)]), .inr (3, [.inl 0, .inr (.inr .null)])]) (fun r w => r = none ∧ ∃ T2, w = mS 3 T2 ∧ okT T2 ∧ ∀ a b, 0 ≤ a → a < 3 → 0 ≤ b → b < 3 → T2 (9 * a + b) = fpS 3 a b) := by
  show m_Sem X 13 (0, [some (.inr (.inl 2))], [], [.inr (5, [.inr (.inr .null), .inr (.inr .null), .inr (.inr .null), .inr (.inr .null), .inr (.inr .null)]), .inr (2, [.inr (.inr .null)]), .inr (3, [.inl 0, .inr (.inr .null)])], 1, 81) _
  refine m_run 8 (ps' := (14, [some (.inr (.inl 2))], [.inl 3, .inr (.inl 2)], mS 0 (fun _ => 0), 0, 0)) rfl ?_
  refine m_callV [.inl 3] [] rfl rfl ⟨_, rfl, rfl⟩ rfl rfl (s_bf (by unfold okN; omega) (fun j _ _ => ⟨Int.le_refl 0, by decide⟩)) (fun r_ w_ hq_ _ => ?_)
  obtain ⟨rfl, T2, rfl, hT2, hF2⟩ := hq_
  show m_Sem X 13 (17, [some (.inr (.inl 2))], [], mS 3 T2, 0, 0) _
  exact m_ret0 rfl rfl rfl ⟨rfl, T2, rfl, hT2, hF2⟩
set_option maxHeartbeats 4000000 in
set_option maxRecDepth 100000 in
theorem i_plane {X : Nat × Nat × (Nat → Int32)} : m_Run X 11 [.inr (.inl 1)] ([.inr (5, [.inr (.inr .null), .inr (.inr .null), .inr (.inr .null), .inr (.inr .null), .inr (.inr .null)]), .inr (2, [.inr (.inr .null)])]) (fun r w => r = none ∧ ∃ T2, w = [.inr (5, [.inr (.inr .null), .inr (.inr .null), .inr (.inr .null), .inr (.inr .null), .inr (.inr .null)]), .inr (2, [.inr (.inl 2)]), .inr (3, [.inl 3, .inr (.inl 3)]), .inl (0, 81, .inl T2)] ∧ okT T2 ∧ ∀ a b, 0 ≤ a → a < 3 → 0 ≤ b → b < 3 → T2 (9 * a + b) = fpS 3 a b) := by
  show m_Sem X 11 (0, [some (.inr (.inl 1))], [], [.inr (5, [.inr (.inr .null), .inr (.inr .null), .inr (.inr .null), .inr (.inr .null), .inr (.inr .null)]), .inr (2, [.inr (.inr .null)])], 2, 83) _
  refine m_run 5 (ps' := (9, [some (.inr (.inl 1))], [.inr (.inl 2), .inr (.inl 2), .inr (.inl 1)], [.inr (5, [.inr (.inr .null), .inr (.inr .null), .inr (.inr .null), .inr (.inr .null), .inr (.inr .null)]), .inr (2, [.inr (.inr .null)]), .inr (3, [.inl 0, .inr (.inr .null)])], 1, 81)) rfl ?_
  refine m_callI [] [.inr (.inl 2), .inr (.inl 1)] rfl rfl rfl i_ring (fun r_ w_ hq_ _ => ?_)
  obtain ⟨rfl, T2, rfl, hT2, hF2⟩ := hq_
  show m_Sem X 11 (12, [some (.inr (.inl 1))], [.inr (.inl 2), .inr (.inl 1)], mS 3 T2, 0, 0) _
  refine m_run 1 (ps' := (15, [some (.inr (.inl 1))], [], [.inr (5, [.inr (.inr .null), .inr (.inr .null), .inr (.inr .null), .inr (.inr .null), .inr (.inr .null)]), .inr (2, [.inr (.inl 2)]), .inr (3, [.inl 3, .inr (.inl 3)]), .inl (0, 81, .inl T2)], 0, 0)) rfl ?_
  exact m_ret0 rfl rfl rfl ⟨rfl, T2, rfl, hT2, hF2⟩
set_option maxHeartbeats 4000000 in
set_option maxRecDepth 100000 in
theorem i_his {X : Nat × Nat × (Nat → Int32)} {c0_ c1_ c2_ c3_ : mPC} : m_Run X 1 [.inr (.inl 4)] ([c0_, c1_, c2_, c3_, .inr (0, [.inr (.inr .null), .inr (.inr .null), .inl 0])]) (m_U [c0_, c1_, c2_, c3_, .inr (0, [.inr (.inl 5), .inr (.inl 6), .inl 0]), .inl (0, 4, .inl (fun _ => 0)), .inl (0, 324, .inl (fun _ => 0))]) := by
  show m_Sem X 1 (0, [some (.inr (.inl 4))], [], [c0_, c1_, c2_, c3_, .inr (0, [.inr (.inr .null), .inr (.inr .null), .inl 0])], 2, 328) _
  refine m_run 10 (ps' := (20, [some (.inr (.inl 4))], [], [c0_, c1_, c2_, c3_, .inr (0, [.inr (.inl 5), .inr (.inl 6), .inl 0]), .inl (0, 4, .inl (fun _ => 0)), .inl (0, 324, .inl (fun _ => 0))], 0, 0)) rfl ?_
  exact m_ret0 rfl rfl rfl ⟨rfl, rfl⟩
set_option maxHeartbeats 4000000 in
set_option maxRecDepth 100000 in
theorem i_tex {X : Nat × Nat × (Nat → Int32)} {c0_ c1_ c2_ c3_ c4_ c5_ c6_ : mPC} : m_Run X 28 [.inr (.inl 7)] ([c0_, c1_, c2_, c3_, c4_, c5_, c6_, .inr (4, [.inr (.inr .null), .inl 0])]) (m_U [c0_, c1_, c2_, c3_, c4_, c5_, c6_, .inr (4, [.inr (.inl 8), .inl 0]), .inl (1, 60, .inl (fun _ => 0))]) := by
  show m_Sem X 28 (0, [some (.inr (.inl 7))], [], [c0_, c1_, c2_, c3_, c4_, c5_, c6_, .inr (4, [.inr (.inr .null), .inl 0])], 1, 60) _
  refine m_run 6 (ps' := (12, [some (.inr (.inl 7))], [], [c0_, c1_, c2_, c3_, c4_, c5_, c6_, .inr (4, [.inr (.inl 8), .inl 0]), .inl (1, 60, .inl (fun _ => 0))], 0, 0)) rfl ?_
  exact m_ret0 rfl rfl rfl ⟨rfl, rfl⟩
set_option maxHeartbeats 4000000 in
set_option maxRecDepth 100000 in
theorem i_mir {X : Nat × Nat × (Nat → Int32)} {c0_ c1_ c2_ c3_ c4_ c5_ c6_ c7_ c8_ : mPC} : m_Run X 10 [.inr (.inl 9)] ([c0_, c1_, c2_, c3_, c4_, c5_, c6_, c7_, c8_, .inr (1, [.inr (.inr .null), .inr (.inr .null), .inr (.inr .null), .inl 0, .inl 0, .inl 0])]) (m_U [c0_, c1_, c2_, c3_, c4_, c5_, c6_, c7_, c8_, .inr (1, [.inr (.inl 10), .inr (.inl 11), .inr (.inl 12), .inl 0, .inl 0, .inl 0]), .inl (0, 91, .inl (fun _ => 0)), .inl (0, 91, .inl (fun _ => 0)), .inl (0, 91, .inl (fun _ => 0))]) := by
  show m_Sem X 10 (0, [some (.inr (.inl 9))], [], [c0_, c1_, c2_, c3_, c4_, c5_, c6_, c7_, c8_, .inr (1, [.inr (.inr .null), .inr (.inr .null), .inr (.inr .null), .inl 0, .inl 0, .inl 0])], 3, 273) _
  refine m_run 14 (ps' := (28, [some (.inr (.inl 9))], [], [c0_, c1_, c2_, c3_, c4_, c5_, c6_, c7_, c8_, .inr (1, [.inr (.inl 10), .inr (.inl 11), .inr (.inl 12), .inl 0, .inl 0, .inl 0]), .inl (0, 91, .inl (fun _ => 0)), .inl (0, 91, .inl (fun _ => 0)), .inl (0, 91, .inl (fun _ => 0))], 0, 0)) rfl ?_
  exact m_ret0 rfl rfl rfl ⟨rfl, rfl⟩
set_option maxHeartbeats 4000000 in
set_option maxRecDepth 100000 in
theorem i_rp {X : Nat × Nat × (Nat → Int32)} : m_Run X 29 [.inr (.inl 0)] ([.inr (5, [.inr (.inr .null), .inr (.inr .null), .inr (.inr .null), .inr (.inr .null), .inr (.inr .null)])]) (fun r w => r = none ∧ ∃ T2, w = mC (3, T2, (0, (fun _ => 0), (fun _ => 0)), (0, (fun _ => 0)), ((fun _ => 0), (fun _ => 0), (fun _ => 0), 0, 0, 0)) ∧ okT T2 ∧ ∀ a b, 0 ≤ a → a < 3 → 0 ≤ b → b < 3 → T2 (9 * a + b) = fpS 3 a b) := by
  show m_Sem X 29 (0, [some (.inr (.inl 0))], [], [.inr (5, [.inr (.inr .null), .inr (.inr .null), .inr (.inr .null), .inr (.inr .null), .inr (.inr .null)])], 12, 756) _
  refine m_run 5 (ps' := (9, [some (.inr (.inl 0))], [.inr (.inl 1), .inr (.inl 1), .inr (.inl 0)], [.inr (5, [.inr (.inr .null), .inr (.inr .null), .inr (.inr .null), .inr (.inr .null), .inr (.inr .null)]), .inr (2, [.inr (.inr .null)])], 11, 755)) rfl ?_
  refine m_callI [] [.inr (.inl 1), .inr (.inl 0)] rfl rfl rfl i_plane (fun r_ w_ hq_ _ => ?_)
  obtain ⟨rfl, T2, rfl, hT2, hF2⟩ := hq_
  show m_Sem X 29 (12, [some (.inr (.inl 0))], [.inr (.inl 1), .inr (.inl 0)], [.inr (5, [.inr (.inr .null), .inr (.inr .null), .inr (.inr .null), .inr (.inr .null), .inr (.inr .null)]), .inr (2, [.inr (.inl 2)]), .inr (3, [.inl 3, .inr (.inl 3)]), .inl (0, 81, .inl T2)], 9, 672) _
  refine m_run 9 (ps' := (31, [some (.inr (.inl 0))], [.inr (.inl 4), .inr (.inl 4), .inr (.inl 0)], [.inr (5, [.inr (.inl 1), .inr (.inl 2), .inr (.inr .null), .inr (.inr .null), .inr (.inr .null)]), .inr (2, [.inr (.inl 2)]), .inr (3, [.inl 3, .inr (.inl 3)]), .inl (0, 81, .inl T2), .inr (0, [.inr (.inr .null), .inr (.inr .null), .inl 0])], 8, 669)) rfl ?_
  refine m_callIU [] [.inr (.inl 4), .inr (.inl 0)] rfl rfl rfl i_his ?_
  show m_Sem X 29 (34, [some (.inr (.inl 0))], [.inr (.inl 4), .inr (.inl 0)], [.inr (5, [.inr (.inl 1), .inr (.inl 2), .inr (.inr .null), .inr (.inr .null), .inr (.inr .null)]), .inr (2, [.inr (.inl 2)]), .inr (3, [.inl 3, .inr (.inl 3)]), .inl (0, 81, .inl T2), .inr (0, [.inr (.inl 5), .inr (.inl 6), .inl 0]), .inl (0, 4, .inl (fun _ => 0)), .inl (0, 324, .inl (fun _ => 0))], 6, 341) _
  refine m_run 4 (ps' := (42, [some (.inr (.inl 0))], [.inr (.inl 7), .inr (.inl 7), .inr (.inl 0)], [.inr (5, [.inr (.inl 1), .inr (.inl 2), .inr (.inl 4), .inr (.inr .null), .inr (.inr .null)]), .inr (2, [.inr (.inl 2)]), .inr (3, [.inl 3, .inr (.inl 3)]), .inl (0, 81, .inl T2), .inr (0, [.inr (.inl 5), .inr (.inl 6), .inl 0]), .inl (0, 4, .inl (fun _ => 0)), .inl (0, 324, .inl (fun _ => 0)), .inr (4, [.inr (.inr .null), .inl 0])], 5, 339)) rfl ?_
  refine m_callIU [] [.inr (.inl 7), .inr (.inl 0)] rfl rfl rfl i_tex ?_
  show m_Sem X 29 (45, [some (.inr (.inl 0))], [.inr (.inl 7), .inr (.inl 0)], [.inr (5, [.inr (.inl 1), .inr (.inl 2), .inr (.inl 4), .inr (.inr .null), .inr (.inr .null)]), .inr (2, [.inr (.inl 2)]), .inr (3, [.inl 3, .inr (.inl 3)]), .inl (0, 81, .inl T2), .inr (0, [.inr (.inl 5), .inr (.inl 6), .inl 0]), .inl (0, 4, .inl (fun _ => 0)), .inl (0, 324, .inl (fun _ => 0)), .inr (4, [.inr (.inl 8), .inl 0]), .inl (1, 60, .inl (fun _ => 0))], 4, 279) _
  refine m_run 4 (ps' := (53, [some (.inr (.inl 0))], [.inr (.inl 9), .inr (.inl 9), .inr (.inl 0)], [.inr (5, [.inr (.inl 1), .inr (.inl 2), .inr (.inl 4), .inr (.inl 7), .inr (.inr .null)]), .inr (2, [.inr (.inl 2)]), .inr (3, [.inl 3, .inr (.inl 3)]), .inl (0, 81, .inl T2), .inr (0, [.inr (.inl 5), .inr (.inl 6), .inl 0]), .inl (0, 4, .inl (fun _ => 0)), .inl (0, 324, .inl (fun _ => 0)), .inr (4, [.inr (.inl 8), .inl 0]), .inl (1, 60, .inl (fun _ => 0)), .inr (1, [.inr (.inr .null), .inr (.inr .null), .inr (.inr .null), .inl 0, .inl 0, .inl 0])], 3, 273)) rfl ?_
  refine m_callIU [] [.inr (.inl 9), .inr (.inl 0)] rfl rfl rfl i_mir ?_
  show m_Sem X 29 (56, [some (.inr (.inl 0))], [.inr (.inl 9), .inr (.inl 0)], [.inr (5, [.inr (.inl 1), .inr (.inl 2), .inr (.inl 4), .inr (.inl 7), .inr (.inr .null)]), .inr (2, [.inr (.inl 2)]), .inr (3, [.inl 3, .inr (.inl 3)]), .inl (0, 81, .inl T2), .inr (0, [.inr (.inl 5), .inr (.inl 6), .inl 0]), .inl (0, 4, .inl (fun _ => 0)), .inl (0, 324, .inl (fun _ => 0)), .inr (4, [.inr (.inl 8), .inl 0]), .inl (1, 60, .inl (fun _ => 0)), .inr (1, [.inr (.inl 10), .inr (.inl 11), .inr (.inl 12), .inl 0, .inl 0, .inl 0]), .inl (0, 91, .inl (fun _ => 0)), .inl (0, 91, .inl (fun _ => 0)), .inl (0, 91, .inl (fun _ => 0))], 0, 0) _
  refine m_run 1 (ps' := (59, [some (.inr (.inl 0))], [], mC (3, T2, (0, (fun _ => 0), (fun _ => 0)), (0, (fun _ => 0)), ((fun _ => 0), (fun _ => 0), (fun _ => 0), 0, 0, 0)), 0, 0)) rfl ?_
  exact m_ret0 rfl rfl rfl ⟨rfl, T2, rfl, hT2, hF2⟩
end
section
/-! The law's own table: rows of four bits. -/
def bitL (x : Int64) (k : Nat) : Bool := x.toBitVec.getLsbD k
theorem bitL_and (x y : Int64) (k : Nat) : bitL (x &&& y) k = (bitL x k && bitL y k) := by
  unfold bitL
  rw [Int64.toBitVec_and, BitVec.getLsbD_and]
theorem bitL_or (x y : Int64) (k : Nat) : bitL (x ||| y) k = (bitL x k || bitL y k) := by
  unfold bitL
  rw [Int64.toBitVec_or, BitVec.getLsbD_or]
theorem bitL_xor (x y : Int64) (k : Nat) : bitL (x ^^^ y) k = (bitL x k ^^ bitL y k) := by
  unfold bitL
  rw [Int64.toBitVec_xor, BitVec.getLsbD_xor]
theorem bitL_ge (x : Int64) {k : Nat} (h : 64 ≤ k) : bitL x k = false := BitVec.getLsbD_of_ge x.toBitVec k h
theorem bit_ext {x y : Int64} (h : ∀ i, i < 64 → bitL x i = bitL y i) : x = y := by
  apply Int64.toBitVec_inj.mp
  apply BitVec.eq_of_getLsbD_eq
  intro i hi
  exact h i hi
theorem sh_63 {k : Int} (h1 : 0 ≤ k) (h2 : k < 64) : ((Int32.ofInt k).toInt64 &&& 63) = Int64.ofNat k.toNat := by
  have h : ∀ k, k < 64 → ((Int32.ofInt ((k : Nat) : Int)).toInt64 &&& 63) = Int64.ofNat k := by decide +kernel
  have h3 := h k.toNat (by omega)
  rw [Int.toNat_of_nonneg h1] at h3
  exact h3
theorem smod_k : ∀ k, k < 64 → ((Int64.ofNat k).toBitVec.smod 64).toNat = k := by decide +kernel
theorem updL_s (f : Nat → Int64) (j : Nat) (v : Int64) : vp_updL f j v j = v := by unfold vp_updL; simp
theorem updL_n (f : Nat → Int64) {j k : Nat} (v : Int64) (h : ¬ k = j) : vp_updL f j v k = f k := by unfold vp_updL; simp [h]
def nib (x : Int64) (b : Int) : Int := ((x >>> ((Int32.ofInt (4 * b)).toInt64 &&& 63)) &&& Int64.ofInt 15).toInt32.toInt
def putN (x : Int64) (b r : Int) : Int64 := (x &&& ((Int64.ofInt 15 <<< ((Int32.ofInt (4 * b)).toInt64 &&& 63)) ^^^ Int64.ofInt (-1))) ||| ((Int32.ofInt r).toInt64 <<< ((Int32.ofInt (4 * b)).toInt64 &&& 63))
theorem sh4 {b : Int} (h1 : 0 ≤ b) (h2 : b < 9) : ((Int32.ofInt (4 * b)).toInt64 &&& 63) = Int64.ofNat (4 * b.toNat) := by
  rw [sh_63 (by omega) (by omega), show (4 * b).toNat = 4 * b.toNat by omega]
theorem bitL_15 : ∀ j, j < 64 → bitL (Int64.ofInt 15) j = decide (j < 4) := by decide +kernel
theorem bitL_m1 : ∀ j, j < 64 → bitL (Int64.ofInt (-1)) j = true := by decide +kernel
theorem bitL_k15 : ∀ b, b < 9 → ∀ j, j < 64 → bitL (Int64.ofInt 15 <<< Int64.ofNat (4 * b)) j = decide (4 * b ≤ j ∧ j < 4 * b + 4) := by decide +kernel
theorem bitL_kr : ∀ r, r < 16 → ∀ b, b < 9 → ∀ j, j < 64 → bitL ((Int32.ofInt ((r : Nat) : Int)).toInt64 <<< Int64.ofNat (4 * b)) j = (decide (4 * b ≤ j ∧ j < 4 * b + 4) && r.testBit (j - 4 * b)) := by decide +kernel
theorem bitL_n : ∀ r, r < 16 → ∀ j, j < 64 → bitL (Int64.ofNat r) j = (decide (j < 4) && r.testBit j) := by decide +kernel
theorem nib_val : ∀ r, r < 16 → (Int64.ofNat r).toInt32.toInt = ((r : Nat) : Int) := by decide +kernel
theorem nib_bit (x : Int64) {k : Nat} (hk : k ≤ 32) {i : Nat} (hi : i < 64) : bitL ((x >>> Int64.ofNat k) &&& Int64.ofInt 15) i = (decide (i < 4) && bitL x (k + i)) := by
  rw [bitL_and, bitL_15 i hi]
  by_cases h4 : i < 4
  · rw [decide_eq_true h4, Bool.and_true, Bool.true_and]
    show ((x >>> Int64.ofNat k).toBitVec.getLsbD i) = _
    rw [Int64.toBitVec_shiftRight, BitVec.getLsbD_sshiftRight', smod_k k (by omega), if_pos (show k + i < 64 by omega), decide_eq_false (show ¬ 64 ≤ i by omega)]
    rfl
  · rw [decide_eq_false h4, Bool.and_false, Bool.false_and]
theorem put_bit (x : Int64) {b r : Int} (h1 : 0 ≤ b) (h2 : b < 9) (h3 : 0 ≤ r) (h4 : r < 16) {i : Nat} (hi : i < 64) : bitL (putN x b r) i = if 4 * b.toNat ≤ i ∧ i < 4 * b.toNat + 4 then r.toNat.testBit (i - 4 * b.toNat) else bitL x i := by
  have hr := bitL_kr r.toNat (by omega) b.toNat (by omega) i hi
  rw [Int.toNat_of_nonneg h3] at hr
  unfold putN
  rw [sh4 h1 h2, bitL_or, bitL_and, bitL_xor, bitL_m1 i hi, bitL_k15 b.toNat (by omega) i hi, hr]
  by_cases hc : 4 * b.toNat ≤ i ∧ i < 4 * b.toNat + 4
  · rw [if_pos hc, decide_eq_true hc]
    simp
  · rw [if_neg hc, decide_eq_false hc]
    simp
theorem nib_put_s (x : Int64) {b r : Int} (h1 : 0 ≤ b) (h2 : b < 9) (h3 : 0 ≤ r) (h4 : r < 16) : nib (putN x b r) b = r := by
  have he : (putN x b r >>> Int64.ofNat (4 * b.toNat)) &&& Int64.ofInt 15 = Int64.ofNat r.toNat := bit_ext (fun i hi => by
    rw [nib_bit _ (by omega) hi, bitL_n r.toNat (by omega) i hi]
    by_cases h5 : i < 4
    · rw [put_bit x h1 h2 h3 h4 (by omega), if_pos (by omega), show 4 * b.toNat + i - 4 * b.toNat = i by omega]
    · rw [decide_eq_false h5]; rfl)
  unfold nib
  rw [sh4 h1 h2, he, nib_val r.toNat (by omega), Int.toNat_of_nonneg h3]
theorem nib_put_n (x : Int64) {b b' r : Int} (h1 : 0 ≤ b) (h2 : b < 9) (h3 : 0 ≤ r) (h4 : r < 16) (h5 : 0 ≤ b') (h6 : b' < 9) (hne : ¬ b' = b) : nib (putN x b r) b' = nib x b' := by
  have he : (putN x b r >>> Int64.ofNat (4 * b'.toNat)) &&& Int64.ofInt 15 = (x >>> Int64.ofNat (4 * b'.toNat)) &&& Int64.ofInt 15 := bit_ext (fun i hi => by
    rw [nib_bit _ (by omega) hi, nib_bit _ (by omega) hi]
    by_cases h7 : i < 4
    · rw [put_bit x h1 h2 h3 h4 (by omega), if_neg (by omega)]
    · rw [decide_eq_false h7]; rfl)
  unfold nib
  rw [sh4 h5 h6, he]
/-- a table in rows of four bits, after one put -/
def putF (f : Nat → Int64) (a b r : Int) : Nat → Int64 := vp_updL f a.toNat (putN (f a.toNat) b r)
theorem putF_s (f : Nat → Int64) {a b r : Int} (h1 : 0 ≤ b) (h2 : b < 9) (h3 : 0 ≤ r) (h4 : r < 16) : nib (putF f a b r a.toNat) b = r := by
  unfold putF
  rw [updL_s]
  exact nib_put_s _ h1 h2 h3 h4
theorem putF_n (f : Nat → Int64) {a b r a' b' : Int} (ha : 0 ≤ a) (ha' : 0 ≤ a') (h1 : 0 ≤ b) (h2 : b < 9) (h3 : 0 ≤ r) (h4 : r < 16) (h5 : 0 ≤ b') (h6 : b' < 9) (hne : ¬ (a' = a ∧ b' = b)) : nib (putF f a b r a'.toNat) b' = nib (f a'.toNat) b' := by
  unfold putF
  by_cases h : a'.toNat = a.toNat
  · rw [h, updL_s]
    exact nib_put_n _ h1 h2 h3 h4 h5 h6 (by omega)
  · rw [updL_n _ _ h]
def repL (n : Int) (f : Nat → Int64) (tb : Int → Int → Int) : Prop := okN n ∧ ∀ a b, 0 ≤ a → a < n → 0 ≤ b → b < n → nib (f a.toNat) b = tb a b ∧ 0 ≤ tb a b ∧ tb a b < n
/-! sums, differences and products as the law writes them -/
def addL (n a b : Int) : Int := if n = 9 then (a / 3 + b / 3) % 3 * 3 + (a % 3 + b % 3) % 3 else if n = 4 then (Int32.ofInt a ^^^ Int32.ofInt b).toInt else (a + b) % n
theorem addL_eq {n a b : Int} (hn : okN n) (ha : 0 ≤ a) (ha' : a < n) (hb : 0 ≤ b) (hb' : b < n) : addL n a b = sumS n a b := all2 (P := fun n a b => addL n a b = sumS n a b) (by decide +kernel) hn ha ha' hb hb'
def difL (n a b : Int) : Int := if n = 9 then (a / 3 + 3 - b / 3) % 3 * 3 + (a % 3 + 3 - b % 3) % 3 else if n = 4 then (Int32.ofInt a ^^^ Int32.ofInt b).toInt else (a + n - b) % n
theorem difL_eq {n a b : Int} (hn : okN n) (ha : 0 ≤ a) (ha' : a < n) (hb : 0 ≤ b) (hb' : b < n) : difL n a b = difS n a b := all2 (P := fun n a b => difL n a b = difS n a b) (by decide +kernel) hn ha ha' hb hb'
def mulL (n a b : Int) : Int := if n = 4 then (if a = 0 ∨ b = 0 then 0 else (a - 1 + b - 1) % 3 + 1) else if n = 9 then 3 * ((a / 3 * b + b / 3 * a) % 3) + (a * b + 6 - a / 3 * (b / 3)) % 3 else a * b % n
theorem mulL_eq {n a b : Int} (hn : okN n) (ha : 0 ≤ a) (ha' : a < n) (hb : 0 ≤ b) (hb' : b < n) : mulL n a b = fpS n a b := all2 (P := fun n a b => mulL n a b = fpS n a b) (by decide +kernel) hn ha ha' hb hb'
theorem dif_iff {n x y z : Int} (hn : okN n) (hx : 0 ≤ x) (hx' : x < n) (hy : 0 ≤ y) (hy' : y < n) (hz : 0 ≤ z) (hz' : z < n) : difS n x y = z ↔ x = sumS n y z := by
  refine ⟨fun h => ?_, fun h => ?_⟩
  · rw [← h, sum_dif hn hx hx' hy hy']
  · rw [h]
    exact dif_sum hn hz hz' hy hy'
/-! sets of small numbers -/
def setK (f : Int → Int) : Nat → Int → Nat → Nat
  | 0, _, s => s
  | k + 1, i, s => setK f k (i + 1) (s ||| 2 ^ (f i).toNat)
theorem set_end (f : Int → Int) (n : Int) (s : Nat) : setK f (n - n).toNat n s = s := by rw [nat_end]; rfl
theorem set_step {f : Int → Int} {n i : Int} {s : Nat} (h : i < n) : setK f (n - i).toNat i s = setK f (n - (i + 1)).toNat (i + 1) (s ||| 2 ^ (f i).toNat) := by rw [nat_step h]; rfl
theorem set_lt (f : Int → Int) : ∀ (k : Nat) (i : Int) (s : Nat), (∀ j, i ≤ j → j < i + k → 0 ≤ f j ∧ f j < 9) → s < 512 → setK f k i s < 512
  | 0, _, _, _, h => h
  | k + 1, i, s, h, hs => by
    have h0 := h i (by omega) (by omega)
    exact set_lt f k (i + 1) _ (fun j h1 h2 => h j (by omega) (by omega)) (or9 hs (pow9 h0.1 h0.2))
theorem set_bits (f : Int → Int) : ∀ (k : Nat) (i : Int) (s : Nat), (∀ j, i ≤ j → j < i + k → 0 ≤ f j) → popc (setK f k i s) = sumF (fun v => bI (s.testBit v.toNat || decide (1 ≤ cnV f v k i))) 9 0
  | 0, i, s, _ => by
    show popc s = _
    unfold popc
    refine sum_congr 9 0 (fun v h1 h2 => ?_)
    rw [show cnV f v 0 i = 0 from rfl, decide_eq_false (by decide), Bool.or_false]
  | k + 1, i, s, h => by
    show popc (setK f k (i + 1) (s ||| 2 ^ (f i).toNat)) = _
    rw [set_bits f k (i + 1) _ (fun j h1 h2 => h j (by omega) (by omega))]
    refine sum_congr 9 0 (fun v h1 h2 => ?_)
    have h3 := h i (by omega) (by omega)
    have h4 : 0 ≤ cnV f v k (i + 1) := (cnP_in (fun m => decide (f m = v)) k (i + 1)).1
    have e1 : cnV f v (k + 1) i = bI (decide (f i = v)) + cnV f v k (i + 1) := rfl
    rw [Nat.testBit_or, pw_bit, e1]
    by_cases he : f i = v
    · rw [decide_eq_true he, decide_eq_true (show (f i).toNat = v.toNat by omega), Bool.or_true, Bool.true_or]
      rw [decide_eq_true (show 1 ≤ bI true + cnV f v k (i + 1) by show 1 ≤ 1 + _; omega), Bool.or_true]
    · rw [decide_eq_false he, decide_eq_false (show ¬ (f i).toNat = v.toNat by omega), Bool.or_false]
      rw [show bI false + cnV f v k (i + 1) = cnV f v k (i + 1) from Int.zero_add _]
theorem cn_lt {f g : Int → Int} {j0 : Int} : ∀ (k : Nat) (i : Int), (∀ j, i ≤ j → j < i + k → f j ≤ g j) → i ≤ j0 → j0 < i + k → f j0 < g j0 → sumF f k i < sumF g k i
  | 0, _, _, h1, h2, _ => by omega
  | k + 1, i, h, h1, h2, h3 => by
    unfold sumF
    have h4 := h i (by omega) (by omega)
    by_cases he : i = j0
    · subst he
      have h5 := cn_le (f := f) (g := g) k (i + 1) (fun j h1 h2 => h j (by omega) (by omega))
      omega
    · have h5 := cn_lt k (i + 1) (fun j h1 h2 => h j (by omega) (by omega)) (by omega) (by omega) h3
      omega
/-- a set has as many elements as there were numbers just where each number came just once -/
theorem set_once {n : Int} {f : Int → Int} (h1 : 0 ≤ n) (h2 : n ≤ 9) (hf : ∀ j, 0 ≤ j → j < n → 0 ≤ f j ∧ f j < n) : decide (popc (setK f n.toNat 0 0) = n) = decide (onceK f n.toNat 0 0 0 = n) := by
  have eA := once_bits f n.toNat 0 0 0 (fun j g1 g2 => (hf j g1 (by omega)).1)
  have eB := set_bits f n.toNat 0 0 (fun j g1 g2 => (hf j g1 (by omega)).1)
  have hc : ∀ v, 0 ≤ cnV f v n.toNat 0 := fun v => (cnP_in (fun m => decide (f m = v)) n.toNat 0).1
  have eS : sumF (fun v => cnV f v n.toNat 0) 9 0 = n := by
    show sumF (fun v => sumF (fun m => bI (decide (f m = v))) n.toNat 0) 9 0 = n
    rw [cn_swap (fun v m => bI (decide (f m = v)))]
    rw [cn_const (c := 1) n.toNat 0 (fun m g1 g2 => ?_)]
    · omega
    · have g3 := hf m g1 (by omega)
      exact (cnP_one (p := fun v => decide (f m = v)) 9 0).mpr ⟨f m, ⟨g3.1, by omega, decide_eq_true rfl⟩, fun j' _ _ g6 => (of_decide_eq_true g6).symm⟩
  have fA : ∀ v, bI (onB (Nat.testBit 0 v.toNat) (Nat.testBit 0 v.toNat) (cnV f v n.toNat 0)) ≤ cnV f v n.toNat 0 := by
    intro v
    have g := hc v
    rw [Nat.zero_testBit]
    unfold onB
    by_cases h : cnV f v n.toNat 0 = 1
    · rw [h]; decide
    · simp only [Bool.not_false, Bool.true_and, cond_false, decide_eq_false h]; exact g
  have fB : ∀ v, bI (Nat.testBit 0 v.toNat || decide (1 ≤ cnV f v n.toNat 0)) ≤ cnV f v n.toNat 0 := by
    intro v
    have g := hc v
    rw [Nat.zero_testBit, Bool.false_or]
    by_cases h : 1 ≤ cnV f v n.toNat 0
    · rw [decide_eq_true h]; exact h
    · rw [decide_eq_false h]; exact g
  by_cases hx : ∃ v, 0 ≤ v ∧ v < 9 ∧ 2 ≤ cnV f v n.toNat 0
  · obtain ⟨v, g1, g2, g3⟩ := hx
    have sA := cn_lt (f := fun v => bI (onB (Nat.testBit 0 v.toNat) (Nat.testBit 0 v.toNat) (cnV f v n.toNat 0))) (g := fun v => cnV f v n.toNat 0) 9 0 (fun j _ _ => fA j) g1 (by omega) (by have := (bI_in (onB (Nat.testBit 0 v.toNat) (Nat.testBit 0 v.toNat) (cnV f v n.toNat 0))).2; omega)
    have sB := cn_lt (f := fun v => bI (Nat.testBit 0 v.toNat || decide (1 ≤ cnV f v n.toNat 0))) (g := fun v => cnV f v n.toNat 0) 9 0 (fun j _ _ => fB j) g1 (by omega) (by have := (bI_in (Nat.testBit 0 v.toNat || decide (1 ≤ cnV f v n.toNat 0))).2; omega)
    rw [← eA] at sA
    rw [← eB] at sB
    rw [eS] at sA sB
    rw [decide_eq_false (by omega), decide_eq_false (by omega)]
  · have hle : ∀ v, 0 ≤ v → v < 9 → cnV f v n.toNat 0 = 0 ∨ cnV f v n.toNat 0 = 1 := by
      intro v g1 g2
      have g3 := hc v
      by_cases g4 : 2 ≤ cnV f v n.toNat 0
      · exact absurd ⟨v, g1, g2, g4⟩ hx
      · omega
    have sA : sumF (fun v => bI (onB (Nat.testBit 0 v.toNat) (Nat.testBit 0 v.toNat) (cnV f v n.toNat 0))) 9 0 = sumF (fun v => cnV f v n.toNat 0) 9 0 := sum_congr 9 0 (fun v g1 g2 => by
      rw [Nat.zero_testBit]
      rcases hle v g1 (by omega) with h | h <;> rw [h] <;> rfl)
    have sB : sumF (fun v => bI (Nat.testBit 0 v.toNat || decide (1 ≤ cnV f v n.toNat 0))) 9 0 = sumF (fun v => cnV f v n.toNat 0) 9 0 := sum_congr 9 0 (fun v g1 g2 => by
      rw [Nat.zero_testBit]
      rcases hle v g1 (by omega) with h | h <;> rw [h] <;> rfl)
    rw [eA, eB, sA, sB]
/-- the bits of a small set, one by one -/
theorem bit_at : ∀ s, s < 512 → ∀ x, x < 9 → (Int32.ofInt (Int32.ofInt ((s : Nat) : Int) >>> (Int32.ofInt ((x : Nat) : Int) &&& 31)).toInt &&& Int32.ofInt 1).toInt = bI (s.testBit x) := by decide +kernel
theorem bit_at_i {s : Nat} {x : Int} (hs : s < 512) (h1 : 0 ≤ x) (h2 : x < 9) : (Int32.ofInt (Int32.ofInt ((s : Nat) : Int) >>> (Int32.ofInt x &&& 31)).toInt &&& Int32.ofInt 1).toInt = bI (s.testBit x.toNat) := by
  have h := bit_at s hs x.toNat (by omega)
  rw [Int.toNat_of_nonneg h1] at h
  exact h
/-! the first witness -/
theorem opt_fst {α : Type} {f : Int → Option α} {a : α} {j : Int} : ∀ (k : Nat) (i : Int), i ≤ j → j < i + k → f j = some a → (∀ j', i ≤ j' → j' < j → f j' = none) → optF f k i = some a
  | 0, i, h1, h2, _, _ => by omega
  | k + 1, i, h1, h2, h3, h4 => by
    unfold optF
    by_cases he : i = j
    · rw [he, h3]
    · rw [h4 i (by omega) (by omega)]
      exact opt_fst k (i + 1) (by omega) (by omega) h3 (fun j' g1 g2 => h4 j' (by omega) g2)
theorem opt_non {α : Type} {f : Int → Option α} : ∀ (k : Nat) (i : Int), (∀ j', i ≤ j' → j' < i + k → f j' = none) → optF f k i = none
  | 0, i, _ => rfl
  | k + 1, i, h => by
    unfold optF
    rw [h i (by omega) (by omega)]
    exact opt_non k (i + 1) (fun j' g1 g2 => h j' (by omega) (by omega))
theorem wit_none {n : Int} {tb : Int → Int → Int} {law : Int} (hn : okN n) (h : ∀ a b c, 0 ≤ a → a < n → 0 ≤ b → b < lbS n law → 0 ≤ c → c < lcS n law → holdsS n tb law a b c = true) : witS n tb law = none := by
  have hl := okN_lo hn
  have hb : 1 ≤ lbS n law := by unfold lbS; split <;> omega
  have hc : 1 ≤ lcS n law := by unfold lcS; split <;> omega
  refine opt_non _ _ (fun a g1 g2 => opt_non _ _ (fun b g3 g4 => opt_non _ _ (fun c g5 g6 => ?_)))
  unfold witC
  rw [if_pos (h a b c g1 (by omega) g3 (by omega) g5 (by omega))]
theorem wit_some {n : Int} {tb : Int → Int → Int} {law a b c : Int} (hn : okN n) (ha : 0 ≤ a) (ha2 : a < n) (hb : 0 ≤ b) (hb2 : b < lbS n law) (hc : 0 ≤ c) (hc2 : c < lcS n law) (hf : holdsS n tb law a b c = false)
    (h : ∀ a' b' c', 0 ≤ a' → a' < n → 0 ≤ b' → b' < lbS n law → 0 ≤ c' → c' < lcS n law → (a' < a ∨ (a' = a ∧ (b' < b ∨ (b' = b ∧ c' < c)))) → holdsS n tb law a' b' c' = true) : witS n tb law = some (a, b, c) := by
  have hl := okN_lo hn
  refine opt_fst (j := a) _ _ ha (by omega) (opt_fst (j := b) _ _ hb (by omega) (opt_fst (j := c) _ _ hc (by omega) ?_ (fun c' g1 g2 => ?_)) (fun b' g1 g2 => opt_non _ _ (fun c' g3 g4 => ?_))) (fun a' g1 g2 => opt_non _ _ (fun b' g3 g4 => opt_non _ _ (fun c' g5 g6 => ?_)))
  · unfold witC; rw [if_neg (by rw [hf]; decide)]
  · unfold witC; rw [if_pos (h a b c' ha ha2 hb hb2 g1 (by omega) (by omega))]
  · unfold witC; rw [if_pos (h a b' c' ha ha2 g1 (by omega) g3 (by omega) (by omega))]
  · unfold witC; rw [if_pos (h a' b' c' g1 (by omega) g3 (by omega) g5 (by omega) (by omega))]
def wcdL : Option (Int × Int × Int) → Int
  | none => -1
  | some (a, b, c) => 100 * a + 10 * b + c
/-- row k of the law's own order, by its three digits -/
theorem dig3 {n k : Int} (hn : okN n) (h1 : 0 ≤ k) (h2 : k < n * n * n) : (0 ≤ k / n / n ∧ k / n / n < n) ∧ (0 ≤ k / n % n ∧ k / n % n < n) ∧ (0 ≤ k % n ∧ k % n < n) := by
  unfold okN at hn
  rcases hn with rfl | rfl | rfl | rfl | rfl | rfl <;> omega
theorem dig3_of {n a b c : Int} (hn : okN n) (ha : 0 ≤ a) (ha2 : a < n) (hb : 0 ≤ b) (hb2 : b < n) (hc : 0 ≤ c) (hc2 : c < n) : ∃ k, (0 ≤ k ∧ k < n * n * n) ∧ k / n / n = a ∧ k / n % n = b ∧ k % n = c := by
  refine ⟨n * n * a + n * b + c, ?_⟩
  unfold okN at hn
  rcases hn with rfl | rfl | rfl | rfl | rfl | rfl <;> omega
theorem dig3_lt {n k k' : Int} (hn : okN n) (h1 : 0 ≤ k) (h2 : k < n * n * n) (h3 : 0 ≤ k') (h4 : k' < n * n * n) (h : k' / n / n < k / n / n ∨ (k' / n / n = k / n / n ∧ (k' / n % n < k / n % n ∨ (k' / n % n = k / n % n ∧ k' % n < k % n)))) : k' < k := by
  unfold okN at hn
  rcases hn with rfl | rfl | rfl | rfl | rfl | rfl <;> omega
def toldL (law b c : Int) : Bool := (decide (1 < law) || decide (b = 0)) && ((decide (1 < law) && decide (law < 5)) || decide (c = 0))
theorem told_iff {n law b c : Int} (hn : okN n) (hb : 0 ≤ b) (hb2 : b < n) (hc : 0 ≤ c) (hc2 : c < n) : toldL law b c = true ↔ b < lbS n law ∧ c < lcS n law := by
  have hl := okN_lo hn
  unfold toldL lbS lcS
  simp only [Bool.and_eq_true, Bool.or_eq_true, decide_eq_true_eq]
  by_cases h1 : 1 < law
  · by_cases h2 : law < 5
    · rw [if_pos h1, if_pos ⟨h1, h2⟩]; omega
    · rw [if_pos h1, if_neg (by omega)]; omega
  · rw [if_neg h1, if_neg (by omega)]; omega
def passL (n : Int) (tb : Int → Int → Int) (law k : Int) : Prop := toldL law (k / n % n) (k % n) = true → holdsS n tb law (k / n / n) (k / n % n) (k % n) = true
theorem scan_none {n : Int} {tb : Int → Int → Int} {law : Int} (hn : okN n) (h : ∀ k, 0 ≤ k → k < n * n * n → passL n tb law k) : witS n tb law = none := by
  have hl := okN_lo hn
  have hlb : lbS n law ≤ n := by unfold lbS; split <;> omega
  have hlc : lcS n law ≤ n := by unfold lcS; split <;> omega
  refine wit_none hn (fun a b c g1 g2 g3 g4 g5 g6 => ?_)
  obtain ⟨k, ⟨e1, e2⟩, rfl, rfl, rfl⟩ := dig3_of hn g1 g2 g3 (by omega) g5 (by omega)
  exact h k e1 e2 ((told_iff hn g3 (by omega) g5 (by omega)).mpr ⟨g4, g6⟩)
theorem scan_some {n : Int} {tb : Int → Int → Int} {law k : Int} (hn : okN n) (h1 : 0 ≤ k) (h2 : k < n * n * n) (ht : toldL law (k / n % n) (k % n) = true) (hf : holdsS n tb law (k / n / n) (k / n % n) (k % n) = false) (h : ∀ k', 0 ≤ k' → k' < k → passL n tb law k') : witS n tb law = some (k / n / n, k / n % n, k % n) := by
  have hl := okN_lo hn
  have hlb : lbS n law ≤ n := by unfold lbS; split <;> omega
  have hlc : lcS n law ≤ n := by unfold lcS; split <;> omega
  obtain ⟨⟨d1, d2⟩, ⟨d3, d4⟩, d5, d6⟩ := dig3 hn h1 h2
  obtain ⟨t1, t2⟩ := (told_iff hn d3 d4 d5 d6).mp ht
  refine wit_some hn d1 d2 d3 t1 d5 t2 hf (fun a b c g1 g2 g3 g4 g5 g6 hlt => ?_)
  obtain ⟨k', ⟨e1, e2⟩, rfl, rfl, rfl⟩ := dig3_of hn g1 g2 g3 (show b < n by omega) g5 (show c < n by omega)
  exact h k' e1 (dig3_lt hn h1 h2 e1 e2 hlt) ((told_iff hn g3 (by omega) g5 (by omega)).mpr ⟨g4, g6⟩)
theorem wcd_lt {n : Int} {tb : Int → Int → Int} {law : Int} (hn : okN n) : (wcdL (witS n tb law) = -1 ∧ wcode (witS n tb law) = -1) ∨ (∃ a b c, (0 ≤ a ∧ a < 9) ∧ (0 ≤ b ∧ b < 9) ∧ (0 ≤ c ∧ c < 9) ∧ wcdL (witS n tb law) = 100 * a + 10 * b + c ∧ wcode (witS n tb law) = 81 * a + 9 * b + c) := by
  have hl := okN_lo hn
  cases h : witS n tb law with
  | none => exact Or.inl ⟨rfl, rfl⟩
  | some w =>
    obtain ⟨a, b, c⟩ := w
    obtain ⟨h1, h2, h3⟩ := witS_in hn h
    exact Or.inr ⟨a, b, c, by omega, by omega, by omega, rfl, rfl⟩
/-! sets as sums -/
theorem or_add {s : Nat} {i : Nat} (h : s < 2 ^ i) : s ||| 2 ^ i = s + 2 ^ i := by
  rw [Nat.add_comm, Nat.or_comm]
  have h1 := Nat.two_pow_add_eq_or_of_lt (i := i) (b := s) h 1
  rw [Nat.mul_one] at h1
  exact h1.symm
/-- exchanged products, counted twice -/
theorem ex_sum (tb : Int → Int → Int) : ∀ k : Nat, sumF (fun a => sumF (fun b => if tb a b = tb b a then 0 else 1) k 0) k 0 = sumF (exR tb) k 0
  | 0 => rfl
  | k + 1 => by
    have last : ∀ (f : Int → Int), sumF f (k + 1) 0 = sumF f k 0 + f k := by
      intro f
      rw [cn_split f k 1 0, Int.zero_add]
      show _ + (f k + 0) = _
      omega
    rw [last, last (exR tb)]
    have e1 : sumF (fun a => sumF (fun b => if tb a b = tb b a then 0 else 1) (k + 1) 0) k 0 = sumF (fun a => sumF (fun b => if tb a b = tb b a then 0 else 1) k 0) k 0 + sumF (fun a => if tb a k = tb k a then 0 else 1) k 0 := by
      rw [← cn_add]
      exact sum_congr k 0 (fun a _ _ => last _)
    rw [e1, ex_sum tb k, last (fun b => if tb k b = tb b k then 0 else 1)]
    have e2 : sumF (fun a => if tb a k = tb k a then 0 else 1) k 0 = sumF (fun b => if tb k b = tb b k then (0 : Int) else 1) k 0 := sum_congr k 0 (fun a _ _ => by
      by_cases h : tb a k = tb k a
      · rw [if_pos h, if_pos h.symm]
      · rw [if_neg h, if_neg (fun h2 => h h2.symm)])
    have e3 : exR tb k = sumF (fun b => if tb k b = tb b k then (0 : Int) else 1) k 0 + sumF (fun b => if tb k b = tb b k then (0 : Int) else 1) k 0 := by
      unfold exR
      rw [Int.toNat_natCast, ← cn_add]
      refine sum_congr k 0 (fun b _ _ => ?_)
      by_cases h : tb k b = tb b k
      · rw [if_pos h, if_pos h]; rfl
      · rw [if_neg h, if_neg h]; rfl
    rw [e2, e3]
    show _ + _ + (_ + if tb k k = tb k k then (0 : Int) else 1) = _
    rw [if_pos rfl]
    omega
theorem ex_eq {n : Int} (tb : Int → Int → Int) : sumF (fun a => sumF (fun b => if tb a b = tb b a then 0 else 1) n.toNat 0) n.toNat 0 = exC n tb := ex_sum tb n.toNat
theorem tw_eq (tb : Int → Int → Int) : sumF (fun a => sumF (fun b => if twS a b = tb a b then 0 else 1) 9 0) 9 0 = twC tb := by
  rw [cn_swap (fun a b => if twS a b = tb a b then (0 : Int) else 1)]
  refine sum_congr 9 0 (fun b _ _ => sum_congr 9 0 (fun a _ _ => ?_))
  by_cases h : tb a b = twS a b
  · rw [if_pos h, if_pos h.symm]
  · rw [if_neg h, if_neg (fun h2 => h h2.symm)]
def sqM : Nat := setK (fun a => fpS 9 a a) 9 0 0
theorem sqM_b : ∀ b, b < 9 → sqM.testBit b = sqS 9 ((b : Nat) : Int) := by decide +kernel
theorem cube_c : ∀ a, a < 9 → fpS 9 ((a : Nat) : Int) (fpS 9 ((a : Nat) : Int) ((a : Nat) : Int)) = cubeS ((a : Nat) : Int) := by decide +kernel
end
section
theorem m_callSU {X : Nat × Nat × (Nat → Int32)} {mi pc i mi' y : Nat} {z : Int} {L : List (Option mPV)} {S : List mPV} {w w1 : mPW} {bc bs : Nat} {Q : Option mPV → mPW → Prop} (as S' : List mPV) (hf : m_fetch mi pc = some (pc, .invokestatic i, mi', y, z)) (hst : S = as.reverse ++ S') (hok0 : m_cok mi mi' as.length (m_words as) S' bc bs = true) (C : m_Run X mi' as w (m_U w1)) (K : m_Sem X mi (pc + 3, L, S', w1, bc - (m_rm mi').cells, bs - (m_rm mi').slots) Q) : m_Sem X mi (pc, L, S, w, bc, bs) Q :=
  m_callS as S' hf hst hok0 C (fun r w2 hq _ => by obtain ⟨rfl, rfl⟩ := hq; exact K)
/-! The law's own methods: rows, sums, products. -/
theorem a_ofG {X : Nat × Nat × (Nat → Int32)} {w : mPW} {q : Nat} {f : Nat → Int64} {a b : Int} (hw : w[q]? = some (.inl (2, 9, .inr f))) (ha : 0 ≤ a) (ha2 : a < 9) : m_Run X 47 [.inr (.inl q), .inl a, .inl b] w (m_V (nib (f a.toNat) b) w) := by
  show m_Sem X 47 (0, [some (.inr (.inl q)), some (.inl a), some (.inl b)], [], w, 0, 0) _
  refine m_run 2 (ps' := (2, [some (.inr (.inl q)), some (.inl a), some (.inl b)], [.inl a, .inr (.inl q)], w, 0, 0)) rfl ?_
  refine m_lald rfl hw ha (by omega) (by decide) ?_
  refine m_run 7 (ps' := (12, [some (.inr (.inl q)), some (.inl a), some (.inl b)], [.inl (nib (f a.toNat) b)], w, 0, 0)) rfl ?_
  exact m_ret1 rfl (Or.inl rfl) rfl (m_Vi rfl)
theorem a_putG {X : Nat × Nat × (Nat → Int32)} {w : mPW} {q : Nat} {f : Nat → Int64} {a b r : Int} (hw : w[q]? = some (.inl (2, 9, .inr f))) (ha : 0 ≤ a) (ha2 : a < 9) : m_Run X 48 [.inr (.inl q), .inl a, .inl b, .inl r] w (m_U (w.set q (.inl (2, 9, .inr (putF f a b r))))) := by
  show m_Sem X 48 (0, [some (.inr (.inl q)), some (.inl a), some (.inl b), some (.inl r)], [], w, 0, 0) _
  refine m_run 4 (ps' := (4, [some (.inr (.inl q)), some (.inl a), some (.inl b), some (.inl r)], [.inl a, .inr (.inl q), .inl a, .inr (.inl q)], w, 0, 0)) rfl ?_
  refine m_lald rfl hw ha (by omega) (by decide) ?_
  refine m_run 15 (ps' := (24, [some (.inr (.inl q)), some (.inl a), some (.inl b), some (.inl r)], [.inr (.inr (.long (putN (f a.toNat) b r))), .inl a, .inr (.inl q)], w, 0, 0)) rfl ?_
  refine m_last rfl hw ha (by omega) (by decide) ?_
  exact m_ret0 rfl rfl rfl ⟨rfl, rfl⟩
theorem a_of {X : Nat × Nat × (Nat → Int32)} {C : CS} {g : Int → Int} {f : Nat → Int64} {J : mPW} {n : Int} {tb : Int → Int → Int} {a b : Int} (hL : repL n f tb) (ha : 0 ≤ a) (ha2 : a < n) (hb : 0 ≤ b) (hb2 : b < n) : m_Run X 47 [.inr (.inl 14), .inl a, .inl b] (mW C (.inl (0, 1, .inl g) :: .inl (2, 9, .inr f) :: J)) (m_V (tb a b) (mW C (.inl (0, 1, .inl g) :: .inl (2, 9, .inr f) :: J))) := by
  have hl := okN_lo hL.1
  have h := a_ofG (X := X) (w := mW C (.inl (0, 1, .inl g) :: .inl (2, 9, .inr f) :: J)) (q := 14) (f := f) (a := a) (b := b) rfl ha (by omega)
  rw [(hL.2 a b ha ha2 hb hb2).1] at h
  exact h
theorem a_put {X : Nat × Nat × (Nat → Int32)} {C : CS} {g : Int → Int} {f : Nat → Int64} {J : mPW} {a b r : Int} (ha : 0 ≤ a) (ha2 : a < 9) : m_Run X 48 [.inr (.inl 14), .inl a, .inl b, .inl r] (mW C (.inl (0, 1, .inl g) :: .inl (2, 9, .inr f) :: J)) (m_U (mW C (.inl (0, 1, .inl g) :: .inl (2, 9, .inr (putF f a b r)) :: J))) := a_putG (X := X) (w := mW C (.inl (0, 1, .inl g) :: .inl (2, 9, .inr f) :: J)) (q := 14) (f := f) (a := a) (b := b) (r := r) rfl ha ha2
set_option maxHeartbeats 4000000 in
set_option maxRecDepth 100000 in
theorem a_add {X : Nat × Nat × (Nat → Int32)} {C : CS} {g : Int → Int} {f : Nat → Int64} {J : mPW} {n : Int} {a b : Int} (hg : g 0 = n) (hn : okN n) (ha : 0 ≤ a) (ha2 : a < n) (hb : 0 ≤ b) (hb2 : b < n) : m_Run X 45 [.inr (.inl 13), .inl a, .inl b] (mW C (.inl (0, 1, .inl g) :: .inl (2, 9, .inr f) :: J)) (m_V (sumS n a b) (mW C (.inl (0, 1, .inl g) :: .inl (2, 9, .inr f) :: J))) := by
  have hl := okN_lo hn
  show m_Sem X 45 (0, [some (.inr (.inl 13)), some (.inl a), some (.inl b), none], [], mW C (.inl (0, 1, .inl g) :: .inl (2, 9, .inr f) :: J), 0, 0) _
  refine m_run 2 (ps' := (2, [some (.inr (.inl 13)), some (.inl a), some (.inl b), none], [.inl 0, .inr (.inl 13)], mW C (.inl (0, 1, .inl g) :: .inl (2, 9, .inr f) :: J), 0, 0)) rfl ?_
  refine m_iald rfl rfl (by omega) (by omega) (by decide) ?_
  show m_Sem X 45 (3, [some (.inr (.inl 13)), some (.inl a), some (.inl b), none], [.inl (g 0)], mW C (.inl (0, 1, .inl g) :: .inl (2, 9, .inr f) :: J), 0, 0) _
  rw [hg]
  refine m_run 3 (ps' := (7, [some (.inr (.inl 13)), some (.inl a), some (.inl b), some (.inl n)], [.inl 9, .inl n], mW C (.inl (0, 1, .inl g) :: .inl (2, 9, .inr f) :: J), 0, 0)) rfl ?_
  refine m_icmp rfl ⟨by omega, by omega⟩ ⟨by omega, by omega⟩ (fun (zc1 : ¬ n = 9) => ?_) (fun (zc1 : ¬ ¬ n = 9) => ?_)
  · refine m_run 2 (ps' := (34, [some (.inr (.inl 13)), some (.inl a), some (.inl b), some (.inl n)], [.inl 4, .inl n], mW C (.inl (0, 1, .inl g) :: .inl (2, 9, .inr f) :: J), 0, 0)) rfl ?_
    refine m_icmp rfl ⟨by omega, by omega⟩ ⟨by omega, by omega⟩ (fun (zc2 : ¬ n = 4) => ?_) (fun (zc2 : ¬ ¬ n = 4) => ?_)
    · refine m_run 4 (ps' := (47, [some (.inr (.inl 13)), some (.inl a), some (.inl b), some (.inl n)], [.inl n, .inl (a + b)], mW C (.inl (0, 1, .inl g) :: .inl (2, 9, .inr f) :: J), 0, 0)) rfl ?_
      refine m_rem rfl (by omega) (by omega) (by omega) (by omega) ?_
      exact m_ret1 rfl (Or.inl rfl) rfl (m_Vi (by rw [← addL_eq hn ha ha2 hb hb2]; unfold addL; (repeat' split) <;> first | rfl | omega))
    · replace zc2 : n = 4 := Decidable.not_not.mp zc2
      refine m_run 4 (ps' := (48, [some (.inr (.inl 13)), some (.inl a), some (.inl b), some (.inl n)], [.inl ((Int32.ofInt a ^^^ Int32.ofInt b).toInt)], mW C (.inl (0, 1, .inl g) :: .inl (2, 9, .inr f) :: J), 0, 0)) rfl ?_
      exact m_ret1 rfl (Or.inl rfl) rfl (m_Vi (by rw [← addL_eq hn ha ha2 hb hb2]; unfold addL; (repeat' split) <;> first | rfl | omega))
  · replace zc1 : n = 9 := Decidable.not_not.mp zc1
    refine m_run 2 (ps' := (12, [some (.inr (.inl 13)), some (.inl a), some (.inl b), some (.inl n)], [.inl 3, .inl a], mW C (.inl (0, 1, .inl g) :: .inl (2, 9, .inr f) :: J), 0, 0)) rfl ?_
    refine m_div rfl (by omega) (by omega) (by omega) (by omega) ?_
    refine m_run 2 (ps' := (15, [some (.inr (.inl 13)), some (.inl a), some (.inl b), some (.inl n)], [.inl 3, .inl b, .inl (a / 3)], mW C (.inl (0, 1, .inl g) :: .inl (2, 9, .inr f) :: J), 0, 0)) rfl ?_
    refine m_div rfl (by omega) (by omega) (by omega) (by omega) ?_
    refine m_run 2 (ps' := (18, [some (.inr (.inl 13)), some (.inl a), some (.inl b), some (.inl n)], [.inl 3, .inl ((a / 3) + (b / 3))], mW C (.inl (0, 1, .inl g) :: .inl (2, 9, .inr f) :: J), 0, 0)) rfl ?_
    refine m_rem rfl (by omega) (by omega) (by omega) (by omega) ?_
    refine m_run 4 (ps' := (23, [some (.inr (.inl 13)), some (.inl a), some (.inl b), some (.inl n)], [.inl 3, .inl a, .inl ((((a / 3) + (b / 3)) % 3) * 3)], mW C (.inl (0, 1, .inl g) :: .inl (2, 9, .inr f) :: J), 0, 0)) rfl ?_
    refine m_rem rfl (by omega) (by omega) (by omega) (by omega) ?_
    refine m_run 2 (ps' := (26, [some (.inr (.inl 13)), some (.inl a), some (.inl b), some (.inl n)], [.inl 3, .inl b, .inl (a % 3), .inl ((((a / 3) + (b / 3)) % 3) * 3)], mW C (.inl (0, 1, .inl g) :: .inl (2, 9, .inr f) :: J), 0, 0)) rfl ?_
    refine m_rem rfl (by omega) (by omega) (by omega) (by omega) ?_
    refine m_run 2 (ps' := (29, [some (.inr (.inl 13)), some (.inl a), some (.inl b), some (.inl n)], [.inl 3, .inl ((a % 3) + (b % 3)), .inl ((((a / 3) + (b / 3)) % 3) * 3)], mW C (.inl (0, 1, .inl g) :: .inl (2, 9, .inr f) :: J), 0, 0)) rfl ?_
    refine m_rem rfl (by omega) (by omega) (by omega) (by omega) ?_
    refine m_run 1 (ps' := (31, [some (.inr (.inl 13)), some (.inl a), some (.inl b), some (.inl n)], [.inl (((((a / 3) + (b / 3)) % 3) * 3) + (((a % 3) + (b % 3)) % 3))], mW C (.inl (0, 1, .inl g) :: .inl (2, 9, .inr f) :: J), 0, 0)) rfl ?_
    exact m_ret1 rfl (Or.inl rfl) rfl (m_Vi (by rw [← addL_eq hn ha ha2 hb hb2]; unfold addL; (repeat' split) <;> first | rfl | omega))
set_option maxHeartbeats 4000000 in
set_option maxRecDepth 100000 in
theorem a_min {X : Nat × Nat × (Nat → Int32)} {C : CS} {g : Int → Int} {f : Nat → Int64} {J : mPW} {n : Int} {a b : Int} (hg : g 0 = n) (hn : okN n) (ha : 0 ≤ a) (ha2 : a < n) (hb : 0 ≤ b) (hb2 : b < n) : m_Run X 46 [.inr (.inl 13), .inl a, .inl b] (mW C (.inl (0, 1, .inl g) :: .inl (2, 9, .inr f) :: J)) (m_V (difS n a b) (mW C (.inl (0, 1, .inl g) :: .inl (2, 9, .inr f) :: J))) := by
  have hl := okN_lo hn
  show m_Sem X 46 (0, [some (.inr (.inl 13)), some (.inl a), some (.inl b), none], [], mW C (.inl (0, 1, .inl g) :: .inl (2, 9, .inr f) :: J), 0, 0) _
  refine m_run 2 (ps' := (2, [some (.inr (.inl 13)), some (.inl a), some (.inl b), none], [.inl 0, .inr (.inl 13)], mW C (.inl (0, 1, .inl g) :: .inl (2, 9, .inr f) :: J), 0, 0)) rfl ?_
  refine m_iald rfl rfl (by omega) (by omega) (by decide) ?_
  show m_Sem X 46 (3, [some (.inr (.inl 13)), some (.inl a), some (.inl b), none], [.inl (g 0)], mW C (.inl (0, 1, .inl g) :: .inl (2, 9, .inr f) :: J), 0, 0) _
  rw [hg]
  refine m_run 3 (ps' := (7, [some (.inr (.inl 13)), some (.inl a), some (.inl b), some (.inl n)], [.inl 9, .inl n], mW C (.inl (0, 1, .inl g) :: .inl (2, 9, .inr f) :: J), 0, 0)) rfl ?_
  refine m_icmp rfl ⟨by omega, by omega⟩ ⟨by omega, by omega⟩ (fun (zc1 : ¬ n = 9) => ?_) (fun (zc1 : ¬ ¬ n = 9) => ?_)
  · refine m_run 2 (ps' := (38, [some (.inr (.inl 13)), some (.inl a), some (.inl b), some (.inl n)], [.inl 4, .inl n], mW C (.inl (0, 1, .inl g) :: .inl (2, 9, .inr f) :: J), 0, 0)) rfl ?_
    refine m_icmp rfl ⟨by omega, by omega⟩ ⟨by omega, by omega⟩ (fun (zc2 : ¬ n = 4) => ?_) (fun (zc2 : ¬ ¬ n = 4) => ?_)
    · refine m_run 6 (ps' := (53, [some (.inr (.inl 13)), some (.inl a), some (.inl b), some (.inl n)], [.inl n, .inl ((a + n) - b)], mW C (.inl (0, 1, .inl g) :: .inl (2, 9, .inr f) :: J), 0, 0)) rfl ?_
      refine m_rem rfl (by omega) (by omega) (by omega) (by omega) ?_
      exact m_ret1 rfl (Or.inl rfl) rfl (m_Vi (by rw [← difL_eq hn ha ha2 hb hb2]; unfold difL; (repeat' split) <;> first | rfl | omega))
    · replace zc2 : n = 4 := Decidable.not_not.mp zc2
      refine m_run 4 (ps' := (54, [some (.inr (.inl 13)), some (.inl a), some (.inl b), some (.inl n)], [.inl ((Int32.ofInt a ^^^ Int32.ofInt b).toInt)], mW C (.inl (0, 1, .inl g) :: .inl (2, 9, .inr f) :: J), 0, 0)) rfl ?_
      exact m_ret1 rfl (Or.inl rfl) rfl (m_Vi (by rw [← difL_eq hn ha ha2 hb hb2]; unfold difL; (repeat' split) <;> first | rfl | omega))
  · replace zc1 : n = 9 := Decidable.not_not.mp zc1
    refine m_run 2 (ps' := (12, [some (.inr (.inl 13)), some (.inl a), some (.inl b), some (.inl n)], [.inl 3, .inl a], mW C (.inl (0, 1, .inl g) :: .inl (2, 9, .inr f) :: J), 0, 0)) rfl ?_
    refine m_div rfl (by omega) (by omega) (by omega) (by omega) ?_
    refine m_run 4 (ps' := (17, [some (.inr (.inl 13)), some (.inl a), some (.inl b), some (.inl n)], [.inl 3, .inl b, .inl ((a / 3) + 3)], mW C (.inl (0, 1, .inl g) :: .inl (2, 9, .inr f) :: J), 0, 0)) rfl ?_
    refine m_div rfl (by omega) (by omega) (by omega) (by omega) ?_
    refine m_run 2 (ps' := (20, [some (.inr (.inl 13)), some (.inl a), some (.inl b), some (.inl n)], [.inl 3, .inl (((a / 3) + 3) - (b / 3))], mW C (.inl (0, 1, .inl g) :: .inl (2, 9, .inr f) :: J), 0, 0)) rfl ?_
    refine m_rem rfl (by omega) (by omega) (by omega) (by omega) ?_
    refine m_run 4 (ps' := (25, [some (.inr (.inl 13)), some (.inl a), some (.inl b), some (.inl n)], [.inl 3, .inl a, .inl (((((a / 3) + 3) - (b / 3)) % 3) * 3)], mW C (.inl (0, 1, .inl g) :: .inl (2, 9, .inr f) :: J), 0, 0)) rfl ?_
    refine m_rem rfl (by omega) (by omega) (by omega) (by omega) ?_
    refine m_run 4 (ps' := (30, [some (.inr (.inl 13)), some (.inl a), some (.inl b), some (.inl n)], [.inl 3, .inl b, .inl ((a % 3) + 3), .inl (((((a / 3) + 3) - (b / 3)) % 3) * 3)], mW C (.inl (0, 1, .inl g) :: .inl (2, 9, .inr f) :: J), 0, 0)) rfl ?_
    refine m_rem rfl (by omega) (by omega) (by omega) (by omega) ?_
    refine m_run 2 (ps' := (33, [some (.inr (.inl 13)), some (.inl a), some (.inl b), some (.inl n)], [.inl 3, .inl (((a % 3) + 3) - (b % 3)), .inl (((((a / 3) + 3) - (b / 3)) % 3) * 3)], mW C (.inl (0, 1, .inl g) :: .inl (2, 9, .inr f) :: J), 0, 0)) rfl ?_
    refine m_rem rfl (by omega) (by omega) (by omega) (by omega) ?_
    refine m_run 1 (ps' := (35, [some (.inr (.inl 13)), some (.inl a), some (.inl b), some (.inl n)], [.inl ((((((a / 3) + 3) - (b / 3)) % 3) * 3) + ((((a % 3) + 3) - (b % 3)) % 3))], mW C (.inl (0, 1, .inl g) :: .inl (2, 9, .inr f) :: J), 0, 0)) rfl ?_
    exact m_ret1 rfl (Or.inl rfl) rfl (m_Vi (by rw [← difL_eq hn ha ha2 hb hb2]; unfold difL; (repeat' split) <;> first | rfl | omega))
set_option maxHeartbeats 4000000 in
set_option maxRecDepth 100000 in
theorem a_mul {X : Nat × Nat × (Nat → Int32)} {C : CS} {g : Int → Int} {f : Nat → Int64} {J : mPW} {n : Int} {a b : Int} (hg : g 0 = n) (hn : okN n) (ha : 0 ≤ a) (ha2 : a < n) (hb : 0 ≤ b) (hb2 : b < n) : m_Run X 49 [.inr (.inl 13), .inl a, .inl b] (mW C (.inl (0, 1, .inl g) :: .inl (2, 9, .inr f) :: J)) (m_V (fpS n a b) (mW C (.inl (0, 1, .inl g) :: .inl (2, 9, .inr f) :: J))) := by
  have hl := okN_lo hn
  have p0 := mul_b (x := a) (y := b) (B := 8) (C := 8) (by omega) (by omega) (by omega) (by omega)
  have p1 := mul_b (x := a / 3) (y := b) (B := 2) (C := 8) (by omega) (by omega) (by omega) (by omega)
  have p2 := mul_b (x := b / 3) (y := a) (B := 2) (C := 8) (by omega) (by omega) (by omega) (by omega)
  have p3 := mul_b (x := a / 3) (y := b / 3) (B := 2) (C := 2) (by omega) (by omega) (by omega) (by omega)
  show m_Sem X 49 (0, [some (.inr (.inl 13)), some (.inl a), some (.inl b), none, none], [], mW C (.inl (0, 1, .inl g) :: .inl (2, 9, .inr f) :: J), 0, 0) _
  refine m_run 2 (ps' := (2, [some (.inr (.inl 13)), some (.inl a), some (.inl b), none, none], [.inl 0, .inr (.inl 13)], mW C (.inl (0, 1, .inl g) :: .inl (2, 9, .inr f) :: J), 0, 0)) rfl ?_
  refine m_iald rfl rfl (by omega) (by omega) (by decide) ?_
  show m_Sem X 49 (3, [some (.inr (.inl 13)), some (.inl a), some (.inl b), none, none], [.inl (g 0)], mW C (.inl (0, 1, .inl g) :: .inl (2, 9, .inr f) :: J), 0, 0) _
  rw [hg]
  refine m_run 1 (ps' := (4, [some (.inr (.inl 13)), some (.inl a), some (.inl b), none, none], [.inl 4, .inl n], mW C (.inl (0, 1, .inl g) :: .inl (2, 9, .inr f) :: J), 0, 0)) rfl ?_
  refine m_icmp rfl ⟨by omega, by omega⟩ ⟨by omega, by omega⟩ (fun (zc1 : ¬ n = 4) => ?_) (fun (zc1 : ¬ ¬ n = 4) => ?_)
  · refine m_run 2 (ps' := (33, [some (.inr (.inl 13)), some (.inl a), some (.inl b), none, none], [.inl 0, .inr (.inl 13)], mW C (.inl (0, 1, .inl g) :: .inl (2, 9, .inr f) :: J), 0, 0)) rfl ?_
    refine m_iald rfl rfl (by omega) (by omega) (by decide) ?_
    show m_Sem X 49 (34, [some (.inr (.inl 13)), some (.inl a), some (.inl b), none, none], [.inl (g 0)], mW C (.inl (0, 1, .inl g) :: .inl (2, 9, .inr f) :: J), 0, 0) _
    rw [hg]
    refine m_run 1 (ps' := (36, [some (.inr (.inl 13)), some (.inl a), some (.inl b), none, none], [.inl 9, .inl n], mW C (.inl (0, 1, .inl g) :: .inl (2, 9, .inr f) :: J), 0, 0)) rfl ?_
    refine m_icmp rfl ⟨by omega, by omega⟩ ⟨by omega, by omega⟩ (fun (zc2 : ¬ n = 9) => ?_) (fun (zc2 : ¬ ¬ n = 9) => ?_)
    · refine m_run 5 (ps' := (83, [some (.inr (.inl 13)), some (.inl a), some (.inl b), none, none], [.inl 0, .inr (.inl 13), .inl (a * b)], mW C (.inl (0, 1, .inl g) :: .inl (2, 9, .inr f) :: J), 0, 0)) rfl ?_
      refine m_iald rfl rfl (by omega) (by omega) (by decide) ?_
      show m_Sem X 49 (84, [some (.inr (.inl 13)), some (.inl a), some (.inl b), none, none], [.inl (g 0), .inl (a * b)], mW C (.inl (0, 1, .inl g) :: .inl (2, 9, .inr f) :: J), 0, 0) _
      rw [hg]
      refine m_rem rfl (by omega) (by omega) (by omega) (by omega) ?_
      exact m_ret1 rfl (Or.inl rfl) rfl (m_Vi (by rw [← mulL_eq hn ha ha2 hb hb2]; unfold mulL; (repeat' split) <;> first | rfl | omega))
    · replace zc2 : n = 9 := Decidable.not_not.mp zc2
      refine m_run 2 (ps' := (41, [some (.inr (.inl 13)), some (.inl a), some (.inl b), none, none], [.inl 3, .inl a], mW C (.inl (0, 1, .inl g) :: .inl (2, 9, .inr f) :: J), 0, 0)) rfl ?_
      refine m_div rfl (by omega) (by omega) (by omega) (by omega) ?_
      refine m_run 4 (ps' := (46, [some (.inr (.inl 13)), some (.inl a), some (.inl b), none, none], [.inl 3, .inl b, .inl ((a / 3) * b)], mW C (.inl (0, 1, .inl g) :: .inl (2, 9, .inr f) :: J), 0, 0)) rfl ?_
      refine m_div rfl (by omega) (by omega) (by omega) (by omega) ?_
      refine m_run 4 (ps' := (51, [some (.inr (.inl 13)), some (.inl a), some (.inl b), none, none], [.inl 3, .inl (((a / 3) * b) + ((b / 3) * a))], mW C (.inl (0, 1, .inl g) :: .inl (2, 9, .inr f) :: J), 0, 0)) rfl ?_
      refine m_rem rfl (by omega) (by omega) (by omega) (by omega) ?_
      refine m_run 8 (ps' := (61, [some (.inr (.inl 13)), some (.inl a), some (.inl b), some (.inl ((((a / 3) * b) + ((b / 3) * a)) % 3)), none], [.inl 3, .inl a, .inl ((a * b) + 6)], mW C (.inl (0, 1, .inl g) :: .inl (2, 9, .inr f) :: J), 0, 0)) rfl ?_
      refine m_div rfl (by omega) (by omega) (by omega) (by omega) ?_
      refine m_run 2 (ps' := (64, [some (.inr (.inl 13)), some (.inl a), some (.inl b), some (.inl ((((a / 3) * b) + ((b / 3) * a)) % 3)), none], [.inl 3, .inl b, .inl (a / 3), .inl ((a * b) + 6)], mW C (.inl (0, 1, .inl g) :: .inl (2, 9, .inr f) :: J), 0, 0)) rfl ?_
      refine m_div rfl (by omega) (by omega) (by omega) (by omega) ?_
      refine m_run 3 (ps' := (68, [some (.inr (.inl 13)), some (.inl a), some (.inl b), some (.inl ((((a / 3) * b) + ((b / 3) * a)) % 3)), none], [.inl 3, .inl (((a * b) + 6) - ((a / 3) * (b / 3)))], mW C (.inl (0, 1, .inl g) :: .inl (2, 9, .inr f) :: J), 0, 0)) rfl ?_
      refine m_rem rfl (by omega) (by omega) (by omega) (by omega) ?_
      refine m_run 6 (ps' := (77, [some (.inr (.inl 13)), some (.inl a), some (.inl b), some (.inl ((((a / 3) * b) + ((b / 3) * a)) % 3)), some (.inl ((((a * b) + 6) - ((a / 3) * (b / 3))) % 3))], [.inl ((3 * ((((a / 3) * b) + ((b / 3) * a)) % 3)) + ((((a * b) + 6) - ((a / 3) * (b / 3))) % 3))], mW C (.inl (0, 1, .inl g) :: .inl (2, 9, .inr f) :: J), 0, 0)) rfl ?_
      exact m_ret1 rfl (Or.inl rfl) rfl (m_Vi (by rw [← mulL_eq hn ha ha2 hb hb2]; unfold mulL; (repeat' split) <;> first | rfl | omega))
  · replace zc1 : n = 4 := Decidable.not_not.mp zc1
    refine m_run 1 (ps' := (8, [some (.inr (.inl 13)), some (.inl a), some (.inl b), none, none], [.inl a], mW C (.inl (0, 1, .inl g) :: .inl (2, 9, .inr f) :: J), 0, 0)) rfl ?_
    refine m_if rfl ⟨by omega, by omega⟩ (fun (zc2 : a = 0) => ?_) (fun (zc2 : ¬ a = 0) => ?_)
    · refine m_run 2 (ps' := (30, [some (.inr (.inl 13)), some (.inl a), some (.inl b), none, none], [.inl 0], mW C (.inl (0, 1, .inl g) :: .inl (2, 9, .inr f) :: J), 0, 0)) rfl ?_
      exact m_ret1 rfl (Or.inl rfl) rfl (m_Vi (by rw [← mulL_eq hn ha ha2 hb hb2]; unfold mulL; (repeat' split) <;> first | rfl | omega))
    · refine m_run 1 (ps' := (12, [some (.inr (.inl 13)), some (.inl a), some (.inl b), none, none], [.inl b], mW C (.inl (0, 1, .inl g) :: .inl (2, 9, .inr f) :: J), 0, 0)) rfl ?_
      refine m_if rfl ⟨by omega, by omega⟩ (fun (zc3 : ¬ b = 0) => ?_) (fun (zc3 : ¬ ¬ b = 0) => ?_)
      · refine m_run 8 (ps' := (27, [some (.inr (.inl 13)), some (.inl a), some (.inl b), none, none], [.inl 3, .inl (((a - 1) + b) - 1)], mW C (.inl (0, 1, .inl g) :: .inl (2, 9, .inr f) :: J), 0, 0)) rfl ?_
        refine m_rem rfl (by omega) (by omega) (by omega) (by omega) ?_
        refine m_run 2 (ps' := (30, [some (.inr (.inl 13)), some (.inl a), some (.inl b), none, none], [.inl (((((a - 1) + b) - 1) % 3) + 1)], mW C (.inl (0, 1, .inl g) :: .inl (2, 9, .inr f) :: J), 0, 0)) rfl ?_
        exact m_ret1 rfl (Or.inl rfl) rfl (m_Vi (by rw [← mulL_eq hn ha ha2 hb hb2]; unfold mulL; (repeat' split) <;> first | rfl | omega))
      · replace zc3 : b = 0 := Decidable.not_not.mp zc3
        refine m_run 2 (ps' := (30, [some (.inr (.inl 13)), some (.inl a), some (.inl b), none, none], [.inl 0], mW C (.inl (0, 1, .inl g) :: .inl (2, 9, .inr f) :: J), 0, 0)) rfl ?_
        exact m_ret1 rfl (Or.inl rfl) rfl (m_Vi (by rw [← mulL_eq hn ha ha2 hb hb2]; unfold mulL; (repeat' split) <;> first | rfl | omega))
set_option maxHeartbeats 4000000 in
set_option maxRecDepth 100000 in
theorem a_fldI {X : Nat × Nat × (Nat → Int32)} {C : CS} {g : Int → Int} {f : Nat → Int64} {J : mPW} {n : Int} {tb : Int → Int → Int} {a : Int} {Q : Option mPV → mPW → Prop} {v : Int} (hg : g 0 = n) (hL : repL n f tb) (ha : 0 ≤ a) (ha2 : a < n) (K : m_Sem X 50 (4, [some (.inr (.inl 13)), some (.inr (.inl 14)), some (.inl v), some (.inl (a + 1)), none], [], mW C (.inl (0, 1, .inl g) :: .inl (2, 9, .inr f) :: J), 0, 0) Q) : ∀ b : Int, 0 ≤ b → b ≤ n → ∀ (u : Int) (hu : u + sumF (fun b => (if tb a b = fpS n a b then 0 else 1)) (n - b).toNat b = v), m_Sem X 50 (14, [some (.inr (.inl 13)), some (.inr (.inl 14)), some (.inl u), some (.inl a), some (.inl b)], [], mW C (.inl (0, 1, .inl g) :: .inl (2, 9, .inr f) :: J), 0, 0) (Q) := by
  have hn := hL.1
  have hl := okN_lo hn
  refine m_down 0 n ?_ ?_
  · intro u hu
    rw [sum_end] at hu
    have hu : u = v := by omega
    subst hu
    show m_Sem X 50 (14, [some (.inr (.inl 13)), some (.inr (.inl 14)), some (.inl u), some (.inl a), some (.inl n)], [], mW C (.inl (0, 1, .inl g) :: .inl (2, 9, .inr f) :: J), 0, 0) _
    refine m_run 3 (ps' := (18, [some (.inr (.inl 13)), some (.inr (.inl 14)), some (.inl u), some (.inl a), some (.inl n)], [.inl 0, .inr (.inl 13), .inl n], mW C (.inl (0, 1, .inl g) :: .inl (2, 9, .inr f) :: J), 0, 0)) rfl ?_
    refine m_iald rfl rfl (by omega) (by omega) (by decide) ?_
    show m_Sem X 50 (19, [some (.inr (.inl 13)), some (.inr (.inl 14)), some (.inl u), some (.inl a), some (.inl n)], [.inl (g 0), .inl n], mW C (.inl (0, 1, .inl g) :: .inl (2, 9, .inr f) :: J), 0, 0) _
    rw [hg]
    refine m_icmp rfl ⟨by omega, by omega⟩ ⟨by omega, by omega⟩ (fun (zc1 : n ≤ n) => ?_) (fun (zc1 : ¬ n ≤ n) => absurd zc1 (not_not_intro (by omega)))
    refine m_run 2 (ps' := (4, [some (.inr (.inl 13)), some (.inr (.inl 14)), some (.inl u), some (.inl (a + 1)), some (.inl n)], [], mW C (.inl (0, 1, .inl g) :: .inl (2, 9, .inr f) :: J), 0, 0)) rfl ?_
    refine m_weak [some (.inr (.inl 13)), some (.inr (.inl 14)), some (.inl u), some (.inl (a + 1)), none] ⟨rfl, ⟨rfl, ⟨rfl, ⟨rfl, trivial⟩⟩⟩⟩ ?_
    exact K
  · intro b hi1 hi2 ih u hu
    rw [sum_step hi2] at hu
    refine m_run 3 (ps' := (18, [some (.inr (.inl 13)), some (.inr (.inl 14)), some (.inl u), some (.inl a), some (.inl b)], [.inl 0, .inr (.inl 13), .inl b], mW C (.inl (0, 1, .inl g) :: .inl (2, 9, .inr f) :: J), 0, 0)) rfl ?_
    refine m_iald rfl rfl (by omega) (by omega) (by decide) ?_
    show m_Sem X 50 (19, [some (.inr (.inl 13)), some (.inr (.inl 14)), some (.inl u), some (.inl a), some (.inl b)], [.inl (g 0), .inl b], mW C (.inl (0, 1, .inl g) :: .inl (2, 9, .inr f) :: J), 0, 0) _
    rw [hg]
    refine m_icmp rfl ⟨by omega, by omega⟩ ⟨by omega, by omega⟩ (fun (zc1 : n ≤ b) => absurd zc1 (by omega)) (fun (zc1 : ¬ n ≤ b) => ?_)
    refine m_run 4 (ps' := (27, [some (.inr (.inl 13)), some (.inr (.inl 14)), some (.inl u), some (.inl a), some (.inl b)], [.inl b, .inl a, .inr (.inl 14), .inl u], mW C (.inl (0, 1, .inl g) :: .inl (2, 9, .inr f) :: J), 0, 0)) rfl ?_
    refine m_callSF [.inr (.inl 14), .inl a, .inl b] [.inl u] rfl rfl rfl (a_of (a := a) (b := b) hL (by omega) (by omega) (by omega) (by omega)) ?_
    have zt1 := (hL.2 a b (by omega) (by omega) (by omega) (by omega)).2
    show m_Sem X 50 (30, [some (.inr (.inl 13)), some (.inr (.inl 14)), some (.inl u), some (.inl a), some (.inl b)], [.inl (tb a b), .inl u], mW C (.inl (0, 1, .inl g) :: .inl (2, 9, .inr f) :: J), 0, 0) _
    refine m_run 3 (ps' := (34, [some (.inr (.inl 13)), some (.inr (.inl 14)), some (.inl u), some (.inl a), some (.inl b)], [.inl b, .inl a, .inr (.inl 13), .inl (tb a b), .inl u], mW C (.inl (0, 1, .inl g) :: .inl (2, 9, .inr f) :: J), 0, 0)) rfl ?_
    refine m_callSF [.inr (.inl 13), .inl a, .inl b] [.inl (tb a b), .inl u] rfl rfl rfl (a_mul (a := a) (b := b) hg hn (by omega) (by omega) (by omega) (by omega)) ?_
    have zt2 := fpS_in (n := n) (a := a) (b := b) hn (by omega) (by omega) (by omega) (by omega)
    show m_Sem X 50 (37, [some (.inr (.inl 13)), some (.inr (.inl 14)), some (.inl u), some (.inl a), some (.inl b)], [.inl (fpS n a b), .inl (tb a b), .inl u], mW C (.inl (0, 1, .inl g) :: .inl (2, 9, .inr f) :: J), 0, 0) _
    refine m_icmp rfl ⟨by omega, by omega⟩ ⟨by omega, by omega⟩ (fun (zc2 : ¬ (tb a b) = (fpS n a b)) => ?_) (fun (zc2 : ¬ ¬ (tb a b) = (fpS n a b)) => ?_)
    · refine m_run 5 (ps' := (14, [some (.inr (.inl 13)), some (.inr (.inl 14)), some (.inl (u + 1)), some (.inl a), some (.inl (b + 1))], [], mW C (.inl (0, 1, .inl g) :: .inl (2, 9, .inr f) :: J), 0, 0)) rfl ?_
      refine m_weak [some (.inr (.inl 13)), some (.inr (.inl 14)), some (.inl (u + 1)), some (.inl a), some (.inl (b + 1))] ⟨rfl, ⟨rfl, ⟨rfl, ⟨rfl, ⟨rfl, trivial⟩⟩⟩⟩⟩ ?_
      refine ih _ ?_
      rw [← hu]
      simp only [zc2, if_true, if_false]
      omega
    · replace zc2 : (tb a b) = (fpS n a b) := Decidable.not_not.mp zc2
      refine m_run 6 (ps' := (14, [some (.inr (.inl 13)), some (.inr (.inl 14)), some (.inl (u + 0)), some (.inl a), some (.inl (b + 1))], [], mW C (.inl (0, 1, .inl g) :: .inl (2, 9, .inr f) :: J), 0, 0)) rfl ?_
      refine m_weak [some (.inr (.inl 13)), some (.inr (.inl 14)), some (.inl (u + 0)), some (.inl a), some (.inl (b + 1))] ⟨rfl, ⟨rfl, ⟨rfl, ⟨rfl, ⟨rfl, trivial⟩⟩⟩⟩⟩ ?_
      refine ih _ ?_
      rw [← hu]
      simp only [zc2, if_true, if_false]
      omega
set_option maxHeartbeats 4000000 in
set_option maxRecDepth 100000 in
theorem a_fldO {X : Nat × Nat × (Nat → Int32)} {C : CS} {g : Int → Int} {f : Nat → Int64} {J : mPW} {n : Int} {tb : Int → Int → Int} {Q : Option mPV → mPW → Prop} {v : Int} (hg : g 0 = n) (hL : repL n f tb) (K : Q (some (.inl v)) (mW C (.inl (0, 1, .inl g) :: .inl (2, 9, .inr f) :: J))) : ∀ a : Int, 0 ≤ a → a ≤ n → ∀ (u : Int) (hu : u + sumF (fun a => sumF (fun b => (if tb a b = fpS n a b then 0 else 1)) n.toNat 0) (n - a).toNat a = v), m_Sem X 50 (4, [some (.inr (.inl 13)), some (.inr (.inl 14)), some (.inl u), some (.inl a), none], [], mW C (.inl (0, 1, .inl g) :: .inl (2, 9, .inr f) :: J), 0, 0) (Q) := by
  have hn := hL.1
  have hl := okN_lo hn
  refine m_down 0 n ?_ ?_
  · intro u hu
    rw [sum_end] at hu
    have hu : u = v := by omega
    subst hu
    show m_Sem X 50 (4, [some (.inr (.inl 13)), some (.inr (.inl 14)), some (.inl u), some (.inl n), none], [], mW C (.inl (0, 1, .inl g) :: .inl (2, 9, .inr f) :: J), 0, 0) _
    refine m_run 3 (ps' := (7, [some (.inr (.inl 13)), some (.inr (.inl 14)), some (.inl u), some (.inl n), none], [.inl 0, .inr (.inl 13), .inl n], mW C (.inl (0, 1, .inl g) :: .inl (2, 9, .inr f) :: J), 0, 0)) rfl ?_
    refine m_iald rfl rfl (by omega) (by omega) (by decide) ?_
    show m_Sem X 50 (8, [some (.inr (.inl 13)), some (.inr (.inl 14)), some (.inl u), some (.inl n), none], [.inl (g 0), .inl n], mW C (.inl (0, 1, .inl g) :: .inl (2, 9, .inr f) :: J), 0, 0) _
    rw [hg]
    refine m_icmp rfl ⟨by omega, by omega⟩ ⟨by omega, by omega⟩ (fun (zc1 : n ≤ n) => ?_) (fun (zc1 : ¬ n ≤ n) => absurd zc1 (not_not_intro (by omega)))
    refine m_run 1 (ps' := (60, [some (.inr (.inl 13)), some (.inr (.inl 14)), some (.inl u), some (.inl n), none], [.inl u], mW C (.inl (0, 1, .inl g) :: .inl (2, 9, .inr f) :: J), 0, 0)) rfl ?_
    exact m_ret1 rfl (Or.inl rfl) rfl K
  · intro a hi1 hi2 ih u hu
    rw [sum_step hi2] at hu
    refine m_run 3 (ps' := (7, [some (.inr (.inl 13)), some (.inr (.inl 14)), some (.inl u), some (.inl a), none], [.inl 0, .inr (.inl 13), .inl a], mW C (.inl (0, 1, .inl g) :: .inl (2, 9, .inr f) :: J), 0, 0)) rfl ?_
    refine m_iald rfl rfl (by omega) (by omega) (by decide) ?_
    show m_Sem X 50 (8, [some (.inr (.inl 13)), some (.inr (.inl 14)), some (.inl u), some (.inl a), none], [.inl (g 0), .inl a], mW C (.inl (0, 1, .inl g) :: .inl (2, 9, .inr f) :: J), 0, 0) _
    rw [hg]
    refine m_icmp rfl ⟨by omega, by omega⟩ ⟨by omega, by omega⟩ (fun (zc1 : n ≤ a) => absurd zc1 (by omega)) (fun (zc1 : ¬ n ≤ a) => ?_)
    refine m_run 2 (ps' := (14, [some (.inr (.inl 13)), some (.inr (.inl 14)), some (.inl u), some (.inl a), some (.inl 0)], [], mW C (.inl (0, 1, .inl g) :: .inl (2, 9, .inr f) :: J), 0, 0)) rfl ?_
    refine m_weak [some (.inr (.inl 13)), some (.inr (.inl 14)), some (.inl u), some (.inl a), some (.inl 0)] ⟨rfl, ⟨rfl, ⟨rfl, ⟨rfl, ⟨rfl, trivial⟩⟩⟩⟩⟩ ?_
    refine a_fldI (v := u + sumF (fun b => (if tb a b = fpS n a b then 0 else 1)) n.toNat 0) hg hL hi1 hi2 ?_ 0 (by omega) (by omega) u (by rw [z_sub])
    exact ih _ (by rw [← hu]; omega)
set_option maxHeartbeats 4000000 in
set_option maxRecDepth 100000 in
theorem a_fld {X : Nat × Nat × (Nat → Int32)} {C : CS} {g : Int → Int} {f : Nat → Int64} {J : mPW} {n : Int} {tb : Int → Int → Int} (hg : g 0 = n) (hL : repL n f tb) : m_Run X 50 [.inr (.inl 13), .inr (.inl 14)] (mW C (.inl (0, 1, .inl g) :: .inl (2, 9, .inr f) :: J)) (m_V (unlS n tb) (mW C (.inl (0, 1, .inl g) :: .inl (2, 9, .inr f) :: J))) := by
  have hn := hL.1
  have hl := okN_lo hn
  show m_Sem X 50 (0, [some (.inr (.inl 13)), some (.inr (.inl 14)), none, none, none], [], mW C (.inl (0, 1, .inl g) :: .inl (2, 9, .inr f) :: J), 0, 0) _
  refine m_run 4 (ps' := (4, [some (.inr (.inl 13)), some (.inr (.inl 14)), some (.inl 0), some (.inl 0), none], [], mW C (.inl (0, 1, .inl g) :: .inl (2, 9, .inr f) :: J), 0, 0)) rfl ?_
  refine m_weak [some (.inr (.inl 13)), some (.inr (.inl 14)), some (.inl 0), some (.inl 0), none] ⟨rfl, ⟨rfl, ⟨rfl, ⟨rfl, trivial⟩⟩⟩⟩ ?_
  exact a_fldO (v := unlS n tb) hg hL ⟨rfl, rfl⟩ 0 (by omega) (by omega) 0 (by rw [z_sub, Int.zero_add]; rfl)
def fillN (n : Int) (F : Int → Int → Int) (f : Nat → Int64) (a b : Int) : Prop := ∀ a' b', 0 ≤ a' → 0 ≤ b' → b' < n → (a' < a ∨ (a' = a ∧ b' < b)) → nib (f a'.toNat) b' = F a' b'
theorem fillN_0 {n : Int} {F : Int → Int → Int} {f : Nat → Int64} : fillN n F f 0 0 := fun a' b' h1 h2 h3 h4 => absurd h4 (by omega)
theorem fillN_s {n : Int} {F : Int → Int → Int} {f : Nat → Int64} {a b v : Int} (h : fillN n F f a b) (h0 : 0 ≤ a) (h1 : 0 ≤ b) (h2 : b < n) (h3 : n ≤ 9) (h4 : 0 ≤ v) (h5 : v < 16) (hv : v = F a b) : fillN n F (putF f a b v) a (b + 1) := by
  intro a' b' g1 g2 g3 g4
  by_cases he : a' = a ∧ b' = b
  · rw [he.1, he.2, putF_s f h1 (by omega) h4 h5, hv]
  · rw [putF_n f h0 g1 h1 (by omega) h4 h5 g2 (by omega) he]
    exact h a' b' g1 g2 g3 (by omega)
theorem fillN_z {n : Int} {F : Int → Int → Int} {f : Nat → Int64} {a : Int} {z : Int64} (h : fillN n F f a 0) (h0 : 0 ≤ a) : fillN n F (vp_updL f a.toNat z) a 0 := by
  intro a' b' g1 g2 g3 g4
  rw [updL_n f z (by omega)]
  exact h a' b' g1 g2 g3 g4
theorem fillN_r {n : Int} {F : Int → Int → Int} {f : Nat → Int64} {a : Int} (h : fillN n F f a n) : fillN n F f (a + 1) 0 := fun a' b' g1 g2 g3 g4 => h a' b' g1 g2 g3 (by omega)
theorem fillN_e {n : Int} {F : Int → Int → Int} {f : Nat → Int64} (h : fillN n F f n 0) : ∀ a b, 0 ≤ a → a < n → 0 ≤ b → b < n → nib (f a.toNat) b = F a b := fun a b h1 h2 h3 h4 => h a b h1 h3 h4 (Or.inl h2)
set_option maxHeartbeats 4000000 in
set_option maxRecDepth 100000 in
theorem a_begI {X : Nat × Nat × (Nat → Int32)} {C : CS} {g : Int → Int} {J : mPW} {n : Int} {a : Int} {Q : Option mPV → mPW → Prop} (hn : okN n) (ha : 0 ≤ a) (ha2 : a < n) (K : ∀ f : Nat → Int64, fillN n (fpS n) f (a + 1) 0 → m_Sem X 51 (6, [some (.inr (.inl 13)), some (.inr (.inl 14)), some (.inl n), some (.inl (a + 1)), none], [], mW C (.inl (0, 1, .inl (m_up g 0 n)) :: .inl (2, 9, .inr f) :: J), 0, 0) Q) : ∀ b : Int, 0 ≤ b → b ≤ n → ∀ (f : Nat → Int64) (hf : fillN n (fpS n) f a b), m_Sem X 51 (18, [some (.inr (.inl 13)), some (.inr (.inl 14)), some (.inl n), some (.inl a), some (.inl b)], [], mW C (.inl (0, 1, .inl (m_up g 0 n)) :: .inl (2, 9, .inr f) :: J), 0, 0) (Q) := by
  have hl := okN_lo hn
  refine m_down 0 n ?_ ?_
  · intro f hf
    show m_Sem X 51 (18, [some (.inr (.inl 13)), some (.inr (.inl 14)), some (.inl n), some (.inl a), some (.inl n)], [], mW C (.inl (0, 1, .inl (m_up g 0 n)) :: .inl (2, 9, .inr f) :: J), 0, 0) _
    refine m_run 2 (ps' := (21, [some (.inr (.inl 13)), some (.inr (.inl 14)), some (.inl n), some (.inl a), some (.inl n)], [.inl n, .inl n], mW C (.inl (0, 1, .inl (m_up g 0 n)) :: .inl (2, 9, .inr f) :: J), 0, 0)) rfl ?_
    refine m_icmp rfl ⟨by omega, by omega⟩ ⟨by omega, by omega⟩ (fun (zc1 : n ≤ n) => ?_) (fun (zc1 : ¬ n ≤ n) => absurd zc1 (not_not_intro (by omega)))
    refine m_run 2 (ps' := (6, [some (.inr (.inl 13)), some (.inr (.inl 14)), some (.inl n), some (.inl (a + 1)), some (.inl n)], [], mW C (.inl (0, 1, .inl (m_up g 0 n)) :: .inl (2, 9, .inr f) :: J), 0, 0)) rfl ?_
    refine m_weak [some (.inr (.inl 13)), some (.inr (.inl 14)), some (.inl n), some (.inl (a + 1)), none] ⟨rfl, ⟨rfl, ⟨rfl, ⟨rfl, trivial⟩⟩⟩⟩ ?_
    exact K f (fillN_r hf)
  · intro b hi1 hi2 ih f hf
    refine m_run 2 (ps' := (21, [some (.inr (.inl 13)), some (.inr (.inl 14)), some (.inl n), some (.inl a), some (.inl b)], [.inl n, .inl b], mW C (.inl (0, 1, .inl (m_up g 0 n)) :: .inl (2, 9, .inr f) :: J), 0, 0)) rfl ?_
    refine m_icmp rfl ⟨by omega, by omega⟩ ⟨by omega, by omega⟩ (fun (zc1 : n ≤ b) => absurd zc1 (by omega)) (fun (zc1 : ¬ n ≤ b) => ?_)
    refine m_run 6 (ps' := (32, [some (.inr (.inl 13)), some (.inr (.inl 14)), some (.inl n), some (.inl a), some (.inl b)], [.inl b, .inl a, .inr (.inl 13), .inl b, .inl a, .inr (.inl 14)], mW C (.inl (0, 1, .inl (m_up g 0 n)) :: .inl (2, 9, .inr f) :: J), 0, 0)) rfl ?_
    refine m_callSF [.inr (.inl 13), .inl a, .inl b] [.inl b, .inl a, .inr (.inl 14)] rfl rfl rfl (a_mul (a := a) (b := b) (m_up_s g 0 n) hn (by omega) (by omega) (by omega) (by omega)) ?_
    have zt1 := fpS_in (n := n) (a := a) (b := b) hn (by omega) (by omega) (by omega) (by omega)
    show m_Sem X 51 (35, [some (.inr (.inl 13)), some (.inr (.inl 14)), some (.inl n), some (.inl a), some (.inl b)], [.inl (fpS n a b), .inl b, .inl a, .inr (.inl 14)], mW C (.inl (0, 1, .inl (m_up g 0 n)) :: .inl (2, 9, .inr f) :: J), 0, 0) _
    refine m_callSU [.inr (.inl 14), .inl a, .inl b, .inl (fpS n a b)] [] rfl rfl rfl (a_put (a := a) (b := b) (r := (fpS n a b)) (by omega) (by omega)) ?_
    show m_Sem X 51 (38, [some (.inr (.inl 13)), some (.inr (.inl 14)), some (.inl n), some (.inl a), some (.inl b)], [], mW C (.inl (0, 1, .inl (m_up g 0 n)) :: .inl (2, 9, .inr (putF f a b (fpS n a b))) :: J), 0, 0) _
    refine m_run 2 (ps' := (18, [some (.inr (.inl 13)), some (.inr (.inl 14)), some (.inl n), some (.inl a), some (.inl (b + 1))], [], mW C (.inl (0, 1, .inl (m_up g 0 n)) :: .inl (2, 9, .inr (putF f a b (fpS n a b))) :: J), 0, 0)) rfl ?_
    refine m_weak [some (.inr (.inl 13)), some (.inr (.inl 14)), some (.inl n), some (.inl a), some (.inl (b + 1))] ⟨rfl, ⟨rfl, ⟨rfl, ⟨rfl, ⟨rfl, trivial⟩⟩⟩⟩⟩ ?_
    exact ih _ (fillN_s hf ha hi1 hi2 (by omega) (by omega) (by omega) rfl)
set_option maxHeartbeats 4000000 in
set_option maxRecDepth 100000 in
theorem a_begO {X : Nat × Nat × (Nat → Int32)} {C : CS} {g : Int → Int} {J : mPW} {n : Int} {Q : Option mPV → mPW → Prop} (hn : okN n) (K : ∀ f : Nat → Int64, fillN n (fpS n) f n 0 → Q none (mW C (.inl (0, 1, .inl (m_up g 0 n)) :: .inl (2, 9, .inr f) :: J))) : ∀ a : Int, 0 ≤ a → a ≤ n → ∀ (f : Nat → Int64) (hf : fillN n (fpS n) f a 0), m_Sem X 51 (6, [some (.inr (.inl 13)), some (.inr (.inl 14)), some (.inl n), some (.inl a), none], [], mW C (.inl (0, 1, .inl (m_up g 0 n)) :: .inl (2, 9, .inr f) :: J), 0, 0) (Q) := by
  have hl := okN_lo hn
  refine m_down 0 n ?_ ?_
  · intro f hf
    show m_Sem X 51 (6, [some (.inr (.inl 13)), some (.inr (.inl 14)), some (.inl n), some (.inl n), none], [], mW C (.inl (0, 1, .inl (m_up g 0 n)) :: .inl (2, 9, .inr f) :: J), 0, 0) _
    refine m_run 2 (ps' := (8, [some (.inr (.inl 13)), some (.inr (.inl 14)), some (.inl n), some (.inl n), none], [.inl n, .inl n], mW C (.inl (0, 1, .inl (m_up g 0 n)) :: .inl (2, 9, .inr f) :: J), 0, 0)) rfl ?_
    refine m_icmp rfl ⟨by omega, by omega⟩ ⟨by omega, by omega⟩ (fun (zc1 : n ≤ n) => ?_) (fun (zc1 : ¬ n ≤ n) => absurd zc1 (not_not_intro (by omega)))
    exact m_ret0 rfl rfl rfl (K f hf)
  · intro a hi1 hi2 ih f hf
    refine m_run 2 (ps' := (8, [some (.inr (.inl 13)), some (.inr (.inl 14)), some (.inl n), some (.inl a), none], [.inl n, .inl a], mW C (.inl (0, 1, .inl (m_up g 0 n)) :: .inl (2, 9, .inr f) :: J), 0, 0)) rfl ?_
    refine m_icmp rfl ⟨by omega, by omega⟩ ⟨by omega, by omega⟩ (fun (zc1 : n ≤ a) => absurd zc1 (by omega)) (fun (zc1 : ¬ n ≤ a) => ?_)
    refine m_run 3 (ps' := (14, [some (.inr (.inl 13)), some (.inr (.inl 14)), some (.inl n), some (.inl a), none], [.inr (.inr (.long (Int64.ofNat 0))), .inl a, .inr (.inl 14)], mW C (.inl (0, 1, .inl (m_up g 0 n)) :: .inl (2, 9, .inr f) :: J), 0, 0)) rfl ?_
    refine m_last rfl rfl (by omega) (by omega) (by decide) ?_
    show m_Sem X 51 (15, [some (.inr (.inl 13)), some (.inr (.inl 14)), some (.inl n), some (.inl a), none], [], mW C (.inl (0, 1, .inl (m_up g 0 n)) :: .inl (2, 9, .inr (vp_updL f (a).toNat (Int64.ofNat 0))) :: J), 0, 0) _
    refine m_run 2 (ps' := (18, [some (.inr (.inl 13)), some (.inr (.inl 14)), some (.inl n), some (.inl a), some (.inl 0)], [], mW C (.inl (0, 1, .inl (m_up g 0 n)) :: .inl (2, 9, .inr (vp_updL f (a).toNat (Int64.ofNat 0))) :: J), 0, 0)) rfl ?_
    refine m_weak [some (.inr (.inl 13)), some (.inr (.inl 14)), some (.inl n), some (.inl a), some (.inl 0)] ⟨rfl, ⟨rfl, ⟨rfl, ⟨rfl, ⟨rfl, trivial⟩⟩⟩⟩⟩ ?_
    exact a_begI hn hi1 hi2 ih 0 (by omega) (by omega) _ (fillN_z hf hi1)
set_option maxHeartbeats 4000000 in
set_option maxRecDepth 100000 in
theorem a_beg {X : Nat × Nat × (Nat → Int32)} {C : CS} {g : Int → Int} {f : Nat → Int64} {J : mPW} {n : Int} (hn : okN n) : m_Run X 51 [.inr (.inl 13), .inr (.inl 14), .inl n] (mW C (.inl (0, 1, .inl g) :: .inl (2, 9, .inr f) :: J)) (fun r w => r = none ∧ ∃ f2 : Nat → Int64, w = mW C (.inl (0, 1, .inl (m_up g 0 n)) :: .inl (2, 9, .inr f2) :: J) ∧ ∀ a b, 0 ≤ a → a < n → 0 ≤ b → b < n → nib (f2 a.toNat) b = fpS n a b) := by
  have hl := okN_lo hn
  show m_Sem X 51 (0, [some (.inr (.inl 13)), some (.inr (.inl 14)), some (.inl n), none, none], [], mW C (.inl (0, 1, .inl g) :: .inl (2, 9, .inr f) :: J), 0, 0) _
  refine m_run 3 (ps' := (3, [some (.inr (.inl 13)), some (.inr (.inl 14)), some (.inl n), none, none], [.inl n, .inl 0, .inr (.inl 13)], mW C (.inl (0, 1, .inl g) :: .inl (2, 9, .inr f) :: J), 0, 0)) rfl ?_
  refine m_iast rfl rfl (by omega) (by omega) (by decide) ?_
  show m_Sem X 51 (4, [some (.inr (.inl 13)), some (.inr (.inl 14)), some (.inl n), none, none], [], mW C (.inl (0, 1, .inl (m_up g 0 n)) :: .inl (2, 9, .inr f) :: J), 0, 0) _
  refine m_run 2 (ps' := (6, [some (.inr (.inl 13)), some (.inr (.inl 14)), some (.inl n), some (.inl 0), none], [], mW C (.inl (0, 1, .inl (m_up g 0 n)) :: .inl (2, 9, .inr f) :: J), 0, 0)) rfl ?_
  refine m_weak [some (.inr (.inl 13)), some (.inr (.inl 14)), some (.inl n), some (.inl 0), none] ⟨rfl, ⟨rfl, ⟨rfl, ⟨rfl, trivial⟩⟩⟩⟩ ?_
  exact a_begO hn (fun f2 hf => ⟨rfl, f2, rfl, fillN_e hf⟩) 0 (by omega) (by omega) f fillN_0
def szL (y : Int) : Int := if y % 6 = 0 then 2 else if y % 6 = 1 then 3 else if y % 6 = 2 then 4 else if y % 6 = 3 then 5 else if y % 6 = 4 then 7 else 9
theorem szL_ok (y : Int) : okN (szL y) := by
  unfold szL okN
  (repeat' split) <;> omega
set_option maxHeartbeats 4000000 in
set_option maxRecDepth 100000 in
theorem a_size {X : Nat × Nat × (Nat → Int32)} {n : Int} {T : Int → Int} {h : HS} {t : TS} {x : XS} {M : MS} {y : Int} (h1 : 0 ≤ y) (h2 : y < 2147483648) : m_Run X 52 [.inl y] (mW (n, T, h, t, x) M) (m_V (szL y) (mW (n, T, h, t, x) M)) := by
  show m_Sem X 52 (0, [some (.inl y)], [], mW (n, T, h, t, x) M, 0, 0) _
  refine m_run 2 (ps' := (3, [some (.inl y)], [.inl 6, .inl y], mW (n, T, h, t, x) M, 0, 0)) rfl ?_
  refine m_rem rfl (by omega) (by omega) (by omega) (by omega) ?_
  refine m_if rfl ⟨by omega, by omega⟩ (fun (zc1 : ¬ (y % 6) = 0) => ?_) (fun (zc1 : ¬ ¬ (y % 6) = 0) => ?_)
  · refine m_run 2 (ps' := (14, [some (.inl y)], [.inl 6, .inl y], mW (n, T, h, t, x) M, 0, 0)) rfl ?_
    refine m_rem rfl (by omega) (by omega) (by omega) (by omega) ?_
    refine m_run 1 (ps' := (16, [some (.inl y)], [.inl 1, .inl (y % 6)], mW (n, T, h, t, x) M, 0, 0)) rfl ?_
    refine m_icmp rfl ⟨by omega, by omega⟩ ⟨by omega, by omega⟩ (fun (zc2 : ¬ (y % 6) = 1) => ?_) (fun (zc2 : ¬ ¬ (y % 6) = 1) => ?_)
    · refine m_run 2 (ps' := (26, [some (.inl y)], [.inl 6, .inl y], mW (n, T, h, t, x) M, 0, 0)) rfl ?_
      refine m_rem rfl (by omega) (by omega) (by omega) (by omega) ?_
      refine m_run 1 (ps' := (28, [some (.inl y)], [.inl 2, .inl (y % 6)], mW (n, T, h, t, x) M, 0, 0)) rfl ?_
      refine m_icmp rfl ⟨by omega, by omega⟩ ⟨by omega, by omega⟩ (fun (zc3 : ¬ (y % 6) = 2) => ?_) (fun (zc3 : ¬ ¬ (y % 6) = 2) => ?_)
      · refine m_run 2 (ps' := (38, [some (.inl y)], [.inl 6, .inl y], mW (n, T, h, t, x) M, 0, 0)) rfl ?_
        refine m_rem rfl (by omega) (by omega) (by omega) (by omega) ?_
        refine m_run 1 (ps' := (40, [some (.inl y)], [.inl 3, .inl (y % 6)], mW (n, T, h, t, x) M, 0, 0)) rfl ?_
        refine m_icmp rfl ⟨by omega, by omega⟩ ⟨by omega, by omega⟩ (fun (zc4 : ¬ (y % 6) = 3) => ?_) (fun (zc4 : ¬ ¬ (y % 6) = 3) => ?_)
        · refine m_run 2 (ps' := (50, [some (.inl y)], [.inl 6, .inl y], mW (n, T, h, t, x) M, 0, 0)) rfl ?_
          refine m_rem rfl (by omega) (by omega) (by omega) (by omega) ?_
          refine m_run 1 (ps' := (52, [some (.inl y)], [.inl 4, .inl (y % 6)], mW (n, T, h, t, x) M, 0, 0)) rfl ?_
          refine m_icmp rfl ⟨by omega, by omega⟩ ⟨by omega, by omega⟩ (fun (zc5 : ¬ (y % 6) = 4) => ?_) (fun (zc5 : ¬ ¬ (y % 6) = 4) => ?_)
          · refine m_run 1 (ps' := (62, [some (.inl y)], [.inl 9], mW (n, T, h, t, x) M, 0, 0)) rfl ?_
            exact m_ret1 rfl (Or.inl rfl) rfl (m_Vi (by unfold szL; (repeat' split) <;> first | rfl | (exfalso; omega) | omega | simp_all))
          · replace zc5 : (y % 6) = 4 := Decidable.not_not.mp zc5
            refine m_run 2 (ps' := (62, [some (.inl y)], [.inl 7], mW (n, T, h, t, x) M, 0, 0)) rfl ?_
            exact m_ret1 rfl (Or.inl rfl) rfl (m_Vi (by unfold szL; (repeat' split) <;> first | rfl | (exfalso; omega) | omega | simp_all))
        · replace zc4 : (y % 6) = 3 := Decidable.not_not.mp zc4
          refine m_run 2 (ps' := (62, [some (.inl y)], [.inl 5], mW (n, T, h, t, x) M, 0, 0)) rfl ?_
          exact m_ret1 rfl (Or.inl rfl) rfl (m_Vi (by unfold szL; (repeat' split) <;> first | rfl | (exfalso; omega) | omega | simp_all))
      · replace zc3 : (y % 6) = 2 := Decidable.not_not.mp zc3
        refine m_run 2 (ps' := (62, [some (.inl y)], [.inl 4], mW (n, T, h, t, x) M, 0, 0)) rfl ?_
        exact m_ret1 rfl (Or.inl rfl) rfl (m_Vi (by unfold szL; (repeat' split) <;> first | rfl | (exfalso; omega) | omega | simp_all))
    · replace zc2 : (y % 6) = 1 := Decidable.not_not.mp zc2
      refine m_run 2 (ps' := (62, [some (.inl y)], [.inl 3], mW (n, T, h, t, x) M, 0, 0)) rfl ?_
      exact m_ret1 rfl (Or.inl rfl) rfl (m_Vi (by unfold szL; (repeat' split) <;> first | rfl | (exfalso; omega) | omega | simp_all))
  · replace zc1 : (y % 6) = 0 := Decidable.not_not.mp zc1
    refine m_run 2 (ps' := (62, [some (.inl y)], [.inl 2], mW (n, T, h, t, x) M, 0, 0)) rfl ?_
    exact m_ret1 rfl (Or.inl rfl) rfl (m_Vi (by unfold szL; (repeat' split) <;> first | rfl | (exfalso; omega) | omega | simp_all))
def lowL (v m : Int) : Int := (Int32.ofInt v &&& Int32.ofInt 2147483647).toInt % m
theorem and31 (v : Int) : 0 ≤ (Int32.ofInt v &&& Int32.ofInt 2147483647).toInt ∧ (Int32.ofInt v &&& Int32.ofInt 2147483647).toInt < 2147483648 := by
  have h : (Int32.ofInt v &&& Int32.ofInt 2147483647).toBitVec.toNat < 2147483648 := by
    rw [Int32.toBitVec_and, BitVec.toNat_and]
    have h2 : (Int32.ofInt 2147483647).toBitVec.toNat = 2147483647 := by decide +kernel
    rw [h2]
    exact Nat.lt_succ_of_le Nat.and_le_right
  have h2 := i32_of (x := Int32.ofInt v &&& Int32.ofInt 2147483647) rfl h
  omega
theorem lowL_in {v m : Int} (h : 0 < m) : 0 ≤ lowL v m ∧ lowL v m < m := ⟨Int.emod_nonneg _ (by omega), Int.emod_lt_of_pos _ h⟩
set_option maxHeartbeats 4000000 in
set_option maxRecDepth 100000 in
theorem a_low {X : Nat × Nat × (Nat → Int32)} {n : Int} {T : Int → Int} {h : HS} {t : TS} {x : XS} {M : MS} {v m : Int} (h1 : 0 < m) (h2 : m < 2147483648) : m_Run X 44 [.inl v, .inl m] (mW (n, T, h, t, x) M) (m_V (lowL v m) (mW (n, T, h, t, x) M)) := by
  have ha := and31 v
  show m_Sem X 44 (0, [some (.inl v), some (.inl m)], [], mW (n, T, h, t, x) M, 0, 0) _
  refine m_run 4 (ps' := (5, [some (.inl v), some (.inl m)], [.inl m, .inl ((Int32.ofInt v &&& Int32.ofInt 2147483647).toInt)], mW (n, T, h, t, x) M, 0, 0)) rfl ?_
  refine m_rem rfl (by omega) (by omega) (by omega) (by omega) ?_
  exact m_ret1 rfl (Or.inl rfl) rfl (m_Vi rfl)
def cellL (Ls : Nat) (xs : Nat → Int32) (k : Int) : Int := if k < Ls then (xs k.toNat).toInt else 40503 * (k + 3)
set_option maxHeartbeats 4000000 in
set_option maxRecDepth 100000 in
theorem a_cell {b Ls : Nat} {xs : Nat → Int32} {n : Int} {T : Int → Int} {h : HS} {t : TS} {x : XS} {M : MS} {k : Int} (hLs : Ls < 2147483648) (h1 : 0 ≤ k) (h2 : k < 1000) : m_Run (b, Ls, xs) 43 [.inr (.inr (.ref b)), .inl k] (mW (n, T, h, t, x) M) (m_V (cellL Ls xs k) (mW (n, T, h, t, x) M)) := by
  show m_Sem (b, Ls, xs) 43 (0, [some (.inr (.inr (.ref b))), some (.inl k)], [], mW (n, T, h, t, x) M, 0, 0) _
  refine m_run 2 (ps' := (2, [some (.inr (.inr (.ref b))), some (.inl k)], [.inr (.inr (.ref b)), .inl k], mW (n, T, h, t, x) M, 0, 0)) rfl ?_
  refine m_slen rfl ?_
  refine m_icmp rfl ⟨by omega, by omega⟩ ⟨by omega, by omega⟩ (fun (zc1 : (Ls : Int) ≤ k) => ?_) (fun (zc1 : ¬ (Ls : Int) ≤ k) => ?_)
  · refine m_run 5 (ps' := (18, [some (.inr (.inr (.ref b))), some (.inl k)], [.inl (40503 * (k + 3))], mW (n, T, h, t, x) M, 0, 0)) rfl ?_
    exact m_ret1 rfl (Or.inl rfl) rfl (m_Vi (by unfold cellL; rw [if_neg (by omega)]))
  · refine m_run 2 (ps' := (8, [some (.inr (.inr (.ref b))), some (.inl k)], [.inl k, .inr (.inr (.ref b))], mW (n, T, h, t, x) M, 0, 0)) rfl ?_
    refine m_sld rfl (by omega) (by omega) hLs ?_
    refine m_run 1 (ps' := (18, [some (.inr (.inr (.ref b))), some (.inl k)], [.inl ((xs (k).toNat).toInt)], mW (n, T, h, t, x) M, 0, 0)) rfl ?_
    exact m_ret1 rfl (Or.inl rfl) rfl (m_Vi (by unfold cellL; rw [if_pos (by omega)]))
set_option maxHeartbeats 4000000 in
set_option maxRecDepth 100000 in
theorem a_e0 {X : Nat × Nat × (Nat → Int32)} {n : Int} {T : Int → Int} {h : HS} {t : TS} {x : XS} {M : MS} : m_Run X 54 [.inl 0] (mW (n, T, h, t, x) M) (m_V (shB 0) (mW (n, T, h, t, x) M)) := by
  show m_Sem X 54 (0, [some (.inl 0), none, none], [], mW (n, T, h, t, x) M, 0, 0) _
  refine m_run 1 (ps' := (1, [some (.inl 0), none, none], [.inl 0], mW (n, T, h, t, x) M, 0, 0)) rfl ?_
  refine m_if rfl ⟨by omega, by omega⟩ (fun (zc1 : ¬ 0 = 0) => absurd zc1 (by omega)) (fun (zc1 : ¬ ¬ 0 = 0) => ?_)
  refine m_run 5 (ps' := (44, [some (.inl 0), some (.inl 0), none], [.inl 2, .inl 0], mW (n, T, h, t, x) M, 0, 0)) rfl ?_
  refine m_icmp rfl ⟨by omega, by omega⟩ ⟨by omega, by omega⟩ (fun (zc2 : 2 ≤ 0) => absurd zc2 (by omega)) (fun (zc2 : ¬ 2 ≤ 0) => ?_)
  refine m_run 4 (ps' := (74, [some (.inl 0), some (.inl 0), some (.inl 1)], [.inl 0], mW (n, T, h, t, x) M, 0, 0)) rfl ?_
  refine m_if rfl ⟨by omega, by omega⟩ (fun (zc3 : ¬ 0 = 0) => absurd zc3 (by omega)) (fun (zc3 : ¬ ¬ 0 = 0) => ?_)
  refine m_run 2 (ps' := (94, [some (.inl 0), some (.inl 0), some (.inl 1)], [.inl 0], mW (n, T, h, t, x) M, 0, 0)) rfl ?_
  exact m_ret1 rfl (Or.inl rfl) rfl (m_Vi (by decide +kernel))
set_option maxHeartbeats 4000000 in
set_option maxRecDepth 100000 in
theorem a_e1 {X : Nat × Nat × (Nat → Int32)} {n : Int} {T : Int → Int} {h : HS} {t : TS} {x : XS} {M : MS} : m_Run X 54 [.inl 1] (mW (n, T, h, t, x) M) (m_V (shB 1) (mW (n, T, h, t, x) M)) := by
  show m_Sem X 54 (0, [some (.inl 1), none, none], [], mW (n, T, h, t, x) M, 0, 0) _
  refine m_run 1 (ps' := (1, [some (.inl 1), none, none], [.inl 1], mW (n, T, h, t, x) M, 0, 0)) rfl ?_
  refine m_if rfl ⟨by omega, by omega⟩ (fun (zc1 : ¬ 1 = 0) => ?_) (fun (zc1 : ¬ ¬ 1 = 0) => absurd zc1 (not_not_intro (by omega)))
  refine m_run 2 (ps' := (10, [some (.inl 1), none, none], [.inl 2, .inl 1], mW (n, T, h, t, x) M, 0, 0)) rfl ?_
  refine m_icmp rfl ⟨by omega, by omega⟩ ⟨by omega, by omega⟩ (fun (zc2 : 2 ≤ 1) => absurd zc2 (by omega)) (fun (zc2 : ¬ 2 ≤ 1) => ?_)
  refine m_run 5 (ps' := (44, [some (.inl 1), some (.inl 124), none], [.inl 2, .inl 1], mW (n, T, h, t, x) M, 0, 0)) rfl ?_
  refine m_icmp rfl ⟨by omega, by omega⟩ ⟨by omega, by omega⟩ (fun (zc3 : 2 ≤ 1) => absurd zc3 (by omega)) (fun (zc3 : ¬ 2 ≤ 1) => ?_)
  refine m_run 4 (ps' := (74, [some (.inl 1), some (.inl 124), some (.inl 1)], [.inl 1], mW (n, T, h, t, x) M, 0, 0)) rfl ?_
  refine m_if rfl ⟨by omega, by omega⟩ (fun (zc4 : ¬ 1 = 0) => ?_) (fun (zc4 : ¬ ¬ 1 = 0) => absurd zc4 (not_not_intro (by omega)))
  refine m_run 8 (ps' := (91, [some (.inl 1), some (.inl 124), some (.inl 1)], [.inl 1, .inl 8388608, .inl (1 - 1), .inl ((Int32.ofInt 124 <<< (Int32.ofInt 23 &&& 31)).toInt)], mW (n, T, h, t, x) M, 0, 0)) rfl ?_
  refine m_div rfl (by omega) (by omega) (by omega) (by omega) ?_
  refine m_run 2 (ps' := (94, [some (.inl 1), some (.inl 124), some (.inl 1)], [.inl ((Int32.ofInt 124 <<< (Int32.ofInt 23 &&& 31)).toInt + ((1 - 1) * (8388608 / 1)))], mW (n, T, h, t, x) M, 0, 0)) rfl ?_
  exact m_ret1 rfl (Or.inl rfl) rfl (m_Vi (by decide +kernel))
set_option maxHeartbeats 4000000 in
set_option maxRecDepth 100000 in
theorem a_e2 {X : Nat × Nat × (Nat → Int32)} {n : Int} {T : Int → Int} {h : HS} {t : TS} {x : XS} {M : MS} : m_Run X 54 [.inl 2] (mW (n, T, h, t, x) M) (m_V (shB 2) (mW (n, T, h, t, x) M)) := by
  show m_Sem X 54 (0, [some (.inl 2), none, none], [], mW (n, T, h, t, x) M, 0, 0) _
  refine m_run 1 (ps' := (1, [some (.inl 2), none, none], [.inl 2], mW (n, T, h, t, x) M, 0, 0)) rfl ?_
  refine m_if rfl ⟨by omega, by omega⟩ (fun (zc1 : ¬ 2 = 0) => ?_) (fun (zc1 : ¬ ¬ 2 = 0) => absurd zc1 (not_not_intro (by omega)))
  refine m_run 2 (ps' := (10, [some (.inl 2), none, none], [.inl 2, .inl 2], mW (n, T, h, t, x) M, 0, 0)) rfl ?_
  refine m_icmp rfl ⟨by omega, by omega⟩ ⟨by omega, by omega⟩ (fun (zc2 : 2 ≤ 2) => ?_) (fun (zc2 : ¬ 2 ≤ 2) => absurd zc2 (not_not_intro (by omega)))
  refine m_run 2 (ps' := (20, [some (.inl 2), none, none], [.inl 4, .inl 2], mW (n, T, h, t, x) M, 0, 0)) rfl ?_
  refine m_icmp rfl ⟨by omega, by omega⟩ ⟨by omega, by omega⟩ (fun (zc3 : 4 ≤ 2) => absurd zc3 (by omega)) (fun (zc3 : ¬ 4 ≤ 2) => ?_)
  refine m_run 5 (ps' := (44, [some (.inl 2), some (.inl 125), none], [.inl 2, .inl 2], mW (n, T, h, t, x) M, 0, 0)) rfl ?_
  refine m_icmp rfl ⟨by omega, by omega⟩ ⟨by omega, by omega⟩ (fun (zc4 : 2 ≤ 2) => ?_) (fun (zc4 : ¬ 2 ≤ 2) => absurd zc4 (not_not_intro (by omega)))
  refine m_run 2 (ps' := (53, [some (.inl 2), some (.inl 125), none], [.inl 4, .inl 2], mW (n, T, h, t, x) M, 0, 0)) rfl ?_
  refine m_icmp rfl ⟨by omega, by omega⟩ ⟨by omega, by omega⟩ (fun (zc5 : 4 ≤ 2) => absurd zc5 (by omega)) (fun (zc5 : ¬ 4 ≤ 2) => ?_)
  refine m_run 4 (ps' := (74, [some (.inl 2), some (.inl 125), some (.inl 2)], [.inl 2], mW (n, T, h, t, x) M, 0, 0)) rfl ?_
  refine m_if rfl ⟨by omega, by omega⟩ (fun (zc6 : ¬ 2 = 0) => ?_) (fun (zc6 : ¬ ¬ 2 = 0) => absurd zc6 (not_not_intro (by omega)))
  refine m_run 8 (ps' := (91, [some (.inl 2), some (.inl 125), some (.inl 2)], [.inl 2, .inl 8388608, .inl (2 - 2), .inl ((Int32.ofInt 125 <<< (Int32.ofInt 23 &&& 31)).toInt)], mW (n, T, h, t, x) M, 0, 0)) rfl ?_
  refine m_div rfl (by omega) (by omega) (by omega) (by omega) ?_
  refine m_run 2 (ps' := (94, [some (.inl 2), some (.inl 125), some (.inl 2)], [.inl ((Int32.ofInt 125 <<< (Int32.ofInt 23 &&& 31)).toInt + ((2 - 2) * (8388608 / 2)))], mW (n, T, h, t, x) M, 0, 0)) rfl ?_
  exact m_ret1 rfl (Or.inl rfl) rfl (m_Vi (by decide +kernel))
set_option maxHeartbeats 4000000 in
set_option maxRecDepth 100000 in
theorem a_e3 {X : Nat × Nat × (Nat → Int32)} {n : Int} {T : Int → Int} {h : HS} {t : TS} {x : XS} {M : MS} : m_Run X 54 [.inl 3] (mW (n, T, h, t, x) M) (m_V (shB 3) (mW (n, T, h, t, x) M)) := by
  show m_Sem X 54 (0, [some (.inl 3), none, none], [], mW (n, T, h, t, x) M, 0, 0) _
  refine m_run 1 (ps' := (1, [some (.inl 3), none, none], [.inl 3], mW (n, T, h, t, x) M, 0, 0)) rfl ?_
  refine m_if rfl ⟨by omega, by omega⟩ (fun (zc1 : ¬ 3 = 0) => ?_) (fun (zc1 : ¬ ¬ 3 = 0) => absurd zc1 (not_not_intro (by omega)))
  refine m_run 2 (ps' := (10, [some (.inl 3), none, none], [.inl 2, .inl 3], mW (n, T, h, t, x) M, 0, 0)) rfl ?_
  refine m_icmp rfl ⟨by omega, by omega⟩ ⟨by omega, by omega⟩ (fun (zc2 : 2 ≤ 3) => ?_) (fun (zc2 : ¬ 2 ≤ 3) => absurd zc2 (not_not_intro (by omega)))
  refine m_run 2 (ps' := (20, [some (.inl 3), none, none], [.inl 4, .inl 3], mW (n, T, h, t, x) M, 0, 0)) rfl ?_
  refine m_icmp rfl ⟨by omega, by omega⟩ ⟨by omega, by omega⟩ (fun (zc3 : 4 ≤ 3) => absurd zc3 (by omega)) (fun (zc3 : ¬ 4 ≤ 3) => ?_)
  refine m_run 5 (ps' := (44, [some (.inl 3), some (.inl 125), none], [.inl 2, .inl 3], mW (n, T, h, t, x) M, 0, 0)) rfl ?_
  refine m_icmp rfl ⟨by omega, by omega⟩ ⟨by omega, by omega⟩ (fun (zc4 : 2 ≤ 3) => ?_) (fun (zc4 : ¬ 2 ≤ 3) => absurd zc4 (not_not_intro (by omega)))
  refine m_run 2 (ps' := (53, [some (.inl 3), some (.inl 125), none], [.inl 4, .inl 3], mW (n, T, h, t, x) M, 0, 0)) rfl ?_
  refine m_icmp rfl ⟨by omega, by omega⟩ ⟨by omega, by omega⟩ (fun (zc5 : 4 ≤ 3) => absurd zc5 (by omega)) (fun (zc5 : ¬ 4 ≤ 3) => ?_)
  refine m_run 4 (ps' := (74, [some (.inl 3), some (.inl 125), some (.inl 2)], [.inl 3], mW (n, T, h, t, x) M, 0, 0)) rfl ?_
  refine m_if rfl ⟨by omega, by omega⟩ (fun (zc6 : ¬ 3 = 0) => ?_) (fun (zc6 : ¬ ¬ 3 = 0) => absurd zc6 (not_not_intro (by omega)))
  refine m_run 8 (ps' := (91, [some (.inl 3), some (.inl 125), some (.inl 2)], [.inl 2, .inl 8388608, .inl (3 - 2), .inl ((Int32.ofInt 125 <<< (Int32.ofInt 23 &&& 31)).toInt)], mW (n, T, h, t, x) M, 0, 0)) rfl ?_
  refine m_div rfl (by omega) (by omega) (by omega) (by omega) ?_
  refine m_run 2 (ps' := (94, [some (.inl 3), some (.inl 125), some (.inl 2)], [.inl ((Int32.ofInt 125 <<< (Int32.ofInt 23 &&& 31)).toInt + ((3 - 2) * (8388608 / 2)))], mW (n, T, h, t, x) M, 0, 0)) rfl ?_
  exact m_ret1 rfl (Or.inl rfl) rfl (m_Vi (by decide +kernel))
set_option maxHeartbeats 4000000 in
set_option maxRecDepth 100000 in
theorem a_e4 {X : Nat × Nat × (Nat → Int32)} {n : Int} {T : Int → Int} {h : HS} {t : TS} {x : XS} {M : MS} : m_Run X 54 [.inl 4] (mW (n, T, h, t, x) M) (m_V (shB 4) (mW (n, T, h, t, x) M)) := by
  show m_Sem X 54 (0, [some (.inl 4), none, none], [], mW (n, T, h, t, x) M, 0, 0) _
  refine m_run 1 (ps' := (1, [some (.inl 4), none, none], [.inl 4], mW (n, T, h, t, x) M, 0, 0)) rfl ?_
  refine m_if rfl ⟨by omega, by omega⟩ (fun (zc1 : ¬ 4 = 0) => ?_) (fun (zc1 : ¬ ¬ 4 = 0) => absurd zc1 (not_not_intro (by omega)))
  refine m_run 2 (ps' := (10, [some (.inl 4), none, none], [.inl 2, .inl 4], mW (n, T, h, t, x) M, 0, 0)) rfl ?_
  refine m_icmp rfl ⟨by omega, by omega⟩ ⟨by omega, by omega⟩ (fun (zc2 : 2 ≤ 4) => ?_) (fun (zc2 : ¬ 2 ≤ 4) => absurd zc2 (not_not_intro (by omega)))
  refine m_run 2 (ps' := (20, [some (.inl 4), none, none], [.inl 4, .inl 4], mW (n, T, h, t, x) M, 0, 0)) rfl ?_
  refine m_icmp rfl ⟨by omega, by omega⟩ ⟨by omega, by omega⟩ (fun (zc3 : 4 ≤ 4) => ?_) (fun (zc3 : ¬ 4 ≤ 4) => absurd zc3 (not_not_intro (by omega)))
  refine m_run 2 (ps' := (31, [some (.inl 4), none, none], [.inl 8, .inl 4], mW (n, T, h, t, x) M, 0, 0)) rfl ?_
  refine m_icmp rfl ⟨by omega, by omega⟩ ⟨by omega, by omega⟩ (fun (zc4 : 8 ≤ 4) => absurd zc4 (by omega)) (fun (zc4 : ¬ 8 ≤ 4) => ?_)
  refine m_run 5 (ps' := (44, [some (.inl 4), some (.inl 126), none], [.inl 2, .inl 4], mW (n, T, h, t, x) M, 0, 0)) rfl ?_
  refine m_icmp rfl ⟨by omega, by omega⟩ ⟨by omega, by omega⟩ (fun (zc5 : 2 ≤ 4) => ?_) (fun (zc5 : ¬ 2 ≤ 4) => absurd zc5 (not_not_intro (by omega)))
  refine m_run 2 (ps' := (53, [some (.inl 4), some (.inl 126), none], [.inl 4, .inl 4], mW (n, T, h, t, x) M, 0, 0)) rfl ?_
  refine m_icmp rfl ⟨by omega, by omega⟩ ⟨by omega, by omega⟩ (fun (zc6 : 4 ≤ 4) => ?_) (fun (zc6 : ¬ 4 ≤ 4) => absurd zc6 (not_not_intro (by omega)))
  refine m_run 2 (ps' := (63, [some (.inl 4), some (.inl 126), none], [.inl 8, .inl 4], mW (n, T, h, t, x) M, 0, 0)) rfl ?_
  refine m_icmp rfl ⟨by omega, by omega⟩ ⟨by omega, by omega⟩ (fun (zc7 : 8 ≤ 4) => absurd zc7 (by omega)) (fun (zc7 : ¬ 8 ≤ 4) => ?_)
  refine m_run 4 (ps' := (74, [some (.inl 4), some (.inl 126), some (.inl 4)], [.inl 4], mW (n, T, h, t, x) M, 0, 0)) rfl ?_
  refine m_if rfl ⟨by omega, by omega⟩ (fun (zc8 : ¬ 4 = 0) => ?_) (fun (zc8 : ¬ ¬ 4 = 0) => absurd zc8 (not_not_intro (by omega)))
  refine m_run 8 (ps' := (91, [some (.inl 4), some (.inl 126), some (.inl 4)], [.inl 4, .inl 8388608, .inl (4 - 4), .inl ((Int32.ofInt 126 <<< (Int32.ofInt 23 &&& 31)).toInt)], mW (n, T, h, t, x) M, 0, 0)) rfl ?_
  refine m_div rfl (by omega) (by omega) (by omega) (by omega) ?_
  refine m_run 2 (ps' := (94, [some (.inl 4), some (.inl 126), some (.inl 4)], [.inl ((Int32.ofInt 126 <<< (Int32.ofInt 23 &&& 31)).toInt + ((4 - 4) * (8388608 / 4)))], mW (n, T, h, t, x) M, 0, 0)) rfl ?_
  exact m_ret1 rfl (Or.inl rfl) rfl (m_Vi (by decide +kernel))
set_option maxHeartbeats 4000000 in
set_option maxRecDepth 100000 in
theorem a_e5 {X : Nat × Nat × (Nat → Int32)} {n : Int} {T : Int → Int} {h : HS} {t : TS} {x : XS} {M : MS} : m_Run X 54 [.inl 5] (mW (n, T, h, t, x) M) (m_V (shB 5) (mW (n, T, h, t, x) M)) := by
  show m_Sem X 54 (0, [some (.inl 5), none, none], [], mW (n, T, h, t, x) M, 0, 0) _
  refine m_run 1 (ps' := (1, [some (.inl 5), none, none], [.inl 5], mW (n, T, h, t, x) M, 0, 0)) rfl ?_
  refine m_if rfl ⟨by omega, by omega⟩ (fun (zc1 : ¬ 5 = 0) => ?_) (fun (zc1 : ¬ ¬ 5 = 0) => absurd zc1 (not_not_intro (by omega)))
  refine m_run 2 (ps' := (10, [some (.inl 5), none, none], [.inl 2, .inl 5], mW (n, T, h, t, x) M, 0, 0)) rfl ?_
  refine m_icmp rfl ⟨by omega, by omega⟩ ⟨by omega, by omega⟩ (fun (zc2 : 2 ≤ 5) => ?_) (fun (zc2 : ¬ 2 ≤ 5) => absurd zc2 (not_not_intro (by omega)))
  refine m_run 2 (ps' := (20, [some (.inl 5), none, none], [.inl 4, .inl 5], mW (n, T, h, t, x) M, 0, 0)) rfl ?_
  refine m_icmp rfl ⟨by omega, by omega⟩ ⟨by omega, by omega⟩ (fun (zc3 : 4 ≤ 5) => ?_) (fun (zc3 : ¬ 4 ≤ 5) => absurd zc3 (not_not_intro (by omega)))
  refine m_run 2 (ps' := (31, [some (.inl 5), none, none], [.inl 8, .inl 5], mW (n, T, h, t, x) M, 0, 0)) rfl ?_
  refine m_icmp rfl ⟨by omega, by omega⟩ ⟨by omega, by omega⟩ (fun (zc4 : 8 ≤ 5) => absurd zc4 (by omega)) (fun (zc4 : ¬ 8 ≤ 5) => ?_)
  refine m_run 5 (ps' := (44, [some (.inl 5), some (.inl 126), none], [.inl 2, .inl 5], mW (n, T, h, t, x) M, 0, 0)) rfl ?_
  refine m_icmp rfl ⟨by omega, by omega⟩ ⟨by omega, by omega⟩ (fun (zc5 : 2 ≤ 5) => ?_) (fun (zc5 : ¬ 2 ≤ 5) => absurd zc5 (not_not_intro (by omega)))
  refine m_run 2 (ps' := (53, [some (.inl 5), some (.inl 126), none], [.inl 4, .inl 5], mW (n, T, h, t, x) M, 0, 0)) rfl ?_
  refine m_icmp rfl ⟨by omega, by omega⟩ ⟨by omega, by omega⟩ (fun (zc6 : 4 ≤ 5) => ?_) (fun (zc6 : ¬ 4 ≤ 5) => absurd zc6 (not_not_intro (by omega)))
  refine m_run 2 (ps' := (63, [some (.inl 5), some (.inl 126), none], [.inl 8, .inl 5], mW (n, T, h, t, x) M, 0, 0)) rfl ?_
  refine m_icmp rfl ⟨by omega, by omega⟩ ⟨by omega, by omega⟩ (fun (zc7 : 8 ≤ 5) => absurd zc7 (by omega)) (fun (zc7 : ¬ 8 ≤ 5) => ?_)
  refine m_run 4 (ps' := (74, [some (.inl 5), some (.inl 126), some (.inl 4)], [.inl 5], mW (n, T, h, t, x) M, 0, 0)) rfl ?_
  refine m_if rfl ⟨by omega, by omega⟩ (fun (zc8 : ¬ 5 = 0) => ?_) (fun (zc8 : ¬ ¬ 5 = 0) => absurd zc8 (not_not_intro (by omega)))
  refine m_run 8 (ps' := (91, [some (.inl 5), some (.inl 126), some (.inl 4)], [.inl 4, .inl 8388608, .inl (5 - 4), .inl ((Int32.ofInt 126 <<< (Int32.ofInt 23 &&& 31)).toInt)], mW (n, T, h, t, x) M, 0, 0)) rfl ?_
  refine m_div rfl (by omega) (by omega) (by omega) (by omega) ?_
  refine m_run 2 (ps' := (94, [some (.inl 5), some (.inl 126), some (.inl 4)], [.inl ((Int32.ofInt 126 <<< (Int32.ofInt 23 &&& 31)).toInt + ((5 - 4) * (8388608 / 4)))], mW (n, T, h, t, x) M, 0, 0)) rfl ?_
  exact m_ret1 rfl (Or.inl rfl) rfl (m_Vi (by decide +kernel))
set_option maxHeartbeats 4000000 in
set_option maxRecDepth 100000 in
theorem a_e6 {X : Nat × Nat × (Nat → Int32)} {n : Int} {T : Int → Int} {h : HS} {t : TS} {x : XS} {M : MS} : m_Run X 54 [.inl 6] (mW (n, T, h, t, x) M) (m_V (shB 6) (mW (n, T, h, t, x) M)) := by
  show m_Sem X 54 (0, [some (.inl 6), none, none], [], mW (n, T, h, t, x) M, 0, 0) _
  refine m_run 1 (ps' := (1, [some (.inl 6), none, none], [.inl 6], mW (n, T, h, t, x) M, 0, 0)) rfl ?_
  refine m_if rfl ⟨by omega, by omega⟩ (fun (zc1 : ¬ 6 = 0) => ?_) (fun (zc1 : ¬ ¬ 6 = 0) => absurd zc1 (not_not_intro (by omega)))
  refine m_run 2 (ps' := (10, [some (.inl 6), none, none], [.inl 2, .inl 6], mW (n, T, h, t, x) M, 0, 0)) rfl ?_
  refine m_icmp rfl ⟨by omega, by omega⟩ ⟨by omega, by omega⟩ (fun (zc2 : 2 ≤ 6) => ?_) (fun (zc2 : ¬ 2 ≤ 6) => absurd zc2 (not_not_intro (by omega)))
  refine m_run 2 (ps' := (20, [some (.inl 6), none, none], [.inl 4, .inl 6], mW (n, T, h, t, x) M, 0, 0)) rfl ?_
  refine m_icmp rfl ⟨by omega, by omega⟩ ⟨by omega, by omega⟩ (fun (zc3 : 4 ≤ 6) => ?_) (fun (zc3 : ¬ 4 ≤ 6) => absurd zc3 (not_not_intro (by omega)))
  refine m_run 2 (ps' := (31, [some (.inl 6), none, none], [.inl 8, .inl 6], mW (n, T, h, t, x) M, 0, 0)) rfl ?_
  refine m_icmp rfl ⟨by omega, by omega⟩ ⟨by omega, by omega⟩ (fun (zc4 : 8 ≤ 6) => absurd zc4 (by omega)) (fun (zc4 : ¬ 8 ≤ 6) => ?_)
  refine m_run 5 (ps' := (44, [some (.inl 6), some (.inl 126), none], [.inl 2, .inl 6], mW (n, T, h, t, x) M, 0, 0)) rfl ?_
  refine m_icmp rfl ⟨by omega, by omega⟩ ⟨by omega, by omega⟩ (fun (zc5 : 2 ≤ 6) => ?_) (fun (zc5 : ¬ 2 ≤ 6) => absurd zc5 (not_not_intro (by omega)))
  refine m_run 2 (ps' := (53, [some (.inl 6), some (.inl 126), none], [.inl 4, .inl 6], mW (n, T, h, t, x) M, 0, 0)) rfl ?_
  refine m_icmp rfl ⟨by omega, by omega⟩ ⟨by omega, by omega⟩ (fun (zc6 : 4 ≤ 6) => ?_) (fun (zc6 : ¬ 4 ≤ 6) => absurd zc6 (not_not_intro (by omega)))
  refine m_run 2 (ps' := (63, [some (.inl 6), some (.inl 126), none], [.inl 8, .inl 6], mW (n, T, h, t, x) M, 0, 0)) rfl ?_
  refine m_icmp rfl ⟨by omega, by omega⟩ ⟨by omega, by omega⟩ (fun (zc7 : 8 ≤ 6) => absurd zc7 (by omega)) (fun (zc7 : ¬ 8 ≤ 6) => ?_)
  refine m_run 4 (ps' := (74, [some (.inl 6), some (.inl 126), some (.inl 4)], [.inl 6], mW (n, T, h, t, x) M, 0, 0)) rfl ?_
  refine m_if rfl ⟨by omega, by omega⟩ (fun (zc8 : ¬ 6 = 0) => ?_) (fun (zc8 : ¬ ¬ 6 = 0) => absurd zc8 (not_not_intro (by omega)))
  refine m_run 8 (ps' := (91, [some (.inl 6), some (.inl 126), some (.inl 4)], [.inl 4, .inl 8388608, .inl (6 - 4), .inl ((Int32.ofInt 126 <<< (Int32.ofInt 23 &&& 31)).toInt)], mW (n, T, h, t, x) M, 0, 0)) rfl ?_
  refine m_div rfl (by omega) (by omega) (by omega) (by omega) ?_
  refine m_run 2 (ps' := (94, [some (.inl 6), some (.inl 126), some (.inl 4)], [.inl ((Int32.ofInt 126 <<< (Int32.ofInt 23 &&& 31)).toInt + ((6 - 4) * (8388608 / 4)))], mW (n, T, h, t, x) M, 0, 0)) rfl ?_
  exact m_ret1 rfl (Or.inl rfl) rfl (m_Vi (by decide +kernel))
set_option maxHeartbeats 4000000 in
set_option maxRecDepth 100000 in
theorem a_e7 {X : Nat × Nat × (Nat → Int32)} {n : Int} {T : Int → Int} {h : HS} {t : TS} {x : XS} {M : MS} : m_Run X 54 [.inl 7] (mW (n, T, h, t, x) M) (m_V (shB 7) (mW (n, T, h, t, x) M)) := by
  show m_Sem X 54 (0, [some (.inl 7), none, none], [], mW (n, T, h, t, x) M, 0, 0) _
  refine m_run 1 (ps' := (1, [some (.inl 7), none, none], [.inl 7], mW (n, T, h, t, x) M, 0, 0)) rfl ?_
  refine m_if rfl ⟨by omega, by omega⟩ (fun (zc1 : ¬ 7 = 0) => ?_) (fun (zc1 : ¬ ¬ 7 = 0) => absurd zc1 (not_not_intro (by omega)))
  refine m_run 2 (ps' := (10, [some (.inl 7), none, none], [.inl 2, .inl 7], mW (n, T, h, t, x) M, 0, 0)) rfl ?_
  refine m_icmp rfl ⟨by omega, by omega⟩ ⟨by omega, by omega⟩ (fun (zc2 : 2 ≤ 7) => ?_) (fun (zc2 : ¬ 2 ≤ 7) => absurd zc2 (not_not_intro (by omega)))
  refine m_run 2 (ps' := (20, [some (.inl 7), none, none], [.inl 4, .inl 7], mW (n, T, h, t, x) M, 0, 0)) rfl ?_
  refine m_icmp rfl ⟨by omega, by omega⟩ ⟨by omega, by omega⟩ (fun (zc3 : 4 ≤ 7) => ?_) (fun (zc3 : ¬ 4 ≤ 7) => absurd zc3 (not_not_intro (by omega)))
  refine m_run 2 (ps' := (31, [some (.inl 7), none, none], [.inl 8, .inl 7], mW (n, T, h, t, x) M, 0, 0)) rfl ?_
  refine m_icmp rfl ⟨by omega, by omega⟩ ⟨by omega, by omega⟩ (fun (zc4 : 8 ≤ 7) => absurd zc4 (by omega)) (fun (zc4 : ¬ 8 ≤ 7) => ?_)
  refine m_run 5 (ps' := (44, [some (.inl 7), some (.inl 126), none], [.inl 2, .inl 7], mW (n, T, h, t, x) M, 0, 0)) rfl ?_
  refine m_icmp rfl ⟨by omega, by omega⟩ ⟨by omega, by omega⟩ (fun (zc5 : 2 ≤ 7) => ?_) (fun (zc5 : ¬ 2 ≤ 7) => absurd zc5 (not_not_intro (by omega)))
  refine m_run 2 (ps' := (53, [some (.inl 7), some (.inl 126), none], [.inl 4, .inl 7], mW (n, T, h, t, x) M, 0, 0)) rfl ?_
  refine m_icmp rfl ⟨by omega, by omega⟩ ⟨by omega, by omega⟩ (fun (zc6 : 4 ≤ 7) => ?_) (fun (zc6 : ¬ 4 ≤ 7) => absurd zc6 (not_not_intro (by omega)))
  refine m_run 2 (ps' := (63, [some (.inl 7), some (.inl 126), none], [.inl 8, .inl 7], mW (n, T, h, t, x) M, 0, 0)) rfl ?_
  refine m_icmp rfl ⟨by omega, by omega⟩ ⟨by omega, by omega⟩ (fun (zc7 : 8 ≤ 7) => absurd zc7 (by omega)) (fun (zc7 : ¬ 8 ≤ 7) => ?_)
  refine m_run 4 (ps' := (74, [some (.inl 7), some (.inl 126), some (.inl 4)], [.inl 7], mW (n, T, h, t, x) M, 0, 0)) rfl ?_
  refine m_if rfl ⟨by omega, by omega⟩ (fun (zc8 : ¬ 7 = 0) => ?_) (fun (zc8 : ¬ ¬ 7 = 0) => absurd zc8 (not_not_intro (by omega)))
  refine m_run 8 (ps' := (91, [some (.inl 7), some (.inl 126), some (.inl 4)], [.inl 4, .inl 8388608, .inl (7 - 4), .inl ((Int32.ofInt 126 <<< (Int32.ofInt 23 &&& 31)).toInt)], mW (n, T, h, t, x) M, 0, 0)) rfl ?_
  refine m_div rfl (by omega) (by omega) (by omega) (by omega) ?_
  refine m_run 2 (ps' := (94, [some (.inl 7), some (.inl 126), some (.inl 4)], [.inl ((Int32.ofInt 126 <<< (Int32.ofInt 23 &&& 31)).toInt + ((7 - 4) * (8388608 / 4)))], mW (n, T, h, t, x) M, 0, 0)) rfl ?_
  exact m_ret1 rfl (Or.inl rfl) rfl (m_Vi (by decide +kernel))
set_option maxHeartbeats 4000000 in
set_option maxRecDepth 100000 in
theorem a_e8 {X : Nat × Nat × (Nat → Int32)} {n : Int} {T : Int → Int} {h : HS} {t : TS} {x : XS} {M : MS} : m_Run X 54 [.inl 8] (mW (n, T, h, t, x) M) (m_V (shB 8) (mW (n, T, h, t, x) M)) := by
  show m_Sem X 54 (0, [some (.inl 8), none, none], [], mW (n, T, h, t, x) M, 0, 0) _
  refine m_run 1 (ps' := (1, [some (.inl 8), none, none], [.inl 8], mW (n, T, h, t, x) M, 0, 0)) rfl ?_
  refine m_if rfl ⟨by omega, by omega⟩ (fun (zc1 : ¬ 8 = 0) => ?_) (fun (zc1 : ¬ ¬ 8 = 0) => absurd zc1 (not_not_intro (by omega)))
  refine m_run 2 (ps' := (10, [some (.inl 8), none, none], [.inl 2, .inl 8], mW (n, T, h, t, x) M, 0, 0)) rfl ?_
  refine m_icmp rfl ⟨by omega, by omega⟩ ⟨by omega, by omega⟩ (fun (zc2 : 2 ≤ 8) => ?_) (fun (zc2 : ¬ 2 ≤ 8) => absurd zc2 (not_not_intro (by omega)))
  refine m_run 2 (ps' := (20, [some (.inl 8), none, none], [.inl 4, .inl 8], mW (n, T, h, t, x) M, 0, 0)) rfl ?_
  refine m_icmp rfl ⟨by omega, by omega⟩ ⟨by omega, by omega⟩ (fun (zc3 : 4 ≤ 8) => ?_) (fun (zc3 : ¬ 4 ≤ 8) => absurd zc3 (not_not_intro (by omega)))
  refine m_run 2 (ps' := (31, [some (.inl 8), none, none], [.inl 8, .inl 8], mW (n, T, h, t, x) M, 0, 0)) rfl ?_
  refine m_icmp rfl ⟨by omega, by omega⟩ ⟨by omega, by omega⟩ (fun (zc4 : 8 ≤ 8) => ?_) (fun (zc4 : ¬ 8 ≤ 8) => absurd zc4 (not_not_intro (by omega)))
  refine m_run 4 (ps' := (44, [some (.inl 8), some (.inl 127), none], [.inl 2, .inl 8], mW (n, T, h, t, x) M, 0, 0)) rfl ?_
  refine m_icmp rfl ⟨by omega, by omega⟩ ⟨by omega, by omega⟩ (fun (zc5 : 2 ≤ 8) => ?_) (fun (zc5 : ¬ 2 ≤ 8) => absurd zc5 (not_not_intro (by omega)))
  refine m_run 2 (ps' := (53, [some (.inl 8), some (.inl 127), none], [.inl 4, .inl 8], mW (n, T, h, t, x) M, 0, 0)) rfl ?_
  refine m_icmp rfl ⟨by omega, by omega⟩ ⟨by omega, by omega⟩ (fun (zc6 : 4 ≤ 8) => ?_) (fun (zc6 : ¬ 4 ≤ 8) => absurd zc6 (not_not_intro (by omega)))
  refine m_run 2 (ps' := (63, [some (.inl 8), some (.inl 127), none], [.inl 8, .inl 8], mW (n, T, h, t, x) M, 0, 0)) rfl ?_
  refine m_icmp rfl ⟨by omega, by omega⟩ ⟨by omega, by omega⟩ (fun (zc7 : 8 ≤ 8) => ?_) (fun (zc7 : ¬ 8 ≤ 8) => absurd zc7 (not_not_intro (by omega)))
  refine m_run 3 (ps' := (74, [some (.inl 8), some (.inl 127), some (.inl 8)], [.inl 8], mW (n, T, h, t, x) M, 0, 0)) rfl ?_
  refine m_if rfl ⟨by omega, by omega⟩ (fun (zc8 : ¬ 8 = 0) => ?_) (fun (zc8 : ¬ ¬ 8 = 0) => absurd zc8 (not_not_intro (by omega)))
  refine m_run 8 (ps' := (91, [some (.inl 8), some (.inl 127), some (.inl 8)], [.inl 8, .inl 8388608, .inl (8 - 8), .inl ((Int32.ofInt 127 <<< (Int32.ofInt 23 &&& 31)).toInt)], mW (n, T, h, t, x) M, 0, 0)) rfl ?_
  refine m_div rfl (by omega) (by omega) (by omega) (by omega) ?_
  refine m_run 2 (ps' := (94, [some (.inl 8), some (.inl 127), some (.inl 8)], [.inl ((Int32.ofInt 127 <<< (Int32.ofInt 23 &&& 31)).toInt + ((8 - 8) * (8388608 / 8)))], mW (n, T, h, t, x) M, 0, 0)) rfl ?_
  exact m_ret1 rfl (Or.inl rfl) rfl (m_Vi (by decide +kernel))
theorem a_eig {X : Nat × Nat × (Nat → Int32)} {n : Int} {T : Int → Int} {h : HS} {t : TS} {x : XS} {M : MS} {v : Int} (h1 : 0 ≤ v) (h2 : v ≤ 8) : m_Run X 54 [.inl v] (mW (n, T, h, t, x) M) (m_V (shB v) (mW (n, T, h, t, x) M)) := by
  rcases (show v = 0 ∨ v = 1 ∨ v = 2 ∨ v = 3 ∨ v = 4 ∨ v = 5 ∨ v = 6 ∨ v = 7 ∨ v = 8 by omega) with rfl | rfl | rfl | rfl | rfl | rfl | rfl | rfl | rfl
  · exact a_e0
  · exact a_e1
  · exact a_e2
  · exact a_e3
  · exact a_e4
  · exact a_e5
  · exact a_e6
  · exact a_e7
  · exact a_e8
end
section
/-! The law's own laws: differences, what holds where, the first witness. -/
set_option maxHeartbeats 4000000 in
set_option maxRecDepth 100000 in
theorem a_un2 {X : Nat × Nat × (Nat → Int32)} {C : CS} {g : Int → Int} {f : Nat → Int64} {J : mPW} {n : Int} {tb : Int → Int → Int} {a b : Int} {r : Bool} {s : Nat} {v : Int} (hg : g 0 = n) (hn : okN n) (hs : s < 512) (hv : 0 ≤ v) (hv2 : v ≤ 9) : ∀ x : Int, 0 ≤ x → x ≤ 9 → ∀ (u : Int) (hu0 : 0 ≤ u) (hu : u + sumF (fun v => bI (s.testBit v.toNat)) (9 - x).toNat x = v), m_Sem X 55 (77, [some (.inr (.inl 13)), some (.inr (.inl 14)), some (.inl a), some (.inl b), some (.inl (bI r)), some (.inl (s : Int)), some (.inl u), some (.inl x)], [], mW C (.inl (0, 1, .inl g) :: .inl (2, 9, .inr f) :: J), 0, 0) (m_V (bI (decide (v = n))) (mW C (.inl (0, 1, .inl g) :: .inl (2, 9, .inr f) :: J))) := by
  have hl := okN_lo hn
  refine m_down 0 9 ?_ ?_
  · intro u hu0 hu
    rw [sum_end] at hu
    have hu : u = v := by omega
    subst hu
    show m_Sem X 55 (77, [some (.inr (.inl 13)), some (.inr (.inl 14)), some (.inl a), some (.inl b), some (.inl (bI r)), some (.inl (s : Int)), some (.inl u), some (.inl 9)], [], mW C (.inl (0, 1, .inl g) :: .inl (2, 9, .inr f) :: J), 0, 0) _
    refine m_run 2 (ps' := (81, [some (.inr (.inl 13)), some (.inr (.inl 14)), some (.inl a), some (.inl b), some (.inl (bI r)), some (.inl (s : Int)), some (.inl u), some (.inl 9)], [.inl 9, .inl 9], mW C (.inl (0, 1, .inl g) :: .inl (2, 9, .inr f) :: J), 0, 0)) rfl ?_
    refine m_icmp rfl ⟨by omega, by omega⟩ ⟨by omega, by omega⟩ (fun (zc1 : 9 ≤ 9) => ?_) (fun (zc1 : ¬ 9 ≤ 9) => absurd zc1 (not_not_intro (by omega)))
    refine m_run 3 (ps' := (106, [some (.inr (.inl 13)), some (.inr (.inl 14)), some (.inl a), some (.inl b), some (.inl (bI r)), some (.inl (s : Int)), some (.inl u), some (.inl 9)], [.inl 0, .inr (.inl 13), .inl u], mW C (.inl (0, 1, .inl g) :: .inl (2, 9, .inr f) :: J), 0, 0)) rfl ?_
    refine m_iald rfl rfl (by omega) (by omega) (by decide) ?_
    show m_Sem X 55 (107, [some (.inr (.inl 13)), some (.inr (.inl 14)), some (.inl a), some (.inl b), some (.inl (bI r)), some (.inl (s : Int)), some (.inl u), some (.inl 9)], [.inl (g 0), .inl u], mW C (.inl (0, 1, .inl g) :: .inl (2, 9, .inr f) :: J), 0, 0) _
    rw [hg]
    refine m_icmp rfl ⟨by omega, by omega⟩ ⟨by omega, by omega⟩ (fun (zc2 : ¬ u = n) => ?_) (fun (zc2 : ¬ ¬ u = n) => ?_)
    · refine m_run 1 (ps' := (115, [some (.inr (.inl 13)), some (.inr (.inl 14)), some (.inl a), some (.inl b), some (.inl (bI r)), some (.inl (s : Int)), some (.inl u), some (.inl 9)], [.inl 0], mW C (.inl (0, 1, .inl g) :: .inl (2, 9, .inr f) :: J), 0, 0)) rfl ?_
      exact m_ret1 rfl (Or.inr ⟨rfl, Or.inl rfl⟩) rfl (m_Vb (b0 (decide_eq_false zc2)))
    · replace zc2 : u = n := Decidable.not_not.mp zc2
      refine m_run 2 (ps' := (115, [some (.inr (.inl 13)), some (.inr (.inl 14)), some (.inl a), some (.inl b), some (.inl (bI r)), some (.inl (s : Int)), some (.inl u), some (.inl 9)], [.inl 1], mW C (.inl (0, 1, .inl g) :: .inl (2, 9, .inr f) :: J), 0, 0)) rfl ?_
      exact m_ret1 rfl (Or.inr ⟨rfl, Or.inr rfl⟩) rfl (m_Vb (b1 (decide_eq_true zc2)))
  · intro x hi1 hi2 ih u hu0 hu
    rw [sum_step hi2] at hu
    refine m_run 2 (ps' := (81, [some (.inr (.inl 13)), some (.inr (.inl 14)), some (.inl a), some (.inl b), some (.inl (bI r)), some (.inl (s : Int)), some (.inl u), some (.inl x)], [.inl 9, .inl x], mW C (.inl (0, 1, .inl g) :: .inl (2, 9, .inr f) :: J), 0, 0)) rfl ?_
    refine m_icmp rfl ⟨by omega, by omega⟩ ⟨by omega, by omega⟩ (fun (zc1 : 9 ≤ x) => absurd zc1 (by omega)) (fun (zc1 : ¬ 9 ≤ x) => ?_)
    refine m_run 10 (ps' := (77, [some (.inr (.inl 13)), some (.inr (.inl 14)), some (.inl a), some (.inl b), some (.inl (bI r)), some (.inl (s : Int)), some (.inl (u + (Int32.ofInt ((Int32.ofInt (s : Int) >>> (Int32.ofInt x &&& 31)).toInt) &&& Int32.ofInt 1).toInt)), some (.inl (x + 1))], [], mW C (.inl (0, 1, .inl g) :: .inl (2, 9, .inr f) :: J), 0, 0)) rfl ?_
    refine m_weak [some (.inr (.inl 13)), some (.inr (.inl 14)), some (.inl a), some (.inl b), some (.inl (bI r)), some (.inl (s : Int)), some (.inl (u + (Int32.ofInt ((Int32.ofInt (s : Int) >>> (Int32.ofInt x &&& 31)).toInt) &&& Int32.ofInt 1).toInt)), some (.inl (x + 1))] ⟨rfl, ⟨rfl, ⟨rfl, ⟨rfl, ⟨rfl, ⟨rfl, ⟨rfl, ⟨rfl, trivial⟩⟩⟩⟩⟩⟩⟩⟩ ?_
    rw [bit_at_i hs hi1 hi2]
    have h8 := bI_in (s.testBit x.toNat)
    exact ih _ (by omega) (by rw [← hu]; omega)
set_option maxHeartbeats 4000000 in
set_option maxRecDepth 100000 in
theorem a_un1 {X : Nat × Nat × (Nat → Int32)} {C : CS} {g : Int → Int} {f : Nat → Int64} {J : mPW} {n : Int} {tb : Int → Int → Int} {a b : Int} {r : Bool} {v : Int} (hg : g 0 = n) (hL : repL n f tb) (ha : 0 ≤ a) (ha2 : a < n) (hb : 0 ≤ b) (hb2 : b < n) : ∀ x : Int, 0 ≤ x → x ≤ n → ∀ (s : Nat) (hs : s < 512) (hu : popc (setK (difF n tb r a b) (n - x).toNat x s) = v), m_Sem X 55 (9, [some (.inr (.inl 13)), some (.inr (.inl 14)), some (.inl a), some (.inl b), some (.inl (bI r)), some (.inl (s : Int)), some (.inl 0), some (.inl x)], [], mW C (.inl (0, 1, .inl g) :: .inl (2, 9, .inr f) :: J), 0, 0) (m_V (bI (decide (v = n))) (mW C (.inl (0, 1, .inl g) :: .inl (2, 9, .inr f) :: J))) := by
  have hn := hL.1
  have hl := okN_lo hn
  refine m_down 0 n ?_ ?_
  · intro s hs hu
    rw [set_end] at hu
    show m_Sem X 55 (9, [some (.inr (.inl 13)), some (.inr (.inl 14)), some (.inl a), some (.inl b), some (.inl (bI r)), some (.inl (s : Int)), some (.inl 0), some (.inl n)], [], mW C (.inl (0, 1, .inl g) :: .inl (2, 9, .inr f) :: J), 0, 0) _
    refine m_run 3 (ps' := (13, [some (.inr (.inl 13)), some (.inr (.inl 14)), some (.inl a), some (.inl b), some (.inl (bI r)), some (.inl (s : Int)), some (.inl 0), some (.inl n)], [.inl 0, .inr (.inl 13), .inl n], mW C (.inl (0, 1, .inl g) :: .inl (2, 9, .inr f) :: J), 0, 0)) rfl ?_
    refine m_iald rfl rfl (by omega) (by omega) (by decide) ?_
    show m_Sem X 55 (14, [some (.inr (.inl 13)), some (.inr (.inl 14)), some (.inl a), some (.inl b), some (.inl (bI r)), some (.inl (s : Int)), some (.inl 0), some (.inl n)], [.inl (g 0), .inl n], mW C (.inl (0, 1, .inl g) :: .inl (2, 9, .inr f) :: J), 0, 0) _
    rw [hg]
    refine m_icmp rfl ⟨by omega, by omega⟩ ⟨by omega, by omega⟩ (fun (zc1 : n ≤ n) => ?_) (fun (zc1 : ¬ n ≤ n) => absurd zc1 (not_not_intro (by omega)))
    refine m_run 2 (ps' := (77, [some (.inr (.inl 13)), some (.inr (.inl 14)), some (.inl a), some (.inl b), some (.inl (bI r)), some (.inl (s : Int)), some (.inl 0), some (.inl 0)], [], mW C (.inl (0, 1, .inl g) :: .inl (2, 9, .inr f) :: J), 0, 0)) rfl ?_
    refine m_weak [some (.inr (.inl 13)), some (.inr (.inl 14)), some (.inl a), some (.inl b), some (.inl (bI r)), some (.inl (s : Int)), some (.inl 0), some (.inl 0)] ⟨rfl, ⟨rfl, ⟨rfl, ⟨rfl, ⟨rfl, ⟨rfl, ⟨rfl, ⟨rfl, trivial⟩⟩⟩⟩⟩⟩⟩⟩ ?_
    have h8 := popc_in s
    exact a_un2 (tb := tb) hg hn hs (by omega) (by omega) 0 (by omega) (by omega) 0 (by omega) (by rw [← hu, Int.zero_add]; rfl)
  · intro x hi1 hi2 ih s hs hu
    rw [set_step hi2] at hu
    refine m_run 3 (ps' := (13, [some (.inr (.inl 13)), some (.inr (.inl 14)), some (.inl a), some (.inl b), some (.inl (bI r)), some (.inl (s : Int)), some (.inl 0), some (.inl x)], [.inl 0, .inr (.inl 13), .inl x], mW C (.inl (0, 1, .inl g) :: .inl (2, 9, .inr f) :: J), 0, 0)) rfl ?_
    refine m_iald rfl rfl (by omega) (by omega) (by decide) ?_
    show m_Sem X 55 (14, [some (.inr (.inl 13)), some (.inr (.inl 14)), some (.inl a), some (.inl b), some (.inl (bI r)), some (.inl (s : Int)), some (.inl 0), some (.inl x)], [.inl (g 0), .inl x], mW C (.inl (0, 1, .inl g) :: .inl (2, 9, .inr f) :: J), 0, 0) _
    rw [hg]
    refine m_icmp rfl ⟨by omega, by omega⟩ ⟨by omega, by omega⟩ (fun (zc1 : n ≤ x) => absurd zc1 (by omega)) (fun (zc1 : ¬ n ≤ x) => ?_)
    refine m_run 3 (ps' := (22, [some (.inr (.inl 13)), some (.inr (.inl 14)), some (.inl a), some (.inl b), some (.inl (bI r)), some (.inl (s : Int)), some (.inl 0), some (.inl x)], [.inl (bI r), .inl 1, .inl (s : Int)], mW C (.inl (0, 1, .inl g) :: .inl (2, 9, .inr f) :: J), 0, 0)) rfl ?_
    refine m_if rfl (bI_R r) (fun (zc2 : (bI r) = 0) => ?_) (fun (zc2 : ¬ (bI r) = 0) => ?_)
    · replace zc2 : r = false := bI_e0.mp zc2
      refine m_run 4 (ps' := (51, [some (.inr (.inl 13)), some (.inr (.inl 14)), some (.inl a), some (.inl b), some (.inl (bI r)), some (.inl (s : Int)), some (.inl 0), some (.inl x)], [.inl a, .inl x, .inr (.inl 14), .inr (.inl 13), .inl 1, .inl (s : Int)], mW C (.inl (0, 1, .inl g) :: .inl (2, 9, .inr f) :: J), 0, 0)) rfl ?_
      refine m_callSF [.inr (.inl 14), .inl x, .inl a] [.inr (.inl 13), .inl 1, .inl (s : Int)] rfl rfl rfl (a_of (a := x) (b := a) hL (by omega) (by omega) (by omega) (by omega)) ?_
      have zt1 := (hL.2 x a (by omega) (by omega) (by omega) (by omega)).2
      show m_Sem X 55 (54, [some (.inr (.inl 13)), some (.inr (.inl 14)), some (.inl a), some (.inl b), some (.inl (bI r)), some (.inl (s : Int)), some (.inl 0), some (.inl x)], [.inl (tb x a), .inr (.inl 13), .inl 1, .inl (s : Int)], mW C (.inl (0, 1, .inl g) :: .inl (2, 9, .inr f) :: J), 0, 0) _
      refine m_run 3 (ps' := (58, [some (.inr (.inl 13)), some (.inr (.inl 14)), some (.inl a), some (.inl b), some (.inl (bI r)), some (.inl (s : Int)), some (.inl 0), some (.inl x)], [.inl b, .inl x, .inr (.inl 14), .inl (tb x a), .inr (.inl 13), .inl 1, .inl (s : Int)], mW C (.inl (0, 1, .inl g) :: .inl (2, 9, .inr f) :: J), 0, 0)) rfl ?_
      refine m_callSF [.inr (.inl 14), .inl x, .inl b] [.inl (tb x a), .inr (.inl 13), .inl 1, .inl (s : Int)] rfl rfl rfl (a_of (a := x) (b := b) hL (by omega) (by omega) (by omega) (by omega)) ?_
      have zt2 := (hL.2 x b (by omega) (by omega) (by omega) (by omega)).2
      show m_Sem X 55 (61, [some (.inr (.inl 13)), some (.inr (.inl 14)), some (.inl a), some (.inl b), some (.inl (bI r)), some (.inl (s : Int)), some (.inl 0), some (.inl x)], [.inl (tb x b), .inl (tb x a), .inr (.inl 13), .inl 1, .inl (s : Int)], mW C (.inl (0, 1, .inl g) :: .inl (2, 9, .inr f) :: J), 0, 0) _
      refine m_callSF [.inr (.inl 13), .inl (tb x a), .inl (tb x b)] [.inl 1, .inl (s : Int)] rfl rfl rfl (a_min (a := (tb x a)) (b := (tb x b)) hg hn (by omega) (by omega) (by omega) (by omega)) ?_
      have zt3 := difS_in (n := n) (a := (tb x a)) (b := (tb x b)) hn (by omega) (by omega) (by omega) (by omega)
      show m_Sem X 55 (64, [some (.inr (.inl 13)), some (.inr (.inl 14)), some (.inl a), some (.inl b), some (.inl (bI r)), some (.inl (s : Int)), some (.inl 0), some (.inl x)], [.inl (difS n (tb x a) (tb x b)), .inl 1, .inl (s : Int)], mW C (.inl (0, 1, .inl g) :: .inl (2, 9, .inr f) :: J), 0, 0) _
      refine m_run 5 (ps' := (9, [some (.inr (.inl 13)), some (.inr (.inl 14)), some (.inl a), some (.inl b), some (.inl (bI r)), some (.inl ((Int32.ofInt (s : Int) ||| Int32.ofInt ((Int32.ofInt 1 <<< (Int32.ofInt (difS n (tb x a) (tb x b)) &&& 31)).toInt)).toInt)), some (.inl 0), some (.inl (x + 1))], [], mW C (.inl (0, 1, .inl g) :: .inl (2, 9, .inr f) :: J), 0, 0)) rfl ?_
      refine m_weak [some (.inr (.inl 13)), some (.inr (.inl 14)), some (.inl a), some (.inl b), some (.inl (bI r)), some (.inl ((Int32.ofInt (s : Int) ||| Int32.ofInt ((Int32.ofInt 1 <<< (Int32.ofInt (difS n (tb x a) (tb x b)) &&& 31)).toInt)).toInt)), some (.inl 0), some (.inl (x + 1))] ⟨rfl, ⟨rfl, ⟨rfl, ⟨rfl, ⟨rfl, ⟨rfl, ⟨rfl, ⟨rfl, trivial⟩⟩⟩⟩⟩⟩⟩⟩ ?_
      have hd2 : difF n tb r a b x = (difS n (tb x a) (tb x b)) := by rw [zc2]; rfl
      have hw := pow9 (d := (difS n (tb x a) (tb x b))) (by omega) (by omega)
      rw [m_shl1 (by omega) (by omega), m_or (by omega) (by omega), ← hd2]
      exact ih _ (or9 hs (by rw [hd2]; exact hw)) hu
    · replace zc2 : r = true := bI_n0.mp zc2
      refine m_run 4 (ps' := (30, [some (.inr (.inl 13)), some (.inr (.inl 14)), some (.inl a), some (.inl b), some (.inl (bI r)), some (.inl (s : Int)), some (.inl 0), some (.inl x)], [.inl x, .inl a, .inr (.inl 14), .inr (.inl 13), .inl 1, .inl (s : Int)], mW C (.inl (0, 1, .inl g) :: .inl (2, 9, .inr f) :: J), 0, 0)) rfl ?_
      refine m_callSF [.inr (.inl 14), .inl a, .inl x] [.inr (.inl 13), .inl 1, .inl (s : Int)] rfl rfl rfl (a_of (a := a) (b := x) hL (by omega) (by omega) (by omega) (by omega)) ?_
      have zt1 := (hL.2 a x (by omega) (by omega) (by omega) (by omega)).2
      show m_Sem X 55 (33, [some (.inr (.inl 13)), some (.inr (.inl 14)), some (.inl a), some (.inl b), some (.inl (bI r)), some (.inl (s : Int)), some (.inl 0), some (.inl x)], [.inl (tb a x), .inr (.inl 13), .inl 1, .inl (s : Int)], mW C (.inl (0, 1, .inl g) :: .inl (2, 9, .inr f) :: J), 0, 0) _
      refine m_run 3 (ps' := (37, [some (.inr (.inl 13)), some (.inr (.inl 14)), some (.inl a), some (.inl b), some (.inl (bI r)), some (.inl (s : Int)), some (.inl 0), some (.inl x)], [.inl x, .inl b, .inr (.inl 14), .inl (tb a x), .inr (.inl 13), .inl 1, .inl (s : Int)], mW C (.inl (0, 1, .inl g) :: .inl (2, 9, .inr f) :: J), 0, 0)) rfl ?_
      refine m_callSF [.inr (.inl 14), .inl b, .inl x] [.inl (tb a x), .inr (.inl 13), .inl 1, .inl (s : Int)] rfl rfl rfl (a_of (a := b) (b := x) hL (by omega) (by omega) (by omega) (by omega)) ?_
      have zt2 := (hL.2 b x (by omega) (by omega) (by omega) (by omega)).2
      show m_Sem X 55 (40, [some (.inr (.inl 13)), some (.inr (.inl 14)), some (.inl a), some (.inl b), some (.inl (bI r)), some (.inl (s : Int)), some (.inl 0), some (.inl x)], [.inl (tb b x), .inl (tb a x), .inr (.inl 13), .inl 1, .inl (s : Int)], mW C (.inl (0, 1, .inl g) :: .inl (2, 9, .inr f) :: J), 0, 0) _
      refine m_callSF [.inr (.inl 13), .inl (tb a x), .inl (tb b x)] [.inl 1, .inl (s : Int)] rfl rfl rfl (a_min (a := (tb a x)) (b := (tb b x)) hg hn (by omega) (by omega) (by omega) (by omega)) ?_
      have zt3 := difS_in (n := n) (a := (tb a x)) (b := (tb b x)) hn (by omega) (by omega) (by omega) (by omega)
      show m_Sem X 55 (43, [some (.inr (.inl 13)), some (.inr (.inl 14)), some (.inl a), some (.inl b), some (.inl (bI r)), some (.inl (s : Int)), some (.inl 0), some (.inl x)], [.inl (difS n (tb a x) (tb b x)), .inl 1, .inl (s : Int)], mW C (.inl (0, 1, .inl g) :: .inl (2, 9, .inr f) :: J), 0, 0) _
      refine m_run 6 (ps' := (9, [some (.inr (.inl 13)), some (.inr (.inl 14)), some (.inl a), some (.inl b), some (.inl (bI r)), some (.inl ((Int32.ofInt (s : Int) ||| Int32.ofInt ((Int32.ofInt 1 <<< (Int32.ofInt (difS n (tb a x) (tb b x)) &&& 31)).toInt)).toInt)), some (.inl 0), some (.inl (x + 1))], [], mW C (.inl (0, 1, .inl g) :: .inl (2, 9, .inr f) :: J), 0, 0)) rfl ?_
      refine m_weak [some (.inr (.inl 13)), some (.inr (.inl 14)), some (.inl a), some (.inl b), some (.inl (bI r)), some (.inl ((Int32.ofInt (s : Int) ||| Int32.ofInt ((Int32.ofInt 1 <<< (Int32.ofInt (difS n (tb a x) (tb b x)) &&& 31)).toInt)).toInt)), some (.inl 0), some (.inl (x + 1))] ⟨rfl, ⟨rfl, ⟨rfl, ⟨rfl, ⟨rfl, ⟨rfl, ⟨rfl, ⟨rfl, trivial⟩⟩⟩⟩⟩⟩⟩⟩ ?_
      have hd2 : difF n tb r a b x = (difS n (tb a x) (tb b x)) := by rw [zc2]; rfl
      have hw := pow9 (d := (difS n (tb a x) (tb b x))) (by omega) (by omega)
      rw [m_shl1 (by omega) (by omega), m_or (by omega) (by omega), ← hd2]
      exact ih _ (or9 hs (by rw [hd2]; exact hw)) hu
set_option maxHeartbeats 4000000 in
set_option maxRecDepth 100000 in
theorem a_unl {X : Nat × Nat × (Nat → Int32)} {C : CS} {g : Int → Int} {f : Nat → Int64} {J : mPW} {n : Int} {tb : Int → Int → Int} {a b : Int} {r : Bool} (hg : g 0 = n) (hL : repL n f tb) (ha : 0 ≤ a) (ha2 : a < n) (hb : 0 ≤ b) (hb2 : b < n) : m_Run X 55 [.inr (.inl 13), .inr (.inl 14), .inl a, .inl b, .inl (bI r)] (mW C (.inl (0, 1, .inl g) :: .inl (2, 9, .inr f) :: J)) (m_V (bI (decide (onceS n tb r a b = n))) (mW C (.inl (0, 1, .inl g) :: .inl (2, 9, .inr f) :: J))) := by
  have hn := hL.1
  have hl := okN_lo hn
  have hd : ∀ j, 0 ≤ j → j < n → 0 ≤ difF n tb r a b j ∧ difF n tb r a b j < n := by
    intro j g1 g2
    have e1 := (hL.2 a j ha ha2 g1 g2).2
    have e2 := (hL.2 b j hb hb2 g1 g2).2
    have e3 := (hL.2 j a g1 g2 ha ha2).2
    have e4 := (hL.2 j b g1 g2 hb hb2).2
    unfold difF sideS
    cases r
    · exact difS_in hn e3.1 e3.2 e4.1 e4.2
    · exact difS_in hn e1.1 e1.2 e2.1 e2.2
  have h9 := set_once (n := n) (f := difF n tb r a b) (by omega) (by omega) hd
  unfold onceS
  rw [← h9]
  show m_Sem X 55 (0, [some (.inr (.inl 13)), some (.inr (.inl 14)), some (.inl a), some (.inl b), some (.inl (bI r)), none, none, none], [], mW C (.inl (0, 1, .inl g) :: .inl (2, 9, .inr f) :: J), 0, 0) _
  refine m_run 6 (ps' := (9, [some (.inr (.inl 13)), some (.inr (.inl 14)), some (.inl a), some (.inl b), some (.inl (bI r)), some (.inl 0), some (.inl 0), some (.inl 0)], [], mW C (.inl (0, 1, .inl g) :: .inl (2, 9, .inr f) :: J), 0, 0)) rfl ?_
  refine m_weak [some (.inr (.inl 13)), some (.inr (.inl 14)), some (.inl a), some (.inl b), some (.inl (bI r)), some (.inl 0), some (.inl 0), some (.inl 0)] ⟨rfl, ⟨rfl, ⟨rfl, ⟨rfl, ⟨rfl, ⟨rfl, ⟨rfl, ⟨rfl, trivial⟩⟩⟩⟩⟩⟩⟩⟩ ?_
  exact a_un1 hg hL ha ha2 hb hb2 0 (by omega) (by omega) 0 (by omega) (by rw [z_sub])
theorem hs_0 {n : Int} {tb : Int → Int → Int} {a b c : Int} : holdsS n tb 0 a b c = true ↔ tb 0 a = 0 ∧ tb a 0 = 0 := by simp [holdsS]
theorem hs_1 {n : Int} {tb : Int → Int → Int} {a b c : Int} : holdsS n tb 1 a b c = true ↔ tb 1 a = a ∧ tb a 1 = a := by simp [holdsS]
theorem hs_2 {n : Int} {tb : Int → Int → Int} {a b c : Int} : holdsS n tb 2 a b c = true ↔ tb a (sumS n b c) = sumS n (tb a b) (tb a c) := by simp [holdsS]
theorem hs_3 {n : Int} {tb : Int → Int → Int} {a b c : Int} : holdsS n tb 3 a b c = true ↔ tb (sumS n a b) c = sumS n (tb a c) (tb b c) := by simp [holdsS]
theorem hs_4 {n : Int} {tb : Int → Int → Int} {a b c : Int} : holdsS n tb 4 a b c = true ↔ tb (tb a b) c = tb a (tb b c) := by simp [holdsS]
theorem hs_5 {n : Int} {tb : Int → Int → Int} {a b c : Int} : holdsS n tb 5 a b c = true ↔ tb a b = tb b a := by simp [holdsS]
theorem hs_6 {n : Int} {tb : Int → Int → Int} {a b c : Int} : holdsS n tb 6 a b c = true ↔ a = b ∨ decide (onceS n tb true a b = n) = true := by simp [holdsS]
theorem hs_7 {n : Int} {tb : Int → Int → Int} {a b c : Int} : holdsS n tb 7 a b c = true ↔ a = b ∨ decide (onceS n tb false a b = n) = true := by simp [holdsS]
set_option maxHeartbeats 4000000 in
set_option maxRecDepth 100000 in
theorem a_h0 {X : Nat × Nat × (Nat → Int32)} {C : CS} {g : Int → Int} {f : Nat → Int64} {J : mPW} {n : Int} {tb : Int → Int → Int} {a b c : Int} (hg : g 0 = n) (hL : repL n f tb) (ha : 0 ≤ a) (ha2 : a < n) (hb : 0 ≤ b) (hb2 : b < n) (hc : 0 ≤ c) (hc2 : c < n) : m_Run X 56 [.inr (.inl 13), .inr (.inl 14), .inl 0, .inl a, .inl b, .inl c] (mW C (.inl (0, 1, .inl g) :: .inl (2, 9, .inr f) :: J)) (m_V (bI (holdsS n tb 0 a b c)) (mW C (.inl (0, 1, .inl g) :: .inl (2, 9, .inr f) :: J))) := by
  have hn := hL.1
  have hl := okN_lo hn
  show m_Sem X 56 (0, [some (.inr (.inl 13)), some (.inr (.inl 14)), some (.inl 0), some (.inl a), some (.inl b), some (.inl c)], [], mW C (.inl (0, 1, .inl g) :: .inl (2, 9, .inr f) :: J), 0, 0) _
  refine m_run 1 (ps' := (1, [some (.inr (.inl 13)), some (.inr (.inl 14)), some (.inl 0), some (.inl a), some (.inl b), some (.inl c)], [.inl 0], mW C (.inl (0, 1, .inl g) :: .inl (2, 9, .inr f) :: J), 0, 0)) rfl ?_
  refine m_if rfl ⟨by omega, by omega⟩ (fun (zc1 : ¬ 0 = 0) => absurd zc1 (by omega)) (fun (zc1 : ¬ ¬ 0 = 0) => ?_)
  refine m_run 3 (ps' := (7, [some (.inr (.inl 13)), some (.inr (.inl 14)), some (.inl 0), some (.inl a), some (.inl b), some (.inl c)], [.inl a, .inl 0, .inr (.inl 14)], mW C (.inl (0, 1, .inl g) :: .inl (2, 9, .inr f) :: J), 0, 0)) rfl ?_
  refine m_callSF [.inr (.inl 14), .inl 0, .inl a] [] rfl rfl rfl (a_of (a := 0) (b := a) hL (by omega) (by omega) (by omega) (by omega)) ?_
  have zt1 := (hL.2 0 a (by omega) (by omega) (by omega) (by omega)).2
  show m_Sem X 56 (10, [some (.inr (.inl 13)), some (.inr (.inl 14)), some (.inl 0), some (.inl a), some (.inl b), some (.inl c)], [.inl (tb 0 a)], mW C (.inl (0, 1, .inl g) :: .inl (2, 9, .inr f) :: J), 0, 0) _
  refine m_run 3 (ps' := (13, [some (.inr (.inl 13)), some (.inr (.inl 14)), some (.inl 0), some (.inl a), some (.inl b), some (.inl c)], [.inl 0, .inl a, .inr (.inl 14), .inl (tb 0 a)], mW C (.inl (0, 1, .inl g) :: .inl (2, 9, .inr f) :: J), 0, 0)) rfl ?_
  refine m_callSF [.inr (.inl 14), .inl a, .inl 0] [.inl (tb 0 a)] rfl rfl rfl (a_of (a := a) (b := 0) hL (by omega) (by omega) (by omega) (by omega)) ?_
  have zt2 := (hL.2 a 0 (by omega) (by omega) (by omega) (by omega)).2
  show m_Sem X 56 (16, [some (.inr (.inl 13)), some (.inr (.inl 14)), some (.inl 0), some (.inl a), some (.inl b), some (.inl c)], [.inl (tb a 0), .inl (tb 0 a)], mW C (.inl (0, 1, .inl g) :: .inl (2, 9, .inr f) :: J), 0, 0) _
  refine m_run 1 (ps' := (17, [some (.inr (.inl 13)), some (.inr (.inl 14)), some (.inl 0), some (.inl a), some (.inl b), some (.inl c)], [.inl ((tb 0 a) + (tb a 0))], mW C (.inl (0, 1, .inl g) :: .inl (2, 9, .inr f) :: J), 0, 0)) rfl ?_
  refine m_if rfl ⟨by omega, by omega⟩ (fun (zc2 : ¬ ((tb 0 a) + (tb a 0)) = 0) => ?_) (fun (zc2 : ¬ ¬ ((tb 0 a) + (tb a 0)) = 0) => ?_)
  · refine m_run 1 (ps' := (25, [some (.inr (.inl 13)), some (.inr (.inl 14)), some (.inl 0), some (.inl a), some (.inl b), some (.inl c)], [.inl 0], mW C (.inl (0, 1, .inl g) :: .inl (2, 9, .inr f) :: J), 0, 0)) rfl ?_
    exact m_ret1 rfl (Or.inr ⟨rfl, Or.inl rfl⟩) rfl (m_Vb (b0 (Bool.eq_false_iff.mpr (fun h9 => absurd (hs_0.mp h9) (by omega)))))
  · replace zc2 : ((tb 0 a) + (tb a 0)) = 0 := Decidable.not_not.mp zc2
    refine m_run 2 (ps' := (25, [some (.inr (.inl 13)), some (.inr (.inl 14)), some (.inl 0), some (.inl a), some (.inl b), some (.inl c)], [.inl 1], mW C (.inl (0, 1, .inl g) :: .inl (2, 9, .inr f) :: J), 0, 0)) rfl ?_
    exact m_ret1 rfl (Or.inr ⟨rfl, Or.inr rfl⟩) rfl (m_Vb (b1 (hs_0.mpr (by omega))))
set_option maxHeartbeats 4000000 in
set_option maxRecDepth 100000 in
theorem a_h1 {X : Nat × Nat × (Nat → Int32)} {C : CS} {g : Int → Int} {f : Nat → Int64} {J : mPW} {n : Int} {tb : Int → Int → Int} {a b c : Int} (hg : g 0 = n) (hL : repL n f tb) (ha : 0 ≤ a) (ha2 : a < n) (hb : 0 ≤ b) (hb2 : b < n) (hc : 0 ≤ c) (hc2 : c < n) : m_Run X 56 [.inr (.inl 13), .inr (.inl 14), .inl 1, .inl a, .inl b, .inl c] (mW C (.inl (0, 1, .inl g) :: .inl (2, 9, .inr f) :: J)) (m_V (bI (holdsS n tb 1 a b c)) (mW C (.inl (0, 1, .inl g) :: .inl (2, 9, .inr f) :: J))) := by
  have hn := hL.1
  have hl := okN_lo hn
  show m_Sem X 56 (0, [some (.inr (.inl 13)), some (.inr (.inl 14)), some (.inl 1), some (.inl a), some (.inl b), some (.inl c)], [], mW C (.inl (0, 1, .inl g) :: .inl (2, 9, .inr f) :: J), 0, 0) _
  refine m_run 1 (ps' := (1, [some (.inr (.inl 13)), some (.inr (.inl 14)), some (.inl 1), some (.inl a), some (.inl b), some (.inl c)], [.inl 1], mW C (.inl (0, 1, .inl g) :: .inl (2, 9, .inr f) :: J), 0, 0)) rfl ?_
  refine m_if rfl ⟨by omega, by omega⟩ (fun (zc1 : ¬ 1 = 0) => ?_) (fun (zc1 : ¬ ¬ 1 = 0) => absurd zc1 (not_not_intro (by omega)))
  refine m_run 2 (ps' := (28, [some (.inr (.inl 13)), some (.inr (.inl 14)), some (.inl 1), some (.inl a), some (.inl b), some (.inl c)], [.inl 1, .inl 1], mW C (.inl (0, 1, .inl g) :: .inl (2, 9, .inr f) :: J), 0, 0)) rfl ?_
  refine m_icmp rfl ⟨by omega, by omega⟩ ⟨by omega, by omega⟩ (fun (zc2 : ¬ 1 = 1) => absurd zc2 (by omega)) (fun (zc2 : ¬ ¬ 1 = 1) => ?_)
  refine m_run 3 (ps' := (34, [some (.inr (.inl 13)), some (.inr (.inl 14)), some (.inl 1), some (.inl a), some (.inl b), some (.inl c)], [.inl a, .inl 1, .inr (.inl 14)], mW C (.inl (0, 1, .inl g) :: .inl (2, 9, .inr f) :: J), 0, 0)) rfl ?_
  refine m_callSF [.inr (.inl 14), .inl 1, .inl a] [] rfl rfl rfl (a_of (a := 1) (b := a) hL (by omega) (by omega) (by omega) (by omega)) ?_
  have zt1 := (hL.2 1 a (by omega) (by omega) (by omega) (by omega)).2
  show m_Sem X 56 (37, [some (.inr (.inl 13)), some (.inr (.inl 14)), some (.inl 1), some (.inl a), some (.inl b), some (.inl c)], [.inl (tb 1 a)], mW C (.inl (0, 1, .inl g) :: .inl (2, 9, .inr f) :: J), 0, 0) _
  refine m_run 1 (ps' := (38, [some (.inr (.inl 13)), some (.inr (.inl 14)), some (.inl 1), some (.inl a), some (.inl b), some (.inl c)], [.inl a, .inl (tb 1 a)], mW C (.inl (0, 1, .inl g) :: .inl (2, 9, .inr f) :: J), 0, 0)) rfl ?_
  refine m_icmp rfl ⟨by omega, by omega⟩ ⟨by omega, by omega⟩ (fun (zc3 : ¬ (tb 1 a) = a) => ?_) (fun (zc3 : ¬ ¬ (tb 1 a) = a) => ?_)
  · refine m_run 1 (ps' := (56, [some (.inr (.inl 13)), some (.inr (.inl 14)), some (.inl 1), some (.inl a), some (.inl b), some (.inl c)], [.inl 0], mW C (.inl (0, 1, .inl g) :: .inl (2, 9, .inr f) :: J), 0, 0)) rfl ?_
    exact m_ret1 rfl (Or.inr ⟨rfl, Or.inl rfl⟩) rfl (m_Vb (b0 (Bool.eq_false_iff.mpr (fun h9 => absurd (hs_1.mp h9) (by omega)))))
  · replace zc3 : (tb 1 a) = a := Decidable.not_not.mp zc3
    refine m_run 3 (ps' := (44, [some (.inr (.inl 13)), some (.inr (.inl 14)), some (.inl 1), some (.inl a), some (.inl b), some (.inl c)], [.inl 1, .inl a, .inr (.inl 14)], mW C (.inl (0, 1, .inl g) :: .inl (2, 9, .inr f) :: J), 0, 0)) rfl ?_
    refine m_callSF [.inr (.inl 14), .inl a, .inl 1] [] rfl rfl rfl (a_of (a := a) (b := 1) hL (by omega) (by omega) (by omega) (by omega)) ?_
    have zt2 := (hL.2 a 1 (by omega) (by omega) (by omega) (by omega)).2
    show m_Sem X 56 (47, [some (.inr (.inl 13)), some (.inr (.inl 14)), some (.inl 1), some (.inl a), some (.inl b), some (.inl c)], [.inl (tb a 1)], mW C (.inl (0, 1, .inl g) :: .inl (2, 9, .inr f) :: J), 0, 0) _
    refine m_run 1 (ps' := (48, [some (.inr (.inl 13)), some (.inr (.inl 14)), some (.inl 1), some (.inl a), some (.inl b), some (.inl c)], [.inl a, .inl (tb a 1)], mW C (.inl (0, 1, .inl g) :: .inl (2, 9, .inr f) :: J), 0, 0)) rfl ?_
    refine m_icmp rfl ⟨by omega, by omega⟩ ⟨by omega, by omega⟩ (fun (zc4 : ¬ (tb a 1) = a) => ?_) (fun (zc4 : ¬ ¬ (tb a 1) = a) => ?_)
    · refine m_run 1 (ps' := (56, [some (.inr (.inl 13)), some (.inr (.inl 14)), some (.inl 1), some (.inl a), some (.inl b), some (.inl c)], [.inl 0], mW C (.inl (0, 1, .inl g) :: .inl (2, 9, .inr f) :: J), 0, 0)) rfl ?_
      exact m_ret1 rfl (Or.inr ⟨rfl, Or.inl rfl⟩) rfl (m_Vb (b0 (Bool.eq_false_iff.mpr (fun h9 => absurd (hs_1.mp h9) (by omega)))))
    · replace zc4 : (tb a 1) = a := Decidable.not_not.mp zc4
      refine m_run 2 (ps' := (56, [some (.inr (.inl 13)), some (.inr (.inl 14)), some (.inl 1), some (.inl a), some (.inl b), some (.inl c)], [.inl 1], mW C (.inl (0, 1, .inl g) :: .inl (2, 9, .inr f) :: J), 0, 0)) rfl ?_
      exact m_ret1 rfl (Or.inr ⟨rfl, Or.inr rfl⟩) rfl (m_Vb (b1 (hs_1.mpr (by omega))))
set_option maxHeartbeats 4000000 in
set_option maxRecDepth 100000 in
theorem a_h2 {X : Nat × Nat × (Nat → Int32)} {C : CS} {g : Int → Int} {f : Nat → Int64} {J : mPW} {n : Int} {tb : Int → Int → Int} {a b c : Int} (hg : g 0 = n) (hL : repL n f tb) (ha : 0 ≤ a) (ha2 : a < n) (hb : 0 ≤ b) (hb2 : b < n) (hc : 0 ≤ c) (hc2 : c < n) : m_Run X 56 [.inr (.inl 13), .inr (.inl 14), .inl 2, .inl a, .inl b, .inl c] (mW C (.inl (0, 1, .inl g) :: .inl (2, 9, .inr f) :: J)) (m_V (bI (holdsS n tb 2 a b c)) (mW C (.inl (0, 1, .inl g) :: .inl (2, 9, .inr f) :: J))) := by
  have hn := hL.1
  have hl := okN_lo hn
  show m_Sem X 56 (0, [some (.inr (.inl 13)), some (.inr (.inl 14)), some (.inl 2), some (.inl a), some (.inl b), some (.inl c)], [], mW C (.inl (0, 1, .inl g) :: .inl (2, 9, .inr f) :: J), 0, 0) _
  refine m_run 1 (ps' := (1, [some (.inr (.inl 13)), some (.inr (.inl 14)), some (.inl 2), some (.inl a), some (.inl b), some (.inl c)], [.inl 2], mW C (.inl (0, 1, .inl g) :: .inl (2, 9, .inr f) :: J), 0, 0)) rfl ?_
  refine m_if rfl ⟨by omega, by omega⟩ (fun (zc1 : ¬ 2 = 0) => ?_) (fun (zc1 : ¬ ¬ 2 = 0) => absurd zc1 (not_not_intro (by omega)))
  refine m_run 2 (ps' := (28, [some (.inr (.inl 13)), some (.inr (.inl 14)), some (.inl 2), some (.inl a), some (.inl b), some (.inl c)], [.inl 1, .inl 2], mW C (.inl (0, 1, .inl g) :: .inl (2, 9, .inr f) :: J), 0, 0)) rfl ?_
  refine m_icmp rfl ⟨by omega, by omega⟩ ⟨by omega, by omega⟩ (fun (zc2 : ¬ 2 = 1) => ?_) (fun (zc2 : ¬ ¬ 2 = 1) => absurd zc2 (not_not_intro (by omega)))
  refine m_run 2 (ps' := (59, [some (.inr (.inl 13)), some (.inr (.inl 14)), some (.inl 2), some (.inl a), some (.inl b), some (.inl c)], [.inl 2, .inl 2], mW C (.inl (0, 1, .inl g) :: .inl (2, 9, .inr f) :: J), 0, 0)) rfl ?_
  refine m_icmp rfl ⟨by omega, by omega⟩ ⟨by omega, by omega⟩ (fun (zc3 : ¬ 2 = 2) => absurd zc3 (by omega)) (fun (zc3 : ¬ ¬ 2 = 2) => ?_)
  refine m_run 6 (ps' := (70, [some (.inr (.inl 13)), some (.inr (.inl 14)), some (.inl 2), some (.inl a), some (.inl b), some (.inl c)], [.inl c, .inl b, .inr (.inl 13), .inl a, .inr (.inl 14), .inr (.inl 13)], mW C (.inl (0, 1, .inl g) :: .inl (2, 9, .inr f) :: J), 0, 0)) rfl ?_
  refine m_callSF [.inr (.inl 13), .inl b, .inl c] [.inl a, .inr (.inl 14), .inr (.inl 13)] rfl rfl rfl (a_add (a := b) (b := c) hg hn (by omega) (by omega) (by omega) (by omega)) ?_
  have zt1 := sumS_in (n := n) (a := b) (b := c) hn (by omega) (by omega) (by omega) (by omega)
  show m_Sem X 56 (73, [some (.inr (.inl 13)), some (.inr (.inl 14)), some (.inl 2), some (.inl a), some (.inl b), some (.inl c)], [.inl (sumS n b c), .inl a, .inr (.inl 14), .inr (.inl 13)], mW C (.inl (0, 1, .inl g) :: .inl (2, 9, .inr f) :: J), 0, 0) _
  refine m_callSF [.inr (.inl 14), .inl a, .inl (sumS n b c)] [.inr (.inl 13)] rfl rfl rfl (a_of (a := a) (b := (sumS n b c)) hL (by omega) (by omega) (by omega) (by omega)) ?_
  have zt2 := (hL.2 a (sumS n b c) (by omega) (by omega) (by omega) (by omega)).2
  show m_Sem X 56 (76, [some (.inr (.inl 13)), some (.inr (.inl 14)), some (.inl 2), some (.inl a), some (.inl b), some (.inl c)], [.inl (tb a (sumS n b c)), .inr (.inl 13)], mW C (.inl (0, 1, .inl g) :: .inl (2, 9, .inr f) :: J), 0, 0) _
  refine m_run 3 (ps' := (80, [some (.inr (.inl 13)), some (.inr (.inl 14)), some (.inl 2), some (.inl a), some (.inl b), some (.inl c)], [.inl b, .inl a, .inr (.inl 14), .inl (tb a (sumS n b c)), .inr (.inl 13)], mW C (.inl (0, 1, .inl g) :: .inl (2, 9, .inr f) :: J), 0, 0)) rfl ?_
  refine m_callSF [.inr (.inl 14), .inl a, .inl b] [.inl (tb a (sumS n b c)), .inr (.inl 13)] rfl rfl rfl (a_of (a := a) (b := b) hL (by omega) (by omega) (by omega) (by omega)) ?_
  have zt3 := (hL.2 a b (by omega) (by omega) (by omega) (by omega)).2
  show m_Sem X 56 (83, [some (.inr (.inl 13)), some (.inr (.inl 14)), some (.inl 2), some (.inl a), some (.inl b), some (.inl c)], [.inl (tb a b), .inl (tb a (sumS n b c)), .inr (.inl 13)], mW C (.inl (0, 1, .inl g) :: .inl (2, 9, .inr f) :: J), 0, 0) _
  refine m_callSF [.inr (.inl 13), .inl (tb a (sumS n b c)), .inl (tb a b)] [] rfl rfl rfl (a_min (a := (tb a (sumS n b c))) (b := (tb a b)) hg hn (by omega) (by omega) (by omega) (by omega)) ?_
  have zt4 := difS_in (n := n) (a := (tb a (sumS n b c))) (b := (tb a b)) hn (by omega) (by omega) (by omega) (by omega)
  show m_Sem X 56 (86, [some (.inr (.inl 13)), some (.inr (.inl 14)), some (.inl 2), some (.inl a), some (.inl b), some (.inl c)], [.inl (difS n (tb a (sumS n b c)) (tb a b))], mW C (.inl (0, 1, .inl g) :: .inl (2, 9, .inr f) :: J), 0, 0) _
  refine m_run 3 (ps' := (90, [some (.inr (.inl 13)), some (.inr (.inl 14)), some (.inl 2), some (.inl a), some (.inl b), some (.inl c)], [.inl c, .inl a, .inr (.inl 14), .inl (difS n (tb a (sumS n b c)) (tb a b))], mW C (.inl (0, 1, .inl g) :: .inl (2, 9, .inr f) :: J), 0, 0)) rfl ?_
  refine m_callSF [.inr (.inl 14), .inl a, .inl c] [.inl (difS n (tb a (sumS n b c)) (tb a b))] rfl rfl rfl (a_of (a := a) (b := c) hL (by omega) (by omega) (by omega) (by omega)) ?_
  have zt5 := (hL.2 a c (by omega) (by omega) (by omega) (by omega)).2
  show m_Sem X 56 (93, [some (.inr (.inl 13)), some (.inr (.inl 14)), some (.inl 2), some (.inl a), some (.inl b), some (.inl c)], [.inl (tb a c), .inl (difS n (tb a (sumS n b c)) (tb a b))], mW C (.inl (0, 1, .inl g) :: .inl (2, 9, .inr f) :: J), 0, 0) _
  refine m_icmp rfl ⟨by omega, by omega⟩ ⟨by omega, by omega⟩ (fun (zc4 : ¬ (difS n (tb a (sumS n b c)) (tb a b)) = (tb a c)) => ?_) (fun (zc4 : ¬ ¬ (difS n (tb a (sumS n b c)) (tb a b)) = (tb a c)) => ?_)
  · refine m_run 1 (ps' := (101, [some (.inr (.inl 13)), some (.inr (.inl 14)), some (.inl 2), some (.inl a), some (.inl b), some (.inl c)], [.inl 0], mW C (.inl (0, 1, .inl g) :: .inl (2, 9, .inr f) :: J), 0, 0)) rfl ?_
    have h7 := dif_iff (x := tb a (sumS n b c)) (y := tb a b) (z := tb a c) hn (by omega) (by omega) (by omega) (by omega) (by omega) (by omega)
    exact m_ret1 rfl (Or.inr ⟨rfl, Or.inl rfl⟩) rfl (m_Vb (b0 (Bool.eq_false_iff.mpr (fun h9 => absurd (h7.mpr (hs_2.mp h9)) (by assumption)))))
  · replace zc4 : (difS n (tb a (sumS n b c)) (tb a b)) = (tb a c) := Decidable.not_not.mp zc4
    refine m_run 2 (ps' := (101, [some (.inr (.inl 13)), some (.inr (.inl 14)), some (.inl 2), some (.inl a), some (.inl b), some (.inl c)], [.inl 1], mW C (.inl (0, 1, .inl g) :: .inl (2, 9, .inr f) :: J), 0, 0)) rfl ?_
    have h7 := dif_iff (x := tb a (sumS n b c)) (y := tb a b) (z := tb a c) hn (by omega) (by omega) (by omega) (by omega) (by omega) (by omega)
    exact m_ret1 rfl (Or.inr ⟨rfl, Or.inr rfl⟩) rfl (m_Vb (b1 (hs_2.mpr (h7.mp (by assumption)))))
set_option maxHeartbeats 4000000 in
set_option maxRecDepth 100000 in
theorem a_h3 {X : Nat × Nat × (Nat → Int32)} {C : CS} {g : Int → Int} {f : Nat → Int64} {J : mPW} {n : Int} {tb : Int → Int → Int} {a b c : Int} (hg : g 0 = n) (hL : repL n f tb) (ha : 0 ≤ a) (ha2 : a < n) (hb : 0 ≤ b) (hb2 : b < n) (hc : 0 ≤ c) (hc2 : c < n) : m_Run X 56 [.inr (.inl 13), .inr (.inl 14), .inl 3, .inl a, .inl b, .inl c] (mW C (.inl (0, 1, .inl g) :: .inl (2, 9, .inr f) :: J)) (m_V (bI (holdsS n tb 3 a b c)) (mW C (.inl (0, 1, .inl g) :: .inl (2, 9, .inr f) :: J))) := by
  have hn := hL.1
  have hl := okN_lo hn
  show m_Sem X 56 (0, [some (.inr (.inl 13)), some (.inr (.inl 14)), some (.inl 3), some (.inl a), some (.inl b), some (.inl c)], [], mW C (.inl (0, 1, .inl g) :: .inl (2, 9, .inr f) :: J), 0, 0) _
  refine m_run 1 (ps' := (1, [some (.inr (.inl 13)), some (.inr (.inl 14)), some (.inl 3), some (.inl a), some (.inl b), some (.inl c)], [.inl 3], mW C (.inl (0, 1, .inl g) :: .inl (2, 9, .inr f) :: J), 0, 0)) rfl ?_
  refine m_if rfl ⟨by omega, by omega⟩ (fun (zc1 : ¬ 3 = 0) => ?_) (fun (zc1 : ¬ ¬ 3 = 0) => absurd zc1 (not_not_intro (by omega)))
  refine m_run 2 (ps' := (28, [some (.inr (.inl 13)), some (.inr (.inl 14)), some (.inl 3), some (.inl a), some (.inl b), some (.inl c)], [.inl 1, .inl 3], mW C (.inl (0, 1, .inl g) :: .inl (2, 9, .inr f) :: J), 0, 0)) rfl ?_
  refine m_icmp rfl ⟨by omega, by omega⟩ ⟨by omega, by omega⟩ (fun (zc2 : ¬ 3 = 1) => ?_) (fun (zc2 : ¬ ¬ 3 = 1) => absurd zc2 (not_not_intro (by omega)))
  refine m_run 2 (ps' := (59, [some (.inr (.inl 13)), some (.inr (.inl 14)), some (.inl 3), some (.inl a), some (.inl b), some (.inl c)], [.inl 2, .inl 3], mW C (.inl (0, 1, .inl g) :: .inl (2, 9, .inr f) :: J), 0, 0)) rfl ?_
  refine m_icmp rfl ⟨by omega, by omega⟩ ⟨by omega, by omega⟩ (fun (zc3 : ¬ 3 = 2) => ?_) (fun (zc3 : ¬ ¬ 3 = 2) => absurd zc3 (not_not_intro (by omega)))
  refine m_run 2 (ps' := (104, [some (.inr (.inl 13)), some (.inr (.inl 14)), some (.inl 3), some (.inl a), some (.inl b), some (.inl c)], [.inl 3, .inl 3], mW C (.inl (0, 1, .inl g) :: .inl (2, 9, .inr f) :: J), 0, 0)) rfl ?_
  refine m_icmp rfl ⟨by omega, by omega⟩ ⟨by omega, by omega⟩ (fun (zc4 : ¬ 3 = 3) => absurd zc4 (by omega)) (fun (zc4 : ¬ ¬ 3 = 3) => ?_)
  refine m_run 5 (ps' := (113, [some (.inr (.inl 13)), some (.inr (.inl 14)), some (.inl 3), some (.inl a), some (.inl b), some (.inl c)], [.inl b, .inl a, .inr (.inl 13), .inr (.inl 14), .inr (.inl 13)], mW C (.inl (0, 1, .inl g) :: .inl (2, 9, .inr f) :: J), 0, 0)) rfl ?_
  refine m_callSF [.inr (.inl 13), .inl a, .inl b] [.inr (.inl 14), .inr (.inl 13)] rfl rfl rfl (a_add (a := a) (b := b) hg hn (by omega) (by omega) (by omega) (by omega)) ?_
  have zt1 := sumS_in (n := n) (a := a) (b := b) hn (by omega) (by omega) (by omega) (by omega)
  show m_Sem X 56 (116, [some (.inr (.inl 13)), some (.inr (.inl 14)), some (.inl 3), some (.inl a), some (.inl b), some (.inl c)], [.inl (sumS n a b), .inr (.inl 14), .inr (.inl 13)], mW C (.inl (0, 1, .inl g) :: .inl (2, 9, .inr f) :: J), 0, 0) _
  refine m_run 1 (ps' := (118, [some (.inr (.inl 13)), some (.inr (.inl 14)), some (.inl 3), some (.inl a), some (.inl b), some (.inl c)], [.inl c, .inl (sumS n a b), .inr (.inl 14), .inr (.inl 13)], mW C (.inl (0, 1, .inl g) :: .inl (2, 9, .inr f) :: J), 0, 0)) rfl ?_
  refine m_callSF [.inr (.inl 14), .inl (sumS n a b), .inl c] [.inr (.inl 13)] rfl rfl rfl (a_of (a := (sumS n a b)) (b := c) hL (by omega) (by omega) (by omega) (by omega)) ?_
  have zt2 := (hL.2 (sumS n a b) c (by omega) (by omega) (by omega) (by omega)).2
  show m_Sem X 56 (121, [some (.inr (.inl 13)), some (.inr (.inl 14)), some (.inl 3), some (.inl a), some (.inl b), some (.inl c)], [.inl (tb (sumS n a b) c), .inr (.inl 13)], mW C (.inl (0, 1, .inl g) :: .inl (2, 9, .inr f) :: J), 0, 0) _
  refine m_run 3 (ps' := (125, [some (.inr (.inl 13)), some (.inr (.inl 14)), some (.inl 3), some (.inl a), some (.inl b), some (.inl c)], [.inl c, .inl a, .inr (.inl 14), .inl (tb (sumS n a b) c), .inr (.inl 13)], mW C (.inl (0, 1, .inl g) :: .inl (2, 9, .inr f) :: J), 0, 0)) rfl ?_
  refine m_callSF [.inr (.inl 14), .inl a, .inl c] [.inl (tb (sumS n a b) c), .inr (.inl 13)] rfl rfl rfl (a_of (a := a) (b := c) hL (by omega) (by omega) (by omega) (by omega)) ?_
  have zt3 := (hL.2 a c (by omega) (by omega) (by omega) (by omega)).2
  show m_Sem X 56 (128, [some (.inr (.inl 13)), some (.inr (.inl 14)), some (.inl 3), some (.inl a), some (.inl b), some (.inl c)], [.inl (tb a c), .inl (tb (sumS n a b) c), .inr (.inl 13)], mW C (.inl (0, 1, .inl g) :: .inl (2, 9, .inr f) :: J), 0, 0) _
  refine m_callSF [.inr (.inl 13), .inl (tb (sumS n a b) c), .inl (tb a c)] [] rfl rfl rfl (a_min (a := (tb (sumS n a b) c)) (b := (tb a c)) hg hn (by omega) (by omega) (by omega) (by omega)) ?_
  have zt4 := difS_in (n := n) (a := (tb (sumS n a b) c)) (b := (tb a c)) hn (by omega) (by omega) (by omega) (by omega)
  show m_Sem X 56 (131, [some (.inr (.inl 13)), some (.inr (.inl 14)), some (.inl 3), some (.inl a), some (.inl b), some (.inl c)], [.inl (difS n (tb (sumS n a b) c) (tb a c))], mW C (.inl (0, 1, .inl g) :: .inl (2, 9, .inr f) :: J), 0, 0) _
  refine m_run 3 (ps' := (136, [some (.inr (.inl 13)), some (.inr (.inl 14)), some (.inl 3), some (.inl a), some (.inl b), some (.inl c)], [.inl c, .inl b, .inr (.inl 14), .inl (difS n (tb (sumS n a b) c) (tb a c))], mW C (.inl (0, 1, .inl g) :: .inl (2, 9, .inr f) :: J), 0, 0)) rfl ?_
  refine m_callSF [.inr (.inl 14), .inl b, .inl c] [.inl (difS n (tb (sumS n a b) c) (tb a c))] rfl rfl rfl (a_of (a := b) (b := c) hL (by omega) (by omega) (by omega) (by omega)) ?_
  have zt5 := (hL.2 b c (by omega) (by omega) (by omega) (by omega)).2
  show m_Sem X 56 (139, [some (.inr (.inl 13)), some (.inr (.inl 14)), some (.inl 3), some (.inl a), some (.inl b), some (.inl c)], [.inl (tb b c), .inl (difS n (tb (sumS n a b) c) (tb a c))], mW C (.inl (0, 1, .inl g) :: .inl (2, 9, .inr f) :: J), 0, 0) _
  refine m_icmp rfl ⟨by omega, by omega⟩ ⟨by omega, by omega⟩ (fun (zc5 : ¬ (difS n (tb (sumS n a b) c) (tb a c)) = (tb b c)) => ?_) (fun (zc5 : ¬ ¬ (difS n (tb (sumS n a b) c) (tb a c)) = (tb b c)) => ?_)
  · refine m_run 1 (ps' := (147, [some (.inr (.inl 13)), some (.inr (.inl 14)), some (.inl 3), some (.inl a), some (.inl b), some (.inl c)], [.inl 0], mW C (.inl (0, 1, .inl g) :: .inl (2, 9, .inr f) :: J), 0, 0)) rfl ?_
    have h7 := dif_iff (x := tb (sumS n a b) c) (y := tb a c) (z := tb b c) hn (by omega) (by omega) (by omega) (by omega) (by omega) (by omega)
    exact m_ret1 rfl (Or.inr ⟨rfl, Or.inl rfl⟩) rfl (m_Vb (b0 (Bool.eq_false_iff.mpr (fun h9 => absurd (h7.mpr (hs_3.mp h9)) (by assumption)))))
  · replace zc5 : (difS n (tb (sumS n a b) c) (tb a c)) = (tb b c) := Decidable.not_not.mp zc5
    refine m_run 2 (ps' := (147, [some (.inr (.inl 13)), some (.inr (.inl 14)), some (.inl 3), some (.inl a), some (.inl b), some (.inl c)], [.inl 1], mW C (.inl (0, 1, .inl g) :: .inl (2, 9, .inr f) :: J), 0, 0)) rfl ?_
    have h7 := dif_iff (x := tb (sumS n a b) c) (y := tb a c) (z := tb b c) hn (by omega) (by omega) (by omega) (by omega) (by omega) (by omega)
    exact m_ret1 rfl (Or.inr ⟨rfl, Or.inr rfl⟩) rfl (m_Vb (b1 (hs_3.mpr (h7.mp (by assumption)))))
set_option maxHeartbeats 4000000 in
set_option maxRecDepth 100000 in
theorem a_h4 {X : Nat × Nat × (Nat → Int32)} {C : CS} {g : Int → Int} {f : Nat → Int64} {J : mPW} {n : Int} {tb : Int → Int → Int} {a b c : Int} (hg : g 0 = n) (hL : repL n f tb) (ha : 0 ≤ a) (ha2 : a < n) (hb : 0 ≤ b) (hb2 : b < n) (hc : 0 ≤ c) (hc2 : c < n) : m_Run X 56 [.inr (.inl 13), .inr (.inl 14), .inl 4, .inl a, .inl b, .inl c] (mW C (.inl (0, 1, .inl g) :: .inl (2, 9, .inr f) :: J)) (m_V (bI (holdsS n tb 4 a b c)) (mW C (.inl (0, 1, .inl g) :: .inl (2, 9, .inr f) :: J))) := by
  have hn := hL.1
  have hl := okN_lo hn
  show m_Sem X 56 (0, [some (.inr (.inl 13)), some (.inr (.inl 14)), some (.inl 4), some (.inl a), some (.inl b), some (.inl c)], [], mW C (.inl (0, 1, .inl g) :: .inl (2, 9, .inr f) :: J), 0, 0) _
  refine m_run 1 (ps' := (1, [some (.inr (.inl 13)), some (.inr (.inl 14)), some (.inl 4), some (.inl a), some (.inl b), some (.inl c)], [.inl 4], mW C (.inl (0, 1, .inl g) :: .inl (2, 9, .inr f) :: J), 0, 0)) rfl ?_
  refine m_if rfl ⟨by omega, by omega⟩ (fun (zc1 : ¬ 4 = 0) => ?_) (fun (zc1 : ¬ ¬ 4 = 0) => absurd zc1 (not_not_intro (by omega)))
  refine m_run 2 (ps' := (28, [some (.inr (.inl 13)), some (.inr (.inl 14)), some (.inl 4), some (.inl a), some (.inl b), some (.inl c)], [.inl 1, .inl 4], mW C (.inl (0, 1, .inl g) :: .inl (2, 9, .inr f) :: J), 0, 0)) rfl ?_
  refine m_icmp rfl ⟨by omega, by omega⟩ ⟨by omega, by omega⟩ (fun (zc2 : ¬ 4 = 1) => ?_) (fun (zc2 : ¬ ¬ 4 = 1) => absurd zc2 (not_not_intro (by omega)))
  refine m_run 2 (ps' := (59, [some (.inr (.inl 13)), some (.inr (.inl 14)), some (.inl 4), some (.inl a), some (.inl b), some (.inl c)], [.inl 2, .inl 4], mW C (.inl (0, 1, .inl g) :: .inl (2, 9, .inr f) :: J), 0, 0)) rfl ?_
  refine m_icmp rfl ⟨by omega, by omega⟩ ⟨by omega, by omega⟩ (fun (zc3 : ¬ 4 = 2) => ?_) (fun (zc3 : ¬ ¬ 4 = 2) => absurd zc3 (not_not_intro (by omega)))
  refine m_run 2 (ps' := (104, [some (.inr (.inl 13)), some (.inr (.inl 14)), some (.inl 4), some (.inl a), some (.inl b), some (.inl c)], [.inl 3, .inl 4], mW C (.inl (0, 1, .inl g) :: .inl (2, 9, .inr f) :: J), 0, 0)) rfl ?_
  refine m_icmp rfl ⟨by omega, by omega⟩ ⟨by omega, by omega⟩ (fun (zc4 : ¬ 4 = 3) => ?_) (fun (zc4 : ¬ ¬ 4 = 3) => absurd zc4 (not_not_intro (by omega)))
  refine m_run 2 (ps' := (150, [some (.inr (.inl 13)), some (.inr (.inl 14)), some (.inl 4), some (.inl a), some (.inl b), some (.inl c)], [.inl 4, .inl 4], mW C (.inl (0, 1, .inl g) :: .inl (2, 9, .inr f) :: J), 0, 0)) rfl ?_
  refine m_icmp rfl ⟨by omega, by omega⟩ ⟨by omega, by omega⟩ (fun (zc5 : ¬ 4 = 4) => absurd zc5 (by omega)) (fun (zc5 : ¬ ¬ 4 = 4) => ?_)
  refine m_run 5 (ps' := (160, [some (.inr (.inl 13)), some (.inr (.inl 14)), some (.inl 4), some (.inl a), some (.inl b), some (.inl c)], [.inl c, .inl b, .inr (.inl 14), .inl a, .inr (.inl 14)], mW C (.inl (0, 1, .inl g) :: .inl (2, 9, .inr f) :: J), 0, 0)) rfl ?_
  refine m_callSF [.inr (.inl 14), .inl b, .inl c] [.inl a, .inr (.inl 14)] rfl rfl rfl (a_of (a := b) (b := c) hL (by omega) (by omega) (by omega) (by omega)) ?_
  have zt1 := (hL.2 b c (by omega) (by omega) (by omega) (by omega)).2
  show m_Sem X 56 (163, [some (.inr (.inl 13)), some (.inr (.inl 14)), some (.inl 4), some (.inl a), some (.inl b), some (.inl c)], [.inl (tb b c), .inl a, .inr (.inl 14)], mW C (.inl (0, 1, .inl g) :: .inl (2, 9, .inr f) :: J), 0, 0) _
  refine m_callSF [.inr (.inl 14), .inl a, .inl (tb b c)] [] rfl rfl rfl (a_of (a := a) (b := (tb b c)) hL (by omega) (by omega) (by omega) (by omega)) ?_
  have zt2 := (hL.2 a (tb b c) (by omega) (by omega) (by omega) (by omega)).2
  show m_Sem X 56 (166, [some (.inr (.inl 13)), some (.inr (.inl 14)), some (.inl 4), some (.inl a), some (.inl b), some (.inl c)], [.inl (tb a (tb b c))], mW C (.inl (0, 1, .inl g) :: .inl (2, 9, .inr f) :: J), 0, 0) _
  refine m_run 4 (ps' := (171, [some (.inr (.inl 13)), some (.inr (.inl 14)), some (.inl 4), some (.inl a), some (.inl b), some (.inl c)], [.inl b, .inl a, .inr (.inl 14), .inr (.inl 14), .inl (tb a (tb b c))], mW C (.inl (0, 1, .inl g) :: .inl (2, 9, .inr f) :: J), 0, 0)) rfl ?_
  refine m_callSF [.inr (.inl 14), .inl a, .inl b] [.inr (.inl 14), .inl (tb a (tb b c))] rfl rfl rfl (a_of (a := a) (b := b) hL (by omega) (by omega) (by omega) (by omega)) ?_
  have zt3 := (hL.2 a b (by omega) (by omega) (by omega) (by omega)).2
  show m_Sem X 56 (174, [some (.inr (.inl 13)), some (.inr (.inl 14)), some (.inl 4), some (.inl a), some (.inl b), some (.inl c)], [.inl (tb a b), .inr (.inl 14), .inl (tb a (tb b c))], mW C (.inl (0, 1, .inl g) :: .inl (2, 9, .inr f) :: J), 0, 0) _
  refine m_run 1 (ps' := (176, [some (.inr (.inl 13)), some (.inr (.inl 14)), some (.inl 4), some (.inl a), some (.inl b), some (.inl c)], [.inl c, .inl (tb a b), .inr (.inl 14), .inl (tb a (tb b c))], mW C (.inl (0, 1, .inl g) :: .inl (2, 9, .inr f) :: J), 0, 0)) rfl ?_
  refine m_callSF [.inr (.inl 14), .inl (tb a b), .inl c] [.inl (tb a (tb b c))] rfl rfl rfl (a_of (a := (tb a b)) (b := c) hL (by omega) (by omega) (by omega) (by omega)) ?_
  have zt4 := (hL.2 (tb a b) c (by omega) (by omega) (by omega) (by omega)).2
  show m_Sem X 56 (179, [some (.inr (.inl 13)), some (.inr (.inl 14)), some (.inl 4), some (.inl a), some (.inl b), some (.inl c)], [.inl (tb (tb a b) c), .inl (tb a (tb b c))], mW C (.inl (0, 1, .inl g) :: .inl (2, 9, .inr f) :: J), 0, 0) _
  refine m_icmp rfl ⟨by omega, by omega⟩ ⟨by omega, by omega⟩ (fun (zc6 : ¬ (tb a (tb b c)) = (tb (tb a b) c)) => ?_) (fun (zc6 : ¬ ¬ (tb a (tb b c)) = (tb (tb a b) c)) => ?_)
  · refine m_run 1 (ps' := (187, [some (.inr (.inl 13)), some (.inr (.inl 14)), some (.inl 4), some (.inl a), some (.inl b), some (.inl c)], [.inl 0], mW C (.inl (0, 1, .inl g) :: .inl (2, 9, .inr f) :: J), 0, 0)) rfl ?_
    exact m_ret1 rfl (Or.inr ⟨rfl, Or.inl rfl⟩) rfl (m_Vb (b0 (Bool.eq_false_iff.mpr (fun h9 => absurd (hs_4.mp h9).symm (by assumption)))))
  · replace zc6 : (tb a (tb b c)) = (tb (tb a b) c) := Decidable.not_not.mp zc6
    refine m_run 2 (ps' := (187, [some (.inr (.inl 13)), some (.inr (.inl 14)), some (.inl 4), some (.inl a), some (.inl b), some (.inl c)], [.inl 1], mW C (.inl (0, 1, .inl g) :: .inl (2, 9, .inr f) :: J), 0, 0)) rfl ?_
    exact m_ret1 rfl (Or.inr ⟨rfl, Or.inr rfl⟩) rfl (m_Vb (b1 (hs_4.mpr (Eq.symm (by assumption)))))
set_option maxHeartbeats 4000000 in
set_option maxRecDepth 100000 in
theorem a_h5 {X : Nat × Nat × (Nat → Int32)} {C : CS} {g : Int → Int} {f : Nat → Int64} {J : mPW} {n : Int} {tb : Int → Int → Int} {a b c : Int} (hg : g 0 = n) (hL : repL n f tb) (ha : 0 ≤ a) (ha2 : a < n) (hb : 0 ≤ b) (hb2 : b < n) (hc : 0 ≤ c) (hc2 : c < n) : m_Run X 56 [.inr (.inl 13), .inr (.inl 14), .inl 5, .inl a, .inl b, .inl c] (mW C (.inl (0, 1, .inl g) :: .inl (2, 9, .inr f) :: J)) (m_V (bI (holdsS n tb 5 a b c)) (mW C (.inl (0, 1, .inl g) :: .inl (2, 9, .inr f) :: J))) := by
  have hn := hL.1
  have hl := okN_lo hn
  show m_Sem X 56 (0, [some (.inr (.inl 13)), some (.inr (.inl 14)), some (.inl 5), some (.inl a), some (.inl b), some (.inl c)], [], mW C (.inl (0, 1, .inl g) :: .inl (2, 9, .inr f) :: J), 0, 0) _
  refine m_run 1 (ps' := (1, [some (.inr (.inl 13)), some (.inr (.inl 14)), some (.inl 5), some (.inl a), some (.inl b), some (.inl c)], [.inl 5], mW C (.inl (0, 1, .inl g) :: .inl (2, 9, .inr f) :: J), 0, 0)) rfl ?_
  refine m_if rfl ⟨by omega, by omega⟩ (fun (zc1 : ¬ 5 = 0) => ?_) (fun (zc1 : ¬ ¬ 5 = 0) => absurd zc1 (not_not_intro (by omega)))
  refine m_run 2 (ps' := (28, [some (.inr (.inl 13)), some (.inr (.inl 14)), some (.inl 5), some (.inl a), some (.inl b), some (.inl c)], [.inl 1, .inl 5], mW C (.inl (0, 1, .inl g) :: .inl (2, 9, .inr f) :: J), 0, 0)) rfl ?_
  refine m_icmp rfl ⟨by omega, by omega⟩ ⟨by omega, by omega⟩ (fun (zc2 : ¬ 5 = 1) => ?_) (fun (zc2 : ¬ ¬ 5 = 1) => absurd zc2 (not_not_intro (by omega)))
  refine m_run 2 (ps' := (59, [some (.inr (.inl 13)), some (.inr (.inl 14)), some (.inl 5), some (.inl a), some (.inl b), some (.inl c)], [.inl 2, .inl 5], mW C (.inl (0, 1, .inl g) :: .inl (2, 9, .inr f) :: J), 0, 0)) rfl ?_
  refine m_icmp rfl ⟨by omega, by omega⟩ ⟨by omega, by omega⟩ (fun (zc3 : ¬ 5 = 2) => ?_) (fun (zc3 : ¬ ¬ 5 = 2) => absurd zc3 (not_not_intro (by omega)))
  refine m_run 2 (ps' := (104, [some (.inr (.inl 13)), some (.inr (.inl 14)), some (.inl 5), some (.inl a), some (.inl b), some (.inl c)], [.inl 3, .inl 5], mW C (.inl (0, 1, .inl g) :: .inl (2, 9, .inr f) :: J), 0, 0)) rfl ?_
  refine m_icmp rfl ⟨by omega, by omega⟩ ⟨by omega, by omega⟩ (fun (zc4 : ¬ 5 = 3) => ?_) (fun (zc4 : ¬ ¬ 5 = 3) => absurd zc4 (not_not_intro (by omega)))
  refine m_run 2 (ps' := (150, [some (.inr (.inl 13)), some (.inr (.inl 14)), some (.inl 5), some (.inl a), some (.inl b), some (.inl c)], [.inl 4, .inl 5], mW C (.inl (0, 1, .inl g) :: .inl (2, 9, .inr f) :: J), 0, 0)) rfl ?_
  refine m_icmp rfl ⟨by omega, by omega⟩ ⟨by omega, by omega⟩ (fun (zc5 : ¬ 5 = 4) => ?_) (fun (zc5 : ¬ ¬ 5 = 4) => absurd zc5 (not_not_intro (by omega)))
  refine m_run 2 (ps' := (190, [some (.inr (.inl 13)), some (.inr (.inl 14)), some (.inl 5), some (.inl a), some (.inl b), some (.inl c)], [.inl 5, .inl 5], mW C (.inl (0, 1, .inl g) :: .inl (2, 9, .inr f) :: J), 0, 0)) rfl ?_
  refine m_icmp rfl ⟨by omega, by omega⟩ ⟨by omega, by omega⟩ (fun (zc6 : ¬ 5 = 5) => absurd zc6 (by omega)) (fun (zc6 : ¬ ¬ 5 = 5) => ?_)
  refine m_run 3 (ps' := (197, [some (.inr (.inl 13)), some (.inr (.inl 14)), some (.inl 5), some (.inl a), some (.inl b), some (.inl c)], [.inl b, .inl a, .inr (.inl 14)], mW C (.inl (0, 1, .inl g) :: .inl (2, 9, .inr f) :: J), 0, 0)) rfl ?_
  refine m_callSF [.inr (.inl 14), .inl a, .inl b] [] rfl rfl rfl (a_of (a := a) (b := b) hL (by omega) (by omega) (by omega) (by omega)) ?_
  have zt1 := (hL.2 a b (by omega) (by omega) (by omega) (by omega)).2
  show m_Sem X 56 (200, [some (.inr (.inl 13)), some (.inr (.inl 14)), some (.inl 5), some (.inl a), some (.inl b), some (.inl c)], [.inl (tb a b)], mW C (.inl (0, 1, .inl g) :: .inl (2, 9, .inr f) :: J), 0, 0) _
  refine m_run 3 (ps' := (204, [some (.inr (.inl 13)), some (.inr (.inl 14)), some (.inl 5), some (.inl a), some (.inl b), some (.inl c)], [.inl a, .inl b, .inr (.inl 14), .inl (tb a b)], mW C (.inl (0, 1, .inl g) :: .inl (2, 9, .inr f) :: J), 0, 0)) rfl ?_
  refine m_callSF [.inr (.inl 14), .inl b, .inl a] [.inl (tb a b)] rfl rfl rfl (a_of (a := b) (b := a) hL (by omega) (by omega) (by omega) (by omega)) ?_
  have zt2 := (hL.2 b a (by omega) (by omega) (by omega) (by omega)).2
  show m_Sem X 56 (207, [some (.inr (.inl 13)), some (.inr (.inl 14)), some (.inl 5), some (.inl a), some (.inl b), some (.inl c)], [.inl (tb b a), .inl (tb a b)], mW C (.inl (0, 1, .inl g) :: .inl (2, 9, .inr f) :: J), 0, 0) _
  refine m_icmp rfl ⟨by omega, by omega⟩ ⟨by omega, by omega⟩ (fun (zc7 : ¬ (tb a b) = (tb b a)) => ?_) (fun (zc7 : ¬ ¬ (tb a b) = (tb b a)) => ?_)
  · refine m_run 2 (ps' := (251, [some (.inr (.inl 13)), some (.inr (.inl 14)), some (.inl 5), some (.inl a), some (.inl b), some (.inl c)], [.inl 0], mW C (.inl (0, 1, .inl g) :: .inl (2, 9, .inr f) :: J), 0, 0)) rfl ?_
    exact m_ret1 rfl (Or.inr ⟨rfl, Or.inl rfl⟩) rfl (m_Vb (b0 (Bool.eq_false_iff.mpr (fun h9 => absurd (hs_5.mp h9) (by omega)))))
  · replace zc7 : (tb a b) = (tb b a) := Decidable.not_not.mp zc7
    refine m_run 2 (ps' := (251, [some (.inr (.inl 13)), some (.inr (.inl 14)), some (.inl 5), some (.inl a), some (.inl b), some (.inl c)], [.inl 1], mW C (.inl (0, 1, .inl g) :: .inl (2, 9, .inr f) :: J), 0, 0)) rfl ?_
    exact m_ret1 rfl (Or.inr ⟨rfl, Or.inr rfl⟩) rfl (m_Vb (b1 (hs_5.mpr (by omega))))
set_option maxHeartbeats 4000000 in
set_option maxRecDepth 100000 in
theorem a_h6 {X : Nat × Nat × (Nat → Int32)} {C : CS} {g : Int → Int} {f : Nat → Int64} {J : mPW} {n : Int} {tb : Int → Int → Int} {a b c : Int} (hg : g 0 = n) (hL : repL n f tb) (ha : 0 ≤ a) (ha2 : a < n) (hb : 0 ≤ b) (hb2 : b < n) (hc : 0 ≤ c) (hc2 : c < n) : m_Run X 56 [.inr (.inl 13), .inr (.inl 14), .inl 6, .inl a, .inl b, .inl c] (mW C (.inl (0, 1, .inl g) :: .inl (2, 9, .inr f) :: J)) (m_V (bI (holdsS n tb 6 a b c)) (mW C (.inl (0, 1, .inl g) :: .inl (2, 9, .inr f) :: J))) := by
  have hn := hL.1
  have hl := okN_lo hn
  show m_Sem X 56 (0, [some (.inr (.inl 13)), some (.inr (.inl 14)), some (.inl 6), some (.inl a), some (.inl b), some (.inl c)], [], mW C (.inl (0, 1, .inl g) :: .inl (2, 9, .inr f) :: J), 0, 0) _
  refine m_run 1 (ps' := (1, [some (.inr (.inl 13)), some (.inr (.inl 14)), some (.inl 6), some (.inl a), some (.inl b), some (.inl c)], [.inl 6], mW C (.inl (0, 1, .inl g) :: .inl (2, 9, .inr f) :: J), 0, 0)) rfl ?_
  refine m_if rfl ⟨by omega, by omega⟩ (fun (zc1 : ¬ 6 = 0) => ?_) (fun (zc1 : ¬ ¬ 6 = 0) => absurd zc1 (not_not_intro (by omega)))
  refine m_run 2 (ps' := (28, [some (.inr (.inl 13)), some (.inr (.inl 14)), some (.inl 6), some (.inl a), some (.inl b), some (.inl c)], [.inl 1, .inl 6], mW C (.inl (0, 1, .inl g) :: .inl (2, 9, .inr f) :: J), 0, 0)) rfl ?_
  refine m_icmp rfl ⟨by omega, by omega⟩ ⟨by omega, by omega⟩ (fun (zc2 : ¬ 6 = 1) => ?_) (fun (zc2 : ¬ ¬ 6 = 1) => absurd zc2 (not_not_intro (by omega)))
  refine m_run 2 (ps' := (59, [some (.inr (.inl 13)), some (.inr (.inl 14)), some (.inl 6), some (.inl a), some (.inl b), some (.inl c)], [.inl 2, .inl 6], mW C (.inl (0, 1, .inl g) :: .inl (2, 9, .inr f) :: J), 0, 0)) rfl ?_
  refine m_icmp rfl ⟨by omega, by omega⟩ ⟨by omega, by omega⟩ (fun (zc3 : ¬ 6 = 2) => ?_) (fun (zc3 : ¬ ¬ 6 = 2) => absurd zc3 (not_not_intro (by omega)))
  refine m_run 2 (ps' := (104, [some (.inr (.inl 13)), some (.inr (.inl 14)), some (.inl 6), some (.inl a), some (.inl b), some (.inl c)], [.inl 3, .inl 6], mW C (.inl (0, 1, .inl g) :: .inl (2, 9, .inr f) :: J), 0, 0)) rfl ?_
  refine m_icmp rfl ⟨by omega, by omega⟩ ⟨by omega, by omega⟩ (fun (zc4 : ¬ 6 = 3) => ?_) (fun (zc4 : ¬ ¬ 6 = 3) => absurd zc4 (not_not_intro (by omega)))
  refine m_run 2 (ps' := (150, [some (.inr (.inl 13)), some (.inr (.inl 14)), some (.inl 6), some (.inl a), some (.inl b), some (.inl c)], [.inl 4, .inl 6], mW C (.inl (0, 1, .inl g) :: .inl (2, 9, .inr f) :: J), 0, 0)) rfl ?_
  refine m_icmp rfl ⟨by omega, by omega⟩ ⟨by omega, by omega⟩ (fun (zc5 : ¬ 6 = 4) => ?_) (fun (zc5 : ¬ ¬ 6 = 4) => absurd zc5 (not_not_intro (by omega)))
  refine m_run 2 (ps' := (190, [some (.inr (.inl 13)), some (.inr (.inl 14)), some (.inl 6), some (.inl a), some (.inl b), some (.inl c)], [.inl 5, .inl 6], mW C (.inl (0, 1, .inl g) :: .inl (2, 9, .inr f) :: J), 0, 0)) rfl ?_
  refine m_icmp rfl ⟨by omega, by omega⟩ ⟨by omega, by omega⟩ (fun (zc6 : ¬ 6 = 5) => ?_) (fun (zc6 : ¬ ¬ 6 = 5) => absurd zc6 (not_not_intro (by omega)))
  refine m_run 2 (ps' := (221, [some (.inr (.inl 13)), some (.inr (.inl 14)), some (.inl 6), some (.inl a), some (.inl b), some (.inl c)], [.inl b, .inl a], mW C (.inl (0, 1, .inl g) :: .inl (2, 9, .inr f) :: J), 0, 0)) rfl ?_
  refine m_icmp rfl ⟨by omega, by omega⟩ ⟨by omega, by omega⟩ (fun (zc7 : a = b) => ?_) (fun (zc7 : ¬ a = b) => ?_)
  · refine m_run 2 (ps' := (251, [some (.inr (.inl 13)), some (.inr (.inl 14)), some (.inl 6), some (.inl a), some (.inl b), some (.inl c)], [.inl 1], mW C (.inl (0, 1, .inl g) :: .inl (2, 9, .inr f) :: J), 0, 0)) rfl ?_
    exact m_ret1 rfl (Or.inr ⟨rfl, Or.inr rfl⟩) rfl (m_Vb (b1 (hs_6.mpr (by first | exact Or.inl (by assumption) | exact Or.inr (by assumption)))))
  · refine m_run 6 (ps' := (232, [some (.inr (.inl 13)), some (.inr (.inl 14)), some (.inl 6), some (.inl a), some (.inl b), some (.inl c)], [.inl 6, .inl 6, .inl b, .inl a, .inr (.inl 14), .inr (.inl 13)], mW C (.inl (0, 1, .inl g) :: .inl (2, 9, .inr f) :: J), 0, 0)) rfl ?_
    refine m_icmp rfl ⟨by omega, by omega⟩ ⟨by omega, by omega⟩ (fun (zc8 : ¬ 6 = 6) => absurd zc8 (by omega)) (fun (zc8 : ¬ ¬ 6 = 6) => ?_)
    refine m_run 2 (ps' := (240, [some (.inr (.inl 13)), some (.inr (.inl 14)), some (.inl 6), some (.inl a), some (.inl b), some (.inl c)], [.inl 1, .inl b, .inl a, .inr (.inl 14), .inr (.inl 13)], mW C (.inl (0, 1, .inl g) :: .inl (2, 9, .inr f) :: J), 0, 0)) rfl ?_
    refine m_callSF [.inr (.inl 13), .inr (.inl 14), .inl a, .inl b, .inl 1] [] rfl rfl rfl (a_unl (a := a) (b := b) (r := true) hg hL (by omega) (by omega) (by omega) (by omega)) ?_
    show m_Sem X 56 (243, [some (.inr (.inl 13)), some (.inr (.inl 14)), some (.inl 6), some (.inl a), some (.inl b), some (.inl c)], [.inl (bI (decide (onceS n tb true a b = n)))], mW C (.inl (0, 1, .inl g) :: .inl (2, 9, .inr f) :: J), 0, 0) _
    refine m_if rfl (bI_R _) (fun (zc9 : (bI (decide (onceS n tb true a b = n))) = 0) => ?_) (fun (zc9 : ¬ (bI (decide (onceS n tb true a b = n))) = 0) => ?_)
    · replace zc9 : (decide (onceS n tb true a b = n)) = false := bI_e0.mp zc9
      refine m_run 1 (ps' := (251, [some (.inr (.inl 13)), some (.inr (.inl 14)), some (.inl 6), some (.inl a), some (.inl b), some (.inl c)], [.inl 0], mW C (.inl (0, 1, .inl g) :: .inl (2, 9, .inr f) :: J), 0, 0)) rfl ?_
      exact m_ret1 rfl (Or.inr ⟨rfl, Or.inl rfl⟩) rfl (m_Vb (b0 (Bool.eq_false_iff.mpr (fun h9 => by rcases hs_6.mp h9 with h8 | h8 <;> simp_all))))
    · replace zc9 : (decide (onceS n tb true a b = n)) = true := bI_n0.mp zc9
      refine m_run 2 (ps' := (251, [some (.inr (.inl 13)), some (.inr (.inl 14)), some (.inl 6), some (.inl a), some (.inl b), some (.inl c)], [.inl 1], mW C (.inl (0, 1, .inl g) :: .inl (2, 9, .inr f) :: J), 0, 0)) rfl ?_
      exact m_ret1 rfl (Or.inr ⟨rfl, Or.inr rfl⟩) rfl (m_Vb (b1 (hs_6.mpr (by first | exact Or.inl (by assumption) | exact Or.inr (by assumption)))))
set_option maxHeartbeats 4000000 in
set_option maxRecDepth 100000 in
theorem a_h7 {X : Nat × Nat × (Nat → Int32)} {C : CS} {g : Int → Int} {f : Nat → Int64} {J : mPW} {n : Int} {tb : Int → Int → Int} {a b c : Int} (hg : g 0 = n) (hL : repL n f tb) (ha : 0 ≤ a) (ha2 : a < n) (hb : 0 ≤ b) (hb2 : b < n) (hc : 0 ≤ c) (hc2 : c < n) : m_Run X 56 [.inr (.inl 13), .inr (.inl 14), .inl 7, .inl a, .inl b, .inl c] (mW C (.inl (0, 1, .inl g) :: .inl (2, 9, .inr f) :: J)) (m_V (bI (holdsS n tb 7 a b c)) (mW C (.inl (0, 1, .inl g) :: .inl (2, 9, .inr f) :: J))) := by
  have hn := hL.1
  have hl := okN_lo hn
  show m_Sem X 56 (0, [some (.inr (.inl 13)), some (.inr (.inl 14)), some (.inl 7), some (.inl a), some (.inl b), some (.inl c)], [], mW C (.inl (0, 1, .inl g) :: .inl (2, 9, .inr f) :: J), 0, 0) _
  refine m_run 1 (ps' := (1, [some (.inr (.inl 13)), some (.inr (.inl 14)), some (.inl 7), some (.inl a), some (.inl b), some (.inl c)], [.inl 7], mW C (.inl (0, 1, .inl g) :: .inl (2, 9, .inr f) :: J), 0, 0)) rfl ?_
  refine m_if rfl ⟨by omega, by omega⟩ (fun (zc1 : ¬ 7 = 0) => ?_) (fun (zc1 : ¬ ¬ 7 = 0) => absurd zc1 (not_not_intro (by omega)))
  refine m_run 2 (ps' := (28, [some (.inr (.inl 13)), some (.inr (.inl 14)), some (.inl 7), some (.inl a), some (.inl b), some (.inl c)], [.inl 1, .inl 7], mW C (.inl (0, 1, .inl g) :: .inl (2, 9, .inr f) :: J), 0, 0)) rfl ?_
  refine m_icmp rfl ⟨by omega, by omega⟩ ⟨by omega, by omega⟩ (fun (zc2 : ¬ 7 = 1) => ?_) (fun (zc2 : ¬ ¬ 7 = 1) => absurd zc2 (not_not_intro (by omega)))
  refine m_run 2 (ps' := (59, [some (.inr (.inl 13)), some (.inr (.inl 14)), some (.inl 7), some (.inl a), some (.inl b), some (.inl c)], [.inl 2, .inl 7], mW C (.inl (0, 1, .inl g) :: .inl (2, 9, .inr f) :: J), 0, 0)) rfl ?_
  refine m_icmp rfl ⟨by omega, by omega⟩ ⟨by omega, by omega⟩ (fun (zc3 : ¬ 7 = 2) => ?_) (fun (zc3 : ¬ ¬ 7 = 2) => absurd zc3 (not_not_intro (by omega)))
  refine m_run 2 (ps' := (104, [some (.inr (.inl 13)), some (.inr (.inl 14)), some (.inl 7), some (.inl a), some (.inl b), some (.inl c)], [.inl 3, .inl 7], mW C (.inl (0, 1, .inl g) :: .inl (2, 9, .inr f) :: J), 0, 0)) rfl ?_
  refine m_icmp rfl ⟨by omega, by omega⟩ ⟨by omega, by omega⟩ (fun (zc4 : ¬ 7 = 3) => ?_) (fun (zc4 : ¬ ¬ 7 = 3) => absurd zc4 (not_not_intro (by omega)))
  refine m_run 2 (ps' := (150, [some (.inr (.inl 13)), some (.inr (.inl 14)), some (.inl 7), some (.inl a), some (.inl b), some (.inl c)], [.inl 4, .inl 7], mW C (.inl (0, 1, .inl g) :: .inl (2, 9, .inr f) :: J), 0, 0)) rfl ?_
  refine m_icmp rfl ⟨by omega, by omega⟩ ⟨by omega, by omega⟩ (fun (zc5 : ¬ 7 = 4) => ?_) (fun (zc5 : ¬ ¬ 7 = 4) => absurd zc5 (not_not_intro (by omega)))
  refine m_run 2 (ps' := (190, [some (.inr (.inl 13)), some (.inr (.inl 14)), some (.inl 7), some (.inl a), some (.inl b), some (.inl c)], [.inl 5, .inl 7], mW C (.inl (0, 1, .inl g) :: .inl (2, 9, .inr f) :: J), 0, 0)) rfl ?_
  refine m_icmp rfl ⟨by omega, by omega⟩ ⟨by omega, by omega⟩ (fun (zc6 : ¬ 7 = 5) => ?_) (fun (zc6 : ¬ ¬ 7 = 5) => absurd zc6 (not_not_intro (by omega)))
  refine m_run 2 (ps' := (221, [some (.inr (.inl 13)), some (.inr (.inl 14)), some (.inl 7), some (.inl a), some (.inl b), some (.inl c)], [.inl b, .inl a], mW C (.inl (0, 1, .inl g) :: .inl (2, 9, .inr f) :: J), 0, 0)) rfl ?_
  refine m_icmp rfl ⟨by omega, by omega⟩ ⟨by omega, by omega⟩ (fun (zc7 : a = b) => ?_) (fun (zc7 : ¬ a = b) => ?_)
  · refine m_run 2 (ps' := (251, [some (.inr (.inl 13)), some (.inr (.inl 14)), some (.inl 7), some (.inl a), some (.inl b), some (.inl c)], [.inl 1], mW C (.inl (0, 1, .inl g) :: .inl (2, 9, .inr f) :: J), 0, 0)) rfl ?_
    exact m_ret1 rfl (Or.inr ⟨rfl, Or.inr rfl⟩) rfl (m_Vb (b1 (hs_7.mpr (by first | exact Or.inl (by assumption) | exact Or.inr (by assumption)))))
  · refine m_run 6 (ps' := (232, [some (.inr (.inl 13)), some (.inr (.inl 14)), some (.inl 7), some (.inl a), some (.inl b), some (.inl c)], [.inl 6, .inl 7, .inl b, .inl a, .inr (.inl 14), .inr (.inl 13)], mW C (.inl (0, 1, .inl g) :: .inl (2, 9, .inr f) :: J), 0, 0)) rfl ?_
    refine m_icmp rfl ⟨by omega, by omega⟩ ⟨by omega, by omega⟩ (fun (zc8 : ¬ 7 = 6) => ?_) (fun (zc8 : ¬ ¬ 7 = 6) => absurd zc8 (not_not_intro (by omega)))
    refine m_run 1 (ps' := (240, [some (.inr (.inl 13)), some (.inr (.inl 14)), some (.inl 7), some (.inl a), some (.inl b), some (.inl c)], [.inl 0, .inl b, .inl a, .inr (.inl 14), .inr (.inl 13)], mW C (.inl (0, 1, .inl g) :: .inl (2, 9, .inr f) :: J), 0, 0)) rfl ?_
    refine m_callSF [.inr (.inl 13), .inr (.inl 14), .inl a, .inl b, .inl 0] [] rfl rfl rfl (a_unl (a := a) (b := b) (r := false) hg hL (by omega) (by omega) (by omega) (by omega)) ?_
    show m_Sem X 56 (243, [some (.inr (.inl 13)), some (.inr (.inl 14)), some (.inl 7), some (.inl a), some (.inl b), some (.inl c)], [.inl (bI (decide (onceS n tb false a b = n)))], mW C (.inl (0, 1, .inl g) :: .inl (2, 9, .inr f) :: J), 0, 0) _
    refine m_if rfl (bI_R _) (fun (zc9 : (bI (decide (onceS n tb false a b = n))) = 0) => ?_) (fun (zc9 : ¬ (bI (decide (onceS n tb false a b = n))) = 0) => ?_)
    · replace zc9 : (decide (onceS n tb false a b = n)) = false := bI_e0.mp zc9
      refine m_run 1 (ps' := (251, [some (.inr (.inl 13)), some (.inr (.inl 14)), some (.inl 7), some (.inl a), some (.inl b), some (.inl c)], [.inl 0], mW C (.inl (0, 1, .inl g) :: .inl (2, 9, .inr f) :: J), 0, 0)) rfl ?_
      exact m_ret1 rfl (Or.inr ⟨rfl, Or.inl rfl⟩) rfl (m_Vb (b0 (Bool.eq_false_iff.mpr (fun h9 => by rcases hs_7.mp h9 with h8 | h8 <;> simp_all))))
    · replace zc9 : (decide (onceS n tb false a b = n)) = true := bI_n0.mp zc9
      refine m_run 2 (ps' := (251, [some (.inr (.inl 13)), some (.inr (.inl 14)), some (.inl 7), some (.inl a), some (.inl b), some (.inl c)], [.inl 1], mW C (.inl (0, 1, .inl g) :: .inl (2, 9, .inr f) :: J), 0, 0)) rfl ?_
      exact m_ret1 rfl (Or.inr ⟨rfl, Or.inr rfl⟩) rfl (m_Vb (b1 (hs_7.mpr (by first | exact Or.inl (by assumption) | exact Or.inr (by assumption)))))
theorem a_hold {X : Nat × Nat × (Nat → Int32)} {C : CS} {g : Int → Int} {f : Nat → Int64} {J : mPW} {n : Int} {tb : Int → Int → Int} {law : Int} {a b c : Int} (hg : g 0 = n) (hL : repL n f tb) (ha : 0 ≤ a) (ha2 : a < n) (hb : 0 ≤ b) (hb2 : b < n) (hc : 0 ≤ c) (hc2 : c < n) (h1 : 0 ≤ law) (h2 : law < 8) : m_Run X 56 [.inr (.inl 13), .inr (.inl 14), .inl law, .inl a, .inl b, .inl c] (mW C (.inl (0, 1, .inl g) :: .inl (2, 9, .inr f) :: J)) (m_V (bI (holdsS n tb law a b c)) (mW C (.inl (0, 1, .inl g) :: .inl (2, 9, .inr f) :: J))) := by
  rcases (show law = 0 ∨ law = 1 ∨ law = 2 ∨ law = 3 ∨ law = 4 ∨ law = 5 ∨ law = 6 ∨ law = 7 by omega) with rfl | rfl | rfl | rfl | rfl | rfl | rfl | rfl
  · exact a_h0 hg hL ha ha2 hb hb2 hc hc2
  · exact a_h1 hg hL ha ha2 hb hb2 hc hc2
  · exact a_h2 hg hL ha ha2 hb hb2 hc hc2
  · exact a_h3 hg hL ha ha2 hb hb2 hc hc2
  · exact a_h4 hg hL ha ha2 hb hb2 hc hc2
  · exact a_h5 hg hL ha ha2 hb hb2 hc hc2
  · exact a_h6 hg hL ha ha2 hb hb2 hc hc2
  · exact a_h7 hg hL ha ha2 hb hb2 hc hc2
theorem told_p {law b c : Int} : toldL law b c = true ↔ (1 < law ∨ b = 0) ∧ ((1 < law ∧ law < 5) ∨ c = 0) := by
  unfold toldL
  simp
theorem cub_b {n : Int} (hn : okN n) : 8 ≤ n * n * n ∧ n * n * n ≤ 729 := by
  unfold okN at hn
  rcases hn with rfl | rfl | rfl | rfl | rfl | rfl <;> decide
theorem dig1 {n k : Int} (hn : okN n) (h1 : 0 ≤ k) (h2 : k < 1000) : 0 ≤ k / n ∧ k / n < 1000 := by
  unfold okN at hn
  rcases hn with rfl | rfl | rfl | rfl | rfl | rfl <;> omega
set_option maxHeartbeats 4000000 in
set_option maxRecDepth 100000 in
theorem a_witL {X : Nat × Nat × (Nat → Int32)} {C : CS} {g : Int → Int} {f : Nat → Int64} {J : mPW} {n : Int} {tb : Int → Int → Int} {law : Int} (hg : g 0 = n) (hL : repL n f tb) (hw : 0 ≤ law) (hw2 : law < 8) : ∀ kv : Int, 0 ≤ kv → kv ≤ (n * n * n) → ∀ (hp : ∀ k2, 0 ≤ k2 → k2 < kv → passL n tb law k2), m_Sem X 57 (7, [some (.inr (.inl 13)), some (.inr (.inl 14)), some (.inl law), some (.inl n), some (.inl kv), none, none, none, none], [], mW C (.inl (0, 1, .inl g) :: .inl (2, 9, .inr f) :: J), 0, 0) (m_V (wcdL (witS n tb law)) (mW C (.inl (0, 1, .inl g) :: .inl (2, 9, .inr f) :: J))) := by
  have hn := hL.1
  have hl := okN_lo hn
  have hq := sq_b hn
  have hq3 := cub_b hn
  refine m_down 0 (n * n * n) ?_ ?_
  · intro hp
    show m_Sem X 57 (7, [some (.inr (.inl 13)), some (.inr (.inl 14)), some (.inl law), some (.inl n), some (.inl (n * n * n)), none, none, none, none], [], mW C (.inl (0, 1, .inl g) :: .inl (2, 9, .inr f) :: J), 0, 0) _
    refine m_run 6 (ps' := (14, [some (.inr (.inl 13)), some (.inr (.inl 14)), some (.inl law), some (.inl n), some (.inl (n * n * n)), none, none, none, none], [.inl ((n * n) * n), .inl (n * n * n)], mW C (.inl (0, 1, .inl g) :: .inl (2, 9, .inr f) :: J), 0, 0)) rfl ?_
    refine m_icmp rfl ⟨by omega, by omega⟩ ⟨by omega, by omega⟩ (fun (zc1 : ((n * n) * n) ≤ (n * n * n)) => ?_) (fun (zc1 : ¬ ((n * n) * n) ≤ (n * n * n)) => absurd zc1 (not_not_intro (by omega)))
    refine m_run 1 (ps' := (113, [some (.inr (.inl 13)), some (.inr (.inl 14)), some (.inl law), some (.inl n), some (.inl (n * n * n)), none, none, none, none], [.inl (-1)], mW C (.inl (0, 1, .inl g) :: .inl (2, 9, .inr f) :: J), 0, 0)) rfl ?_
    exact m_ret1 rfl (Or.inl rfl) rfl (m_Vi (by rw [scan_none hn hp]; rfl))
  · intro kv hi1 hi2 ih hp
    obtain ⟨⟨d1, d2⟩, ⟨d3, d4⟩, d5, d6⟩ := dig3 hn hi1 hi2
    have d7 := dig1 hn hi1 (by omega)
    refine m_run 6 (ps' := (14, [some (.inr (.inl 13)), some (.inr (.inl 14)), some (.inl law), some (.inl n), some (.inl kv), none, none, none, none], [.inl ((n * n) * n), .inl kv], mW C (.inl (0, 1, .inl g) :: .inl (2, 9, .inr f) :: J), 0, 0)) rfl ?_
    refine m_icmp rfl ⟨by omega, by omega⟩ ⟨by omega, by omega⟩ (fun (zc1 : ((n * n) * n) ≤ kv) => absurd zc1 (by omega)) (fun (zc1 : ¬ ((n * n) * n) ≤ kv) => ?_)
    refine m_run 2 (ps' := (20, [some (.inr (.inl 13)), some (.inr (.inl 14)), some (.inl law), some (.inl n), some (.inl kv), none, none, none, none], [.inl n, .inl kv], mW C (.inl (0, 1, .inl g) :: .inl (2, 9, .inr f) :: J), 0, 0)) rfl ?_
    refine m_div rfl (by omega) (by omega) (by omega) (by omega) ?_
    refine m_run 1 (ps' := (22, [some (.inr (.inl 13)), some (.inr (.inl 14)), some (.inl law), some (.inl n), some (.inl kv), none, none, none, none], [.inl n, .inl (kv / n)], mW C (.inl (0, 1, .inl g) :: .inl (2, 9, .inr f) :: J), 0, 0)) rfl ?_
    refine m_div rfl (by omega) (by omega) (by omega) (by omega) ?_
    refine m_run 3 (ps' := (28, [some (.inr (.inl 13)), some (.inr (.inl 14)), some (.inl law), some (.inl n), some (.inl kv), some (.inl ((kv / n) / n)), none, none, none], [.inl n, .inl kv], mW C (.inl (0, 1, .inl g) :: .inl (2, 9, .inr f) :: J), 0, 0)) rfl ?_
    refine m_div rfl (by omega) (by omega) (by omega) (by omega) ?_
    refine m_run 1 (ps' := (30, [some (.inr (.inl 13)), some (.inr (.inl 14)), some (.inl law), some (.inl n), some (.inl kv), some (.inl ((kv / n) / n)), none, none, none], [.inl n, .inl (kv / n)], mW C (.inl (0, 1, .inl g) :: .inl (2, 9, .inr f) :: J), 0, 0)) rfl ?_
    refine m_rem rfl (by omega) (by omega) (by omega) (by omega) ?_
    refine m_run 3 (ps' := (36, [some (.inr (.inl 13)), some (.inr (.inl 14)), some (.inl law), some (.inl n), some (.inl kv), some (.inl ((kv / n) / n)), some (.inl ((kv / n) % n)), none, none], [.inl n, .inl kv], mW C (.inl (0, 1, .inl g) :: .inl (2, 9, .inr f) :: J), 0, 0)) rfl ?_
    refine m_rem rfl (by omega) (by omega) (by omega) (by omega) ?_
    refine m_run 3 (ps' := (41, [some (.inr (.inl 13)), some (.inr (.inl 14)), some (.inl law), some (.inl n), some (.inl kv), some (.inl ((kv / n) / n)), some (.inl ((kv / n) % n)), some (.inl (kv % n)), none], [.inl 1, .inl law], mW C (.inl (0, 1, .inl g) :: .inl (2, 9, .inr f) :: J), 0, 0)) rfl ?_
    refine m_icmp rfl ⟨by omega, by omega⟩ ⟨by omega, by omega⟩ (fun (zc2 : 1 < law) => ?_) (fun (zc2 : ¬ 1 < law) => ?_)
    · refine m_run 2 (ps' := (51, [some (.inr (.inl 13)), some (.inr (.inl 14)), some (.inl law), some (.inl n), some (.inl kv), some (.inl ((kv / n) / n)), some (.inl ((kv / n) % n)), some (.inl (kv % n)), none], [.inl 1, .inl law], mW C (.inl (0, 1, .inl g) :: .inl (2, 9, .inr f) :: J), 0, 0)) rfl ?_
      refine m_icmp rfl ⟨by omega, by omega⟩ ⟨by omega, by omega⟩ (fun (zc3 : law ≤ 1) => ?_) (fun (zc3 : ¬ law ≤ 1) => ?_)
      · refine m_run 1 (ps' := (61, [some (.inr (.inl 13)), some (.inr (.inl 14)), some (.inl law), some (.inl n), some (.inl kv), some (.inl ((kv / n) / n)), some (.inl ((kv / n) % n)), some (.inl (kv % n)), none], [.inl (kv % n)], mW C (.inl (0, 1, .inl g) :: .inl (2, 9, .inr f) :: J), 0, 0)) rfl ?_
        refine m_if rfl ⟨by omega, by omega⟩ (fun (zc4 : ¬ (kv % n) = 0) => ?_) (fun (zc4 : ¬ ¬ (kv % n) = 0) => ?_)
        · refine m_run 3 (ps' := (73, [some (.inr (.inl 13)), some (.inr (.inl 14)), some (.inl law), some (.inl n), some (.inl kv), some (.inl ((kv / n) / n)), some (.inl ((kv / n) % n)), some (.inl (kv % n)), some (.inl 0)], [.inl 0], mW C (.inl (0, 1, .inl g) :: .inl (2, 9, .inr f) :: J), 0, 0)) rfl ?_
          refine m_if rfl ⟨by omega, by omega⟩ (fun (zc5 : 0 = 0) => ?_) (fun (zc5 : ¬ 0 = 0) => absurd zc5 (not_not_intro (by omega)))
          refine m_run 2 (ps' := (7, [some (.inr (.inl 13)), some (.inr (.inl 14)), some (.inl law), some (.inl n), some (.inl (kv + 1)), some (.inl ((kv / n) / n)), some (.inl ((kv / n) % n)), some (.inl (kv % n)), some (.inl 0)], [], mW C (.inl (0, 1, .inl g) :: .inl (2, 9, .inr f) :: J), 0, 0)) rfl ?_
          refine m_weak [some (.inr (.inl 13)), some (.inr (.inl 14)), some (.inl law), some (.inl n), some (.inl (kv + 1)), none, none, none, none] ⟨rfl, ⟨rfl, ⟨rfl, ⟨rfl, ⟨rfl, trivial⟩⟩⟩⟩⟩ ?_
          refine ih (fun k2 g1 g2 => ?_)
          by_cases he : k2 = kv
          · subst he
            intro h9
            first
            | assumption
            | exact absurd (told_p.mp h9) (by omega)
          · exact hp k2 g1 (by omega)
        · replace zc4 : (kv % n) = 0 := Decidable.not_not.mp zc4
          refine m_run 4 (ps' := (73, [some (.inr (.inl 13)), some (.inr (.inl 14)), some (.inl law), some (.inl n), some (.inl kv), some (.inl ((kv / n) / n)), some (.inl ((kv / n) % n)), some (.inl (kv % n)), some (.inl 1)], [.inl 1], mW C (.inl (0, 1, .inl g) :: .inl (2, 9, .inr f) :: J), 0, 0)) rfl ?_
          refine m_if rfl ⟨by omega, by omega⟩ (fun (zc5 : 1 = 0) => absurd zc5 (by omega)) (fun (zc5 : ¬ 1 = 0) => ?_)
          refine m_run 6 (ps' := (85, [some (.inr (.inl 13)), some (.inr (.inl 14)), some (.inl law), some (.inl n), some (.inl kv), some (.inl ((kv / n) / n)), some (.inl ((kv / n) % n)), some (.inl (kv % n)), some (.inl 1)], [.inl (kv % n), .inl ((kv / n) % n), .inl ((kv / n) / n), .inl law, .inr (.inl 14), .inr (.inl 13)], mW C (.inl (0, 1, .inl g) :: .inl (2, 9, .inr f) :: J), 0, 0)) rfl ?_
          refine m_callSF [.inr (.inl 13), .inr (.inl 14), .inl law, .inl ((kv / n) / n), .inl ((kv / n) % n), .inl (kv % n)] [] rfl rfl rfl (a_hold (law := law) (a := ((kv / n) / n)) (b := ((kv / n) % n)) (c := (kv % n)) hg hL (by omega) (by omega) (by omega) (by omega) (by omega) (by omega) (by omega) (by omega)) ?_
          show m_Sem X 57 (88, [some (.inr (.inl 13)), some (.inr (.inl 14)), some (.inl law), some (.inl n), some (.inl kv), some (.inl ((kv / n) / n)), some (.inl ((kv / n) % n)), some (.inl (kv % n)), some (.inl 1)], [.inl (bI (holdsS n tb law ((kv / n) / n) ((kv / n) % n) (kv % n)))], mW C (.inl (0, 1, .inl g) :: .inl (2, 9, .inr f) :: J), 0, 0) _
          refine m_if rfl (bI_R _) (fun (zc6 : ¬ (bI (holdsS n tb law ((kv / n) / n) ((kv / n) % n) (kv % n))) = 0) => ?_) (fun (zc6 : ¬ ¬ (bI (holdsS n tb law ((kv / n) / n) ((kv / n) % n) (kv % n))) = 0) => ?_)
          · replace zc6 : (holdsS n tb law ((kv / n) / n) ((kv / n) % n) (kv % n)) = true := bI_n0.mp zc6
            refine m_run 2 (ps' := (7, [some (.inr (.inl 13)), some (.inr (.inl 14)), some (.inl law), some (.inl n), some (.inl (kv + 1)), some (.inl ((kv / n) / n)), some (.inl ((kv / n) % n)), some (.inl (kv % n)), some (.inl 1)], [], mW C (.inl (0, 1, .inl g) :: .inl (2, 9, .inr f) :: J), 0, 0)) rfl ?_
            refine m_weak [some (.inr (.inl 13)), some (.inr (.inl 14)), some (.inl law), some (.inl n), some (.inl (kv + 1)), none, none, none, none] ⟨rfl, ⟨rfl, ⟨rfl, ⟨rfl, ⟨rfl, trivial⟩⟩⟩⟩⟩ ?_
            refine ih (fun k2 g1 g2 => ?_)
            by_cases he : k2 = kv
            · subst he
              intro h9
              first
              | assumption
              | exact absurd (told_p.mp h9) (by omega)
            · exact hp k2 g1 (by omega)
          · replace zc6 : (holdsS n tb law ((kv / n) / n) ((kv / n) % n) (kv % n)) = false := bI_e0.mp (Decidable.not_not.mp zc6)
            refine m_run 9 (ps' := (105, [some (.inr (.inl 13)), some (.inr (.inl 14)), some (.inl law), some (.inl n), some (.inl kv), some (.inl ((kv / n) / n)), some (.inl ((kv / n) % n)), some (.inl (kv % n)), some (.inl 1)], [.inl (((100 * ((kv / n) / n)) + (10 * ((kv / n) % n))) + (kv % n))], mW C (.inl (0, 1, .inl g) :: .inl (2, 9, .inr f) :: J), 0, 0)) rfl ?_
            exact m_ret1 rfl (Or.inl rfl) rfl (m_Vi (by rw [scan_some hn hi1 hi2 (told_p.mpr (by omega)) (by assumption) hp]; rfl))
      · refine m_run 2 (ps' := (56, [some (.inr (.inl 13)), some (.inr (.inl 14)), some (.inl law), some (.inl n), some (.inl kv), some (.inl ((kv / n) / n)), some (.inl ((kv / n) % n)), some (.inl (kv % n)), none], [.inl 5, .inl law], mW C (.inl (0, 1, .inl g) :: .inl (2, 9, .inr f) :: J), 0, 0)) rfl ?_
        refine m_icmp rfl ⟨by omega, by omega⟩ ⟨by omega, by omega⟩ (fun (zc4 : law < 5) => ?_) (fun (zc4 : ¬ law < 5) => ?_)
        · refine m_run 4 (ps' := (73, [some (.inr (.inl 13)), some (.inr (.inl 14)), some (.inl law), some (.inl n), some (.inl kv), some (.inl ((kv / n) / n)), some (.inl ((kv / n) % n)), some (.inl (kv % n)), some (.inl 1)], [.inl 1], mW C (.inl (0, 1, .inl g) :: .inl (2, 9, .inr f) :: J), 0, 0)) rfl ?_
          refine m_if rfl ⟨by omega, by omega⟩ (fun (zc5 : 1 = 0) => absurd zc5 (by omega)) (fun (zc5 : ¬ 1 = 0) => ?_)
          refine m_run 6 (ps' := (85, [some (.inr (.inl 13)), some (.inr (.inl 14)), some (.inl law), some (.inl n), some (.inl kv), some (.inl ((kv / n) / n)), some (.inl ((kv / n) % n)), some (.inl (kv % n)), some (.inl 1)], [.inl (kv % n), .inl ((kv / n) % n), .inl ((kv / n) / n), .inl law, .inr (.inl 14), .inr (.inl 13)], mW C (.inl (0, 1, .inl g) :: .inl (2, 9, .inr f) :: J), 0, 0)) rfl ?_
          refine m_callSF [.inr (.inl 13), .inr (.inl 14), .inl law, .inl ((kv / n) / n), .inl ((kv / n) % n), .inl (kv % n)] [] rfl rfl rfl (a_hold (law := law) (a := ((kv / n) / n)) (b := ((kv / n) % n)) (c := (kv % n)) hg hL (by omega) (by omega) (by omega) (by omega) (by omega) (by omega) (by omega) (by omega)) ?_
          show m_Sem X 57 (88, [some (.inr (.inl 13)), some (.inr (.inl 14)), some (.inl law), some (.inl n), some (.inl kv), some (.inl ((kv / n) / n)), some (.inl ((kv / n) % n)), some (.inl (kv % n)), some (.inl 1)], [.inl (bI (holdsS n tb law ((kv / n) / n) ((kv / n) % n) (kv % n)))], mW C (.inl (0, 1, .inl g) :: .inl (2, 9, .inr f) :: J), 0, 0) _
          refine m_if rfl (bI_R _) (fun (zc6 : ¬ (bI (holdsS n tb law ((kv / n) / n) ((kv / n) % n) (kv % n))) = 0) => ?_) (fun (zc6 : ¬ ¬ (bI (holdsS n tb law ((kv / n) / n) ((kv / n) % n) (kv % n))) = 0) => ?_)
          · replace zc6 : (holdsS n tb law ((kv / n) / n) ((kv / n) % n) (kv % n)) = true := bI_n0.mp zc6
            refine m_run 2 (ps' := (7, [some (.inr (.inl 13)), some (.inr (.inl 14)), some (.inl law), some (.inl n), some (.inl (kv + 1)), some (.inl ((kv / n) / n)), some (.inl ((kv / n) % n)), some (.inl (kv % n)), some (.inl 1)], [], mW C (.inl (0, 1, .inl g) :: .inl (2, 9, .inr f) :: J), 0, 0)) rfl ?_
            refine m_weak [some (.inr (.inl 13)), some (.inr (.inl 14)), some (.inl law), some (.inl n), some (.inl (kv + 1)), none, none, none, none] ⟨rfl, ⟨rfl, ⟨rfl, ⟨rfl, ⟨rfl, trivial⟩⟩⟩⟩⟩ ?_
            refine ih (fun k2 g1 g2 => ?_)
            by_cases he : k2 = kv
            · subst he
              intro h9
              first
              | assumption
              | exact absurd (told_p.mp h9) (by omega)
            · exact hp k2 g1 (by omega)
          · replace zc6 : (holdsS n tb law ((kv / n) / n) ((kv / n) % n) (kv % n)) = false := bI_e0.mp (Decidable.not_not.mp zc6)
            refine m_run 9 (ps' := (105, [some (.inr (.inl 13)), some (.inr (.inl 14)), some (.inl law), some (.inl n), some (.inl kv), some (.inl ((kv / n) / n)), some (.inl ((kv / n) % n)), some (.inl (kv % n)), some (.inl 1)], [.inl (((100 * ((kv / n) / n)) + (10 * ((kv / n) % n))) + (kv % n))], mW C (.inl (0, 1, .inl g) :: .inl (2, 9, .inr f) :: J), 0, 0)) rfl ?_
            exact m_ret1 rfl (Or.inl rfl) rfl (m_Vi (by rw [scan_some hn hi1 hi2 (told_p.mpr (by omega)) (by assumption) hp]; rfl))
        · refine m_run 1 (ps' := (61, [some (.inr (.inl 13)), some (.inr (.inl 14)), some (.inl law), some (.inl n), some (.inl kv), some (.inl ((kv / n) / n)), some (.inl ((kv / n) % n)), some (.inl (kv % n)), none], [.inl (kv % n)], mW C (.inl (0, 1, .inl g) :: .inl (2, 9, .inr f) :: J), 0, 0)) rfl ?_
          refine m_if rfl ⟨by omega, by omega⟩ (fun (zc5 : ¬ (kv % n) = 0) => ?_) (fun (zc5 : ¬ ¬ (kv % n) = 0) => ?_)
          · refine m_run 3 (ps' := (73, [some (.inr (.inl 13)), some (.inr (.inl 14)), some (.inl law), some (.inl n), some (.inl kv), some (.inl ((kv / n) / n)), some (.inl ((kv / n) % n)), some (.inl (kv % n)), some (.inl 0)], [.inl 0], mW C (.inl (0, 1, .inl g) :: .inl (2, 9, .inr f) :: J), 0, 0)) rfl ?_
            refine m_if rfl ⟨by omega, by omega⟩ (fun (zc6 : 0 = 0) => ?_) (fun (zc6 : ¬ 0 = 0) => absurd zc6 (not_not_intro (by omega)))
            refine m_run 2 (ps' := (7, [some (.inr (.inl 13)), some (.inr (.inl 14)), some (.inl law), some (.inl n), some (.inl (kv + 1)), some (.inl ((kv / n) / n)), some (.inl ((kv / n) % n)), some (.inl (kv % n)), some (.inl 0)], [], mW C (.inl (0, 1, .inl g) :: .inl (2, 9, .inr f) :: J), 0, 0)) rfl ?_
            refine m_weak [some (.inr (.inl 13)), some (.inr (.inl 14)), some (.inl law), some (.inl n), some (.inl (kv + 1)), none, none, none, none] ⟨rfl, ⟨rfl, ⟨rfl, ⟨rfl, ⟨rfl, trivial⟩⟩⟩⟩⟩ ?_
            refine ih (fun k2 g1 g2 => ?_)
            by_cases he : k2 = kv
            · subst he
              intro h9
              first
              | assumption
              | exact absurd (told_p.mp h9) (by omega)
            · exact hp k2 g1 (by omega)
          · replace zc5 : (kv % n) = 0 := Decidable.not_not.mp zc5
            refine m_run 4 (ps' := (73, [some (.inr (.inl 13)), some (.inr (.inl 14)), some (.inl law), some (.inl n), some (.inl kv), some (.inl ((kv / n) / n)), some (.inl ((kv / n) % n)), some (.inl (kv % n)), some (.inl 1)], [.inl 1], mW C (.inl (0, 1, .inl g) :: .inl (2, 9, .inr f) :: J), 0, 0)) rfl ?_
            refine m_if rfl ⟨by omega, by omega⟩ (fun (zc6 : 1 = 0) => absurd zc6 (by omega)) (fun (zc6 : ¬ 1 = 0) => ?_)
            refine m_run 6 (ps' := (85, [some (.inr (.inl 13)), some (.inr (.inl 14)), some (.inl law), some (.inl n), some (.inl kv), some (.inl ((kv / n) / n)), some (.inl ((kv / n) % n)), some (.inl (kv % n)), some (.inl 1)], [.inl (kv % n), .inl ((kv / n) % n), .inl ((kv / n) / n), .inl law, .inr (.inl 14), .inr (.inl 13)], mW C (.inl (0, 1, .inl g) :: .inl (2, 9, .inr f) :: J), 0, 0)) rfl ?_
            refine m_callSF [.inr (.inl 13), .inr (.inl 14), .inl law, .inl ((kv / n) / n), .inl ((kv / n) % n), .inl (kv % n)] [] rfl rfl rfl (a_hold (law := law) (a := ((kv / n) / n)) (b := ((kv / n) % n)) (c := (kv % n)) hg hL (by omega) (by omega) (by omega) (by omega) (by omega) (by omega) (by omega) (by omega)) ?_
            show m_Sem X 57 (88, [some (.inr (.inl 13)), some (.inr (.inl 14)), some (.inl law), some (.inl n), some (.inl kv), some (.inl ((kv / n) / n)), some (.inl ((kv / n) % n)), some (.inl (kv % n)), some (.inl 1)], [.inl (bI (holdsS n tb law ((kv / n) / n) ((kv / n) % n) (kv % n)))], mW C (.inl (0, 1, .inl g) :: .inl (2, 9, .inr f) :: J), 0, 0) _
            refine m_if rfl (bI_R _) (fun (zc7 : ¬ (bI (holdsS n tb law ((kv / n) / n) ((kv / n) % n) (kv % n))) = 0) => ?_) (fun (zc7 : ¬ ¬ (bI (holdsS n tb law ((kv / n) / n) ((kv / n) % n) (kv % n))) = 0) => ?_)
            · replace zc7 : (holdsS n tb law ((kv / n) / n) ((kv / n) % n) (kv % n)) = true := bI_n0.mp zc7
              refine m_run 2 (ps' := (7, [some (.inr (.inl 13)), some (.inr (.inl 14)), some (.inl law), some (.inl n), some (.inl (kv + 1)), some (.inl ((kv / n) / n)), some (.inl ((kv / n) % n)), some (.inl (kv % n)), some (.inl 1)], [], mW C (.inl (0, 1, .inl g) :: .inl (2, 9, .inr f) :: J), 0, 0)) rfl ?_
              refine m_weak [some (.inr (.inl 13)), some (.inr (.inl 14)), some (.inl law), some (.inl n), some (.inl (kv + 1)), none, none, none, none] ⟨rfl, ⟨rfl, ⟨rfl, ⟨rfl, ⟨rfl, trivial⟩⟩⟩⟩⟩ ?_
              refine ih (fun k2 g1 g2 => ?_)
              by_cases he : k2 = kv
              · subst he
                intro h9
                first
                | assumption
                | exact absurd (told_p.mp h9) (by omega)
              · exact hp k2 g1 (by omega)
            · replace zc7 : (holdsS n tb law ((kv / n) / n) ((kv / n) % n) (kv % n)) = false := bI_e0.mp (Decidable.not_not.mp zc7)
              refine m_run 9 (ps' := (105, [some (.inr (.inl 13)), some (.inr (.inl 14)), some (.inl law), some (.inl n), some (.inl kv), some (.inl ((kv / n) / n)), some (.inl ((kv / n) % n)), some (.inl (kv % n)), some (.inl 1)], [.inl (((100 * ((kv / n) / n)) + (10 * ((kv / n) % n))) + (kv % n))], mW C (.inl (0, 1, .inl g) :: .inl (2, 9, .inr f) :: J), 0, 0)) rfl ?_
              exact m_ret1 rfl (Or.inl rfl) rfl (m_Vi (by rw [scan_some hn hi1 hi2 (told_p.mpr (by omega)) (by assumption) hp]; rfl))
    · refine m_run 1 (ps' := (46, [some (.inr (.inl 13)), some (.inr (.inl 14)), some (.inl law), some (.inl n), some (.inl kv), some (.inl ((kv / n) / n)), some (.inl ((kv / n) % n)), some (.inl (kv % n)), none], [.inl ((kv / n) % n)], mW C (.inl (0, 1, .inl g) :: .inl (2, 9, .inr f) :: J), 0, 0)) rfl ?_
      refine m_if rfl ⟨by omega, by omega⟩ (fun (zc3 : ¬ ((kv / n) % n) = 0) => ?_) (fun (zc3 : ¬ ¬ ((kv / n) % n) = 0) => ?_)
      · refine m_run 3 (ps' := (73, [some (.inr (.inl 13)), some (.inr (.inl 14)), some (.inl law), some (.inl n), some (.inl kv), some (.inl ((kv / n) / n)), some (.inl ((kv / n) % n)), some (.inl (kv % n)), some (.inl 0)], [.inl 0], mW C (.inl (0, 1, .inl g) :: .inl (2, 9, .inr f) :: J), 0, 0)) rfl ?_
        refine m_if rfl ⟨by omega, by omega⟩ (fun (zc4 : 0 = 0) => ?_) (fun (zc4 : ¬ 0 = 0) => absurd zc4 (not_not_intro (by omega)))
        refine m_run 2 (ps' := (7, [some (.inr (.inl 13)), some (.inr (.inl 14)), some (.inl law), some (.inl n), some (.inl (kv + 1)), some (.inl ((kv / n) / n)), some (.inl ((kv / n) % n)), some (.inl (kv % n)), some (.inl 0)], [], mW C (.inl (0, 1, .inl g) :: .inl (2, 9, .inr f) :: J), 0, 0)) rfl ?_
        refine m_weak [some (.inr (.inl 13)), some (.inr (.inl 14)), some (.inl law), some (.inl n), some (.inl (kv + 1)), none, none, none, none] ⟨rfl, ⟨rfl, ⟨rfl, ⟨rfl, ⟨rfl, trivial⟩⟩⟩⟩⟩ ?_
        refine ih (fun k2 g1 g2 => ?_)
        by_cases he : k2 = kv
        · subst he
          intro h9
          first
          | assumption
          | exact absurd (told_p.mp h9) (by omega)
        · exact hp k2 g1 (by omega)
      · replace zc3 : ((kv / n) % n) = 0 := Decidable.not_not.mp zc3
        refine m_run 2 (ps' := (51, [some (.inr (.inl 13)), some (.inr (.inl 14)), some (.inl law), some (.inl n), some (.inl kv), some (.inl ((kv / n) / n)), some (.inl ((kv / n) % n)), some (.inl (kv % n)), none], [.inl 1, .inl law], mW C (.inl (0, 1, .inl g) :: .inl (2, 9, .inr f) :: J), 0, 0)) rfl ?_
        refine m_icmp rfl ⟨by omega, by omega⟩ ⟨by omega, by omega⟩ (fun (zc4 : law ≤ 1) => ?_) (fun (zc4 : ¬ law ≤ 1) => ?_)
        · refine m_run 1 (ps' := (61, [some (.inr (.inl 13)), some (.inr (.inl 14)), some (.inl law), some (.inl n), some (.inl kv), some (.inl ((kv / n) / n)), some (.inl ((kv / n) % n)), some (.inl (kv % n)), none], [.inl (kv % n)], mW C (.inl (0, 1, .inl g) :: .inl (2, 9, .inr f) :: J), 0, 0)) rfl ?_
          refine m_if rfl ⟨by omega, by omega⟩ (fun (zc5 : ¬ (kv % n) = 0) => ?_) (fun (zc5 : ¬ ¬ (kv % n) = 0) => ?_)
          · refine m_run 3 (ps' := (73, [some (.inr (.inl 13)), some (.inr (.inl 14)), some (.inl law), some (.inl n), some (.inl kv), some (.inl ((kv / n) / n)), some (.inl ((kv / n) % n)), some (.inl (kv % n)), some (.inl 0)], [.inl 0], mW C (.inl (0, 1, .inl g) :: .inl (2, 9, .inr f) :: J), 0, 0)) rfl ?_
            refine m_if rfl ⟨by omega, by omega⟩ (fun (zc6 : 0 = 0) => ?_) (fun (zc6 : ¬ 0 = 0) => absurd zc6 (not_not_intro (by omega)))
            refine m_run 2 (ps' := (7, [some (.inr (.inl 13)), some (.inr (.inl 14)), some (.inl law), some (.inl n), some (.inl (kv + 1)), some (.inl ((kv / n) / n)), some (.inl ((kv / n) % n)), some (.inl (kv % n)), some (.inl 0)], [], mW C (.inl (0, 1, .inl g) :: .inl (2, 9, .inr f) :: J), 0, 0)) rfl ?_
            refine m_weak [some (.inr (.inl 13)), some (.inr (.inl 14)), some (.inl law), some (.inl n), some (.inl (kv + 1)), none, none, none, none] ⟨rfl, ⟨rfl, ⟨rfl, ⟨rfl, ⟨rfl, trivial⟩⟩⟩⟩⟩ ?_
            refine ih (fun k2 g1 g2 => ?_)
            by_cases he : k2 = kv
            · subst he
              intro h9
              first
              | assumption
              | exact absurd (told_p.mp h9) (by omega)
            · exact hp k2 g1 (by omega)
          · replace zc5 : (kv % n) = 0 := Decidable.not_not.mp zc5
            refine m_run 4 (ps' := (73, [some (.inr (.inl 13)), some (.inr (.inl 14)), some (.inl law), some (.inl n), some (.inl kv), some (.inl ((kv / n) / n)), some (.inl ((kv / n) % n)), some (.inl (kv % n)), some (.inl 1)], [.inl 1], mW C (.inl (0, 1, .inl g) :: .inl (2, 9, .inr f) :: J), 0, 0)) rfl ?_
            refine m_if rfl ⟨by omega, by omega⟩ (fun (zc6 : 1 = 0) => absurd zc6 (by omega)) (fun (zc6 : ¬ 1 = 0) => ?_)
            refine m_run 6 (ps' := (85, [some (.inr (.inl 13)), some (.inr (.inl 14)), some (.inl law), some (.inl n), some (.inl kv), some (.inl ((kv / n) / n)), some (.inl ((kv / n) % n)), some (.inl (kv % n)), some (.inl 1)], [.inl (kv % n), .inl ((kv / n) % n), .inl ((kv / n) / n), .inl law, .inr (.inl 14), .inr (.inl 13)], mW C (.inl (0, 1, .inl g) :: .inl (2, 9, .inr f) :: J), 0, 0)) rfl ?_
            refine m_callSF [.inr (.inl 13), .inr (.inl 14), .inl law, .inl ((kv / n) / n), .inl ((kv / n) % n), .inl (kv % n)] [] rfl rfl rfl (a_hold (law := law) (a := ((kv / n) / n)) (b := ((kv / n) % n)) (c := (kv % n)) hg hL (by omega) (by omega) (by omega) (by omega) (by omega) (by omega) (by omega) (by omega)) ?_
            show m_Sem X 57 (88, [some (.inr (.inl 13)), some (.inr (.inl 14)), some (.inl law), some (.inl n), some (.inl kv), some (.inl ((kv / n) / n)), some (.inl ((kv / n) % n)), some (.inl (kv % n)), some (.inl 1)], [.inl (bI (holdsS n tb law ((kv / n) / n) ((kv / n) % n) (kv % n)))], mW C (.inl (0, 1, .inl g) :: .inl (2, 9, .inr f) :: J), 0, 0) _
            refine m_if rfl (bI_R _) (fun (zc7 : ¬ (bI (holdsS n tb law ((kv / n) / n) ((kv / n) % n) (kv % n))) = 0) => ?_) (fun (zc7 : ¬ ¬ (bI (holdsS n tb law ((kv / n) / n) ((kv / n) % n) (kv % n))) = 0) => ?_)
            · replace zc7 : (holdsS n tb law ((kv / n) / n) ((kv / n) % n) (kv % n)) = true := bI_n0.mp zc7
              refine m_run 2 (ps' := (7, [some (.inr (.inl 13)), some (.inr (.inl 14)), some (.inl law), some (.inl n), some (.inl (kv + 1)), some (.inl ((kv / n) / n)), some (.inl ((kv / n) % n)), some (.inl (kv % n)), some (.inl 1)], [], mW C (.inl (0, 1, .inl g) :: .inl (2, 9, .inr f) :: J), 0, 0)) rfl ?_
              refine m_weak [some (.inr (.inl 13)), some (.inr (.inl 14)), some (.inl law), some (.inl n), some (.inl (kv + 1)), none, none, none, none] ⟨rfl, ⟨rfl, ⟨rfl, ⟨rfl, ⟨rfl, trivial⟩⟩⟩⟩⟩ ?_
              refine ih (fun k2 g1 g2 => ?_)
              by_cases he : k2 = kv
              · subst he
                intro h9
                first
                | assumption
                | exact absurd (told_p.mp h9) (by omega)
              · exact hp k2 g1 (by omega)
            · replace zc7 : (holdsS n tb law ((kv / n) / n) ((kv / n) % n) (kv % n)) = false := bI_e0.mp (Decidable.not_not.mp zc7)
              refine m_run 9 (ps' := (105, [some (.inr (.inl 13)), some (.inr (.inl 14)), some (.inl law), some (.inl n), some (.inl kv), some (.inl ((kv / n) / n)), some (.inl ((kv / n) % n)), some (.inl (kv % n)), some (.inl 1)], [.inl (((100 * ((kv / n) / n)) + (10 * ((kv / n) % n))) + (kv % n))], mW C (.inl (0, 1, .inl g) :: .inl (2, 9, .inr f) :: J), 0, 0)) rfl ?_
              exact m_ret1 rfl (Or.inl rfl) rfl (m_Vi (by rw [scan_some hn hi1 hi2 (told_p.mpr (by omega)) (by assumption) hp]; rfl))
        · refine m_run 2 (ps' := (56, [some (.inr (.inl 13)), some (.inr (.inl 14)), some (.inl law), some (.inl n), some (.inl kv), some (.inl ((kv / n) / n)), some (.inl ((kv / n) % n)), some (.inl (kv % n)), none], [.inl 5, .inl law], mW C (.inl (0, 1, .inl g) :: .inl (2, 9, .inr f) :: J), 0, 0)) rfl ?_
          refine m_icmp rfl ⟨by omega, by omega⟩ ⟨by omega, by omega⟩ (fun (zc5 : law < 5) => ?_) (fun (zc5 : ¬ law < 5) => ?_)
          · refine m_run 4 (ps' := (73, [some (.inr (.inl 13)), some (.inr (.inl 14)), some (.inl law), some (.inl n), some (.inl kv), some (.inl ((kv / n) / n)), some (.inl ((kv / n) % n)), some (.inl (kv % n)), some (.inl 1)], [.inl 1], mW C (.inl (0, 1, .inl g) :: .inl (2, 9, .inr f) :: J), 0, 0)) rfl ?_
            refine m_if rfl ⟨by omega, by omega⟩ (fun (zc6 : 1 = 0) => absurd zc6 (by omega)) (fun (zc6 : ¬ 1 = 0) => ?_)
            refine m_run 6 (ps' := (85, [some (.inr (.inl 13)), some (.inr (.inl 14)), some (.inl law), some (.inl n), some (.inl kv), some (.inl ((kv / n) / n)), some (.inl ((kv / n) % n)), some (.inl (kv % n)), some (.inl 1)], [.inl (kv % n), .inl ((kv / n) % n), .inl ((kv / n) / n), .inl law, .inr (.inl 14), .inr (.inl 13)], mW C (.inl (0, 1, .inl g) :: .inl (2, 9, .inr f) :: J), 0, 0)) rfl ?_
            refine m_callSF [.inr (.inl 13), .inr (.inl 14), .inl law, .inl ((kv / n) / n), .inl ((kv / n) % n), .inl (kv % n)] [] rfl rfl rfl (a_hold (law := law) (a := ((kv / n) / n)) (b := ((kv / n) % n)) (c := (kv % n)) hg hL (by omega) (by omega) (by omega) (by omega) (by omega) (by omega) (by omega) (by omega)) ?_
            show m_Sem X 57 (88, [some (.inr (.inl 13)), some (.inr (.inl 14)), some (.inl law), some (.inl n), some (.inl kv), some (.inl ((kv / n) / n)), some (.inl ((kv / n) % n)), some (.inl (kv % n)), some (.inl 1)], [.inl (bI (holdsS n tb law ((kv / n) / n) ((kv / n) % n) (kv % n)))], mW C (.inl (0, 1, .inl g) :: .inl (2, 9, .inr f) :: J), 0, 0) _
            refine m_if rfl (bI_R _) (fun (zc7 : ¬ (bI (holdsS n tb law ((kv / n) / n) ((kv / n) % n) (kv % n))) = 0) => ?_) (fun (zc7 : ¬ ¬ (bI (holdsS n tb law ((kv / n) / n) ((kv / n) % n) (kv % n))) = 0) => ?_)
            · replace zc7 : (holdsS n tb law ((kv / n) / n) ((kv / n) % n) (kv % n)) = true := bI_n0.mp zc7
              refine m_run 2 (ps' := (7, [some (.inr (.inl 13)), some (.inr (.inl 14)), some (.inl law), some (.inl n), some (.inl (kv + 1)), some (.inl ((kv / n) / n)), some (.inl ((kv / n) % n)), some (.inl (kv % n)), some (.inl 1)], [], mW C (.inl (0, 1, .inl g) :: .inl (2, 9, .inr f) :: J), 0, 0)) rfl ?_
              refine m_weak [some (.inr (.inl 13)), some (.inr (.inl 14)), some (.inl law), some (.inl n), some (.inl (kv + 1)), none, none, none, none] ⟨rfl, ⟨rfl, ⟨rfl, ⟨rfl, ⟨rfl, trivial⟩⟩⟩⟩⟩ ?_
              refine ih (fun k2 g1 g2 => ?_)
              by_cases he : k2 = kv
              · subst he
                intro h9
                first
                | assumption
                | exact absurd (told_p.mp h9) (by omega)
              · exact hp k2 g1 (by omega)
            · replace zc7 : (holdsS n tb law ((kv / n) / n) ((kv / n) % n) (kv % n)) = false := bI_e0.mp (Decidable.not_not.mp zc7)
              refine m_run 9 (ps' := (105, [some (.inr (.inl 13)), some (.inr (.inl 14)), some (.inl law), some (.inl n), some (.inl kv), some (.inl ((kv / n) / n)), some (.inl ((kv / n) % n)), some (.inl (kv % n)), some (.inl 1)], [.inl (((100 * ((kv / n) / n)) + (10 * ((kv / n) % n))) + (kv % n))], mW C (.inl (0, 1, .inl g) :: .inl (2, 9, .inr f) :: J), 0, 0)) rfl ?_
              exact m_ret1 rfl (Or.inl rfl) rfl (m_Vi (by rw [scan_some hn hi1 hi2 (told_p.mpr (by omega)) (by assumption) hp]; rfl))
          · refine m_run 1 (ps' := (61, [some (.inr (.inl 13)), some (.inr (.inl 14)), some (.inl law), some (.inl n), some (.inl kv), some (.inl ((kv / n) / n)), some (.inl ((kv / n) % n)), some (.inl (kv % n)), none], [.inl (kv % n)], mW C (.inl (0, 1, .inl g) :: .inl (2, 9, .inr f) :: J), 0, 0)) rfl ?_
            refine m_if rfl ⟨by omega, by omega⟩ (fun (zc6 : ¬ (kv % n) = 0) => ?_) (fun (zc6 : ¬ ¬ (kv % n) = 0) => ?_)
            · refine m_run 3 (ps' := (73, [some (.inr (.inl 13)), some (.inr (.inl 14)), some (.inl law), some (.inl n), some (.inl kv), some (.inl ((kv / n) / n)), some (.inl ((kv / n) % n)), some (.inl (kv % n)), some (.inl 0)], [.inl 0], mW C (.inl (0, 1, .inl g) :: .inl (2, 9, .inr f) :: J), 0, 0)) rfl ?_
              refine m_if rfl ⟨by omega, by omega⟩ (fun (zc7 : 0 = 0) => ?_) (fun (zc7 : ¬ 0 = 0) => absurd zc7 (not_not_intro (by omega)))
              refine m_run 2 (ps' := (7, [some (.inr (.inl 13)), some (.inr (.inl 14)), some (.inl law), some (.inl n), some (.inl (kv + 1)), some (.inl ((kv / n) / n)), some (.inl ((kv / n) % n)), some (.inl (kv % n)), some (.inl 0)], [], mW C (.inl (0, 1, .inl g) :: .inl (2, 9, .inr f) :: J), 0, 0)) rfl ?_
              refine m_weak [some (.inr (.inl 13)), some (.inr (.inl 14)), some (.inl law), some (.inl n), some (.inl (kv + 1)), none, none, none, none] ⟨rfl, ⟨rfl, ⟨rfl, ⟨rfl, ⟨rfl, trivial⟩⟩⟩⟩⟩ ?_
              refine ih (fun k2 g1 g2 => ?_)
              by_cases he : k2 = kv
              · subst he
                intro h9
                first
                | assumption
                | exact absurd (told_p.mp h9) (by omega)
              · exact hp k2 g1 (by omega)
            · replace zc6 : (kv % n) = 0 := Decidable.not_not.mp zc6
              refine m_run 4 (ps' := (73, [some (.inr (.inl 13)), some (.inr (.inl 14)), some (.inl law), some (.inl n), some (.inl kv), some (.inl ((kv / n) / n)), some (.inl ((kv / n) % n)), some (.inl (kv % n)), some (.inl 1)], [.inl 1], mW C (.inl (0, 1, .inl g) :: .inl (2, 9, .inr f) :: J), 0, 0)) rfl ?_
              refine m_if rfl ⟨by omega, by omega⟩ (fun (zc7 : 1 = 0) => absurd zc7 (by omega)) (fun (zc7 : ¬ 1 = 0) => ?_)
              refine m_run 6 (ps' := (85, [some (.inr (.inl 13)), some (.inr (.inl 14)), some (.inl law), some (.inl n), some (.inl kv), some (.inl ((kv / n) / n)), some (.inl ((kv / n) % n)), some (.inl (kv % n)), some (.inl 1)], [.inl (kv % n), .inl ((kv / n) % n), .inl ((kv / n) / n), .inl law, .inr (.inl 14), .inr (.inl 13)], mW C (.inl (0, 1, .inl g) :: .inl (2, 9, .inr f) :: J), 0, 0)) rfl ?_
              refine m_callSF [.inr (.inl 13), .inr (.inl 14), .inl law, .inl ((kv / n) / n), .inl ((kv / n) % n), .inl (kv % n)] [] rfl rfl rfl (a_hold (law := law) (a := ((kv / n) / n)) (b := ((kv / n) % n)) (c := (kv % n)) hg hL (by omega) (by omega) (by omega) (by omega) (by omega) (by omega) (by omega) (by omega)) ?_
              show m_Sem X 57 (88, [some (.inr (.inl 13)), some (.inr (.inl 14)), some (.inl law), some (.inl n), some (.inl kv), some (.inl ((kv / n) / n)), some (.inl ((kv / n) % n)), some (.inl (kv % n)), some (.inl 1)], [.inl (bI (holdsS n tb law ((kv / n) / n) ((kv / n) % n) (kv % n)))], mW C (.inl (0, 1, .inl g) :: .inl (2, 9, .inr f) :: J), 0, 0) _
              refine m_if rfl (bI_R _) (fun (zc8 : ¬ (bI (holdsS n tb law ((kv / n) / n) ((kv / n) % n) (kv % n))) = 0) => ?_) (fun (zc8 : ¬ ¬ (bI (holdsS n tb law ((kv / n) / n) ((kv / n) % n) (kv % n))) = 0) => ?_)
              · replace zc8 : (holdsS n tb law ((kv / n) / n) ((kv / n) % n) (kv % n)) = true := bI_n0.mp zc8
                refine m_run 2 (ps' := (7, [some (.inr (.inl 13)), some (.inr (.inl 14)), some (.inl law), some (.inl n), some (.inl (kv + 1)), some (.inl ((kv / n) / n)), some (.inl ((kv / n) % n)), some (.inl (kv % n)), some (.inl 1)], [], mW C (.inl (0, 1, .inl g) :: .inl (2, 9, .inr f) :: J), 0, 0)) rfl ?_
                refine m_weak [some (.inr (.inl 13)), some (.inr (.inl 14)), some (.inl law), some (.inl n), some (.inl (kv + 1)), none, none, none, none] ⟨rfl, ⟨rfl, ⟨rfl, ⟨rfl, ⟨rfl, trivial⟩⟩⟩⟩⟩ ?_
                refine ih (fun k2 g1 g2 => ?_)
                by_cases he : k2 = kv
                · subst he
                  intro h9
                  first
                  | assumption
                  | exact absurd (told_p.mp h9) (by omega)
                · exact hp k2 g1 (by omega)
              · replace zc8 : (holdsS n tb law ((kv / n) / n) ((kv / n) % n) (kv % n)) = false := bI_e0.mp (Decidable.not_not.mp zc8)
                refine m_run 9 (ps' := (105, [some (.inr (.inl 13)), some (.inr (.inl 14)), some (.inl law), some (.inl n), some (.inl kv), some (.inl ((kv / n) / n)), some (.inl ((kv / n) % n)), some (.inl (kv % n)), some (.inl 1)], [.inl (((100 * ((kv / n) / n)) + (10 * ((kv / n) % n))) + (kv % n))], mW C (.inl (0, 1, .inl g) :: .inl (2, 9, .inr f) :: J), 0, 0)) rfl ?_
                exact m_ret1 rfl (Or.inl rfl) rfl (m_Vi (by rw [scan_some hn hi1 hi2 (told_p.mpr (by omega)) (by assumption) hp]; rfl))
set_option maxHeartbeats 4000000 in
set_option maxRecDepth 100000 in
theorem a_wit {X : Nat × Nat × (Nat → Int32)} {C : CS} {g : Int → Int} {f : Nat → Int64} {J : mPW} {n : Int} {tb : Int → Int → Int} {law : Int} (hg : g 0 = n) (hL : repL n f tb) (hw : 0 ≤ law) (hw2 : law < 8) : m_Run X 57 [.inr (.inl 13), .inr (.inl 14), .inl law] (mW C (.inl (0, 1, .inl g) :: .inl (2, 9, .inr f) :: J)) (m_V (wcdL (witS n tb law)) (mW C (.inl (0, 1, .inl g) :: .inl (2, 9, .inr f) :: J))) := by
  have hn := hL.1
  have hl := okN_lo hn
  have hq3 := cub_b hn
  show m_Sem X 57 (0, [some (.inr (.inl 13)), some (.inr (.inl 14)), some (.inl law), none, none, none, none, none, none], [], mW C (.inl (0, 1, .inl g) :: .inl (2, 9, .inr f) :: J), 0, 0) _
  refine m_run 2 (ps' := (2, [some (.inr (.inl 13)), some (.inr (.inl 14)), some (.inl law), none, none, none, none, none, none], [.inl 0, .inr (.inl 13)], mW C (.inl (0, 1, .inl g) :: .inl (2, 9, .inr f) :: J), 0, 0)) rfl ?_
  refine m_iald rfl rfl (by omega) (by omega) (by decide) ?_
  show m_Sem X 57 (3, [some (.inr (.inl 13)), some (.inr (.inl 14)), some (.inl law), none, none, none, none, none, none], [.inl (g 0)], mW C (.inl (0, 1, .inl g) :: .inl (2, 9, .inr f) :: J), 0, 0) _
  rw [hg]
  refine m_run 3 (ps' := (7, [some (.inr (.inl 13)), some (.inr (.inl 14)), some (.inl law), some (.inl n), some (.inl 0), none, none, none, none], [], mW C (.inl (0, 1, .inl g) :: .inl (2, 9, .inr f) :: J), 0, 0)) rfl ?_
  refine m_weak [some (.inr (.inl 13)), some (.inr (.inl 14)), some (.inl law), some (.inl n), some (.inl 0), none, none, none, none] ⟨rfl, ⟨rfl, ⟨rfl, ⟨rfl, ⟨rfl, trivial⟩⟩⟩⟩⟩ ?_
  exact a_witL hg hL hw hw2 0 (by omega) (by omega) (fun k2 g1 g2 => absurd g2 (by omega))
end
section
theorem law_v {n : Int} {tb : Int → Int → Int} {law : Int} (hn : okN n) (h1 : 0 ≤ law) (h2 : law < 8) : (-1 ≤ wcdL (witS n tb law) ∧ wcdL (witS n tb law) < 1000) ∧ ((0 ≤ wcdL (witS n tb law) ∨ (lawS n tb law 0 = 1 ∧ lawS n tb law 1 = -1000004 ∧ lawS n tb law 2 = -1000004 ∧ lawS n tb law 3 = -1000004)) ∧ (wcdL (witS n tb law) < 0 ∨ (lawS n tb law 0 = 0 ∧ lawS n tb law 1 = wcdL (witS n tb law) / 100 ∧ lawS n tb law 2 = wcdL (witS n tb law) / 10 % 10 ∧ lawS n tb law 3 = wcdL (witS n tb law) % 10))) ∧ (wcode (witS n tb law) = -1 ↔ wcdL (witS n tb law) < 0) := by
  have e : ∀ w, 0 ≤ w → w ≤ 3 → lawS n tb law w = if w = 0 then (if wcode (witS n tb law) = -1 then 1 else 0) else if wcode (witS n tb law) = -1 then -1000004 else welS (wcode (witS n tb law)) w := by
    intro w g1 g2
    unfold lawS
    rw [if_neg (by omega), if_neg (by omega), if_neg (by omega), if_neg (by omega)]
  rw [e 0 (by omega) (by omega), e 1 (by omega) (by omega), e 2 (by omega) (by omega), e 3 (by omega) (by omega)]
  rcases wcd_lt (tb := tb) (law := law) hn with ⟨w1, w2⟩ | ⟨a, b, c, ⟨a1, a2⟩, ⟨b1, b2⟩, ⟨c1, c2⟩, w1, w2⟩
  · rw [w1, w2]
    refine ⟨by omega, ⟨Or.inr ⟨rfl, rfl, rfl, rfl⟩, Or.inl (by omega)⟩, by omega⟩
  · rw [w1, w2]
    have hne : ¬ (81 * a + 9 * b + c = -1) := by omega
    refine ⟨by omega, ⟨Or.inl (by omega), Or.inr ⟨?_, ?_, ?_, ?_⟩⟩, by omega⟩
    · rw [if_pos rfl, if_neg hne]
    · rw [if_neg (by decide), if_neg hne]
      show (81 * a + 9 * b + c) / 81 = _
      omega
    · rw [if_neg (by decide), if_neg hne]
      show (81 * a + 9 * b + c) / 9 % 9 = _
      omega
    · rw [if_neg (by decide), if_neg hne]
      show (81 * a + 9 * b + c) % 9 = _
      omega
theorem shB_R {v : Int} : 0 ≤ shB v ∧ shB v < 2147483648 := by
  unfold shB
  (repeat' split) <;> omega
theorem law_i1 {n : Int} {tb : Int → Int → Int} : lawS n tb 8 0 = -1000001 := by unfold lawS; simp
theorem law_i2 {n : Int} {tb : Int → Int → Int} : lawS n tb 0 4 = -1000001 := by unfold lawS; simp
set_option maxHeartbeats 4000000 in
set_option maxRecDepth 100000 in
theorem a_arL {X : Nat × Nat × (Nat → Int32)} {n : Int} {T : Int → Int} {h : HS} {t : TS} {x : XS} {g : Int → Int} {f : Nat → Int64} {J : mPW} {tb : Int → Int → Int} (hg : g 0 = n) (hL : repL n f tb) (hR : repC n T tb) : ∀ iv : Int, 0 ≤ iv → iv ≤ 8 → ∀ (u : Int) (hu : u + sumF (fun l => if wcode (witS n tb l) = -1 then 1 else 0) (8 - iv).toNat iv = heldS n tb), m_Sem X 58 (8, [some (.inr (.inl 0)), some (.inr (.inl 13)), some (.inr (.inl 14)), some (.inl u), some (.inl 1), some (.inl iv), none], [], mW (n, T, h, t, x) (.inl (0, 1, .inl g) :: .inl (2, 9, .inr f) :: J), 0, 0) (m_V 1 (mW (n, T, h, t, x) (.inl (0, 1, .inl g) :: .inl (2, 9, .inr f) :: J))) := by
  have hn := hL.1
  have hl := okN_lo hn
  refine m_down 0 8 ?_ ?_
  · intro u hu
    rw [sum_end] at hu
    have hu : u = heldS n tb := by omega
    have hh := heldS_in n tb
    show m_Sem X 58 (8, [some (.inr (.inl 0)), some (.inr (.inl 13)), some (.inr (.inl 14)), some (.inl u), some (.inl 1), some (.inl 8), none], [], mW (n, T, h, t, x) (.inl (0, 1, .inl g) :: .inl (2, 9, .inr f) :: J), 0, 0) _
    refine m_run 2 (ps' := (12, [some (.inr (.inl 0)), some (.inr (.inl 13)), some (.inr (.inl 14)), some (.inl u), some (.inl 1), some (.inl 8), none], [.inl 8, .inl 8], mW (n, T, h, t, x) (.inl (0, 1, .inl g) :: .inl (2, 9, .inr f) :: J), 0, 0)) rfl ?_
    refine m_icmp rfl ⟨by omega, by omega⟩ ⟨by omega, by omega⟩ (fun (zc1 : 8 ≤ 8) => ?_) (fun (zc1 : ¬ 8 ≤ 8) => absurd zc1 (not_not_intro (by omega)))
    refine m_run 1 (ps' := (155, [some (.inr (.inl 0)), some (.inr (.inl 13)), some (.inr (.inl 14)), some (.inl u), some (.inl 1), some (.inl 8), none], [.inl 1], mW (n, T, h, t, x) (.inl (0, 1, .inl g) :: .inl (2, 9, .inr f) :: J), 0, 0)) rfl ?_
    refine m_if rfl ⟨by omega, by omega⟩ (fun (zc2 : 1 = 0) => absurd zc2 (by omega)) (fun (zc2 : ¬ 1 = 0) => ?_)
    refine m_run 1 (ps' := (159, [some (.inr (.inl 0)), some (.inr (.inl 13)), some (.inr (.inl 14)), some (.inl u), some (.inl 1), some (.inl 8), none], [.inr (.inl 0)], mW (n, T, h, t, x) (.inl (0, 1, .inl g) :: .inl (2, 9, .inr f) :: J), 0, 0)) rfl ?_
    refine m_callVF [] [] rfl rfl ⟨_, rfl, rfl⟩ rfl rfl (k_share hR) ?_
    have zt1 := shB_R (v := heldS n tb)
    show m_Sem X 58 (162, [some (.inr (.inl 0)), some (.inr (.inl 13)), some (.inr (.inl 14)), some (.inl u), some (.inl 1), some (.inl 8), none], [.inl (shB (heldS n tb))], mW (n, T, h, t, x) (.inl (0, 1, .inl g) :: .inl (2, 9, .inr f) :: J), 0, 0) _
    refine m_run 1 (ps' := (163, [some (.inr (.inl 0)), some (.inr (.inl 13)), some (.inr (.inl 14)), some (.inl u), some (.inl 1), some (.inl 8), none], [.inl u, .inl (shB (heldS n tb))], mW (n, T, h, t, x) (.inl (0, 1, .inl g) :: .inl (2, 9, .inr f) :: J), 0, 0)) rfl ?_
    refine m_callSF [.inl u] [.inl (shB (heldS n tb))] rfl rfl rfl (a_eig (v := u) (by omega) (by omega)) ?_
    show m_Sem X 58 (166, [some (.inr (.inl 0)), some (.inr (.inl 13)), some (.inr (.inl 14)), some (.inl u), some (.inl 1), some (.inl 8), none], [.inl (shB u), .inl (shB (heldS n tb))], mW (n, T, h, t, x) (.inl (0, 1, .inl g) :: .inl (2, 9, .inr f) :: J), 0, 0) _
    refine m_icmp rfl ⟨by omega, by omega⟩ ⟨by omega, by omega⟩ (fun (zc3 : ¬ (shB (heldS n tb)) = (shB u)) => absurd zc3 (by rw [hu]; exact fun h9 => h9 rfl)) (fun (zc3 : ¬ ¬ (shB (heldS n tb)) = (shB u)) => ?_)
    replace zc3 : (shB (heldS n tb)) = (shB u) := Decidable.not_not.mp zc3
    refine m_run 3 (ps' := (173, [some (.inr (.inl 0)), some (.inr (.inl 13)), some (.inr (.inl 14)), some (.inl u), some (.inl 1), some (.inl 8), none], [.inl 0, .inl 8, .inr (.inl 0)], mW (n, T, h, t, x) (.inl (0, 1, .inl g) :: .inl (2, 9, .inr f) :: J), 0, 0)) rfl ?_
    refine m_callVF [.inl 8, .inl 0] [] rfl rfl ⟨_, rfl, rfl⟩ rfl rfl (k_law (l := 8) (wh := 0) ⟨by omega, by omega⟩ ⟨by omega, by omega⟩ hR) ?_
    have zt2 := law_i1 (n := n) (tb := tb)
    show m_Sem X 58 (176, [some (.inr (.inl 0)), some (.inr (.inl 13)), some (.inr (.inl 14)), some (.inl u), some (.inl 1), some (.inl 8), none], [.inl (lawS n tb 8 0)], mW (n, T, h, t, x) (.inl (0, 1, .inl g) :: .inl (2, 9, .inr f) :: J), 0, 0) _
    refine m_run 1 (ps' := (178, [some (.inr (.inl 0)), some (.inr (.inl 13)), some (.inr (.inl 14)), some (.inl u), some (.inl 1), some (.inl 8), none], [.inl (-1000001), .inl (lawS n tb 8 0)], mW (n, T, h, t, x) (.inl (0, 1, .inl g) :: .inl (2, 9, .inr f) :: J), 0, 0)) rfl ?_
    refine m_icmp rfl ⟨by omega, by omega⟩ ⟨by omega, by omega⟩ (fun (zc4 : ¬ (lawS n tb 8 0) = (-1000001)) => absurd zc4 (by omega)) (fun (zc4 : ¬ ¬ (lawS n tb 8 0) = (-1000001)) => ?_)
    replace zc4 : (lawS n tb 8 0) = (-1000001) := Decidable.not_not.mp zc4
    refine m_run 3 (ps' := (184, [some (.inr (.inl 0)), some (.inr (.inl 13)), some (.inr (.inl 14)), some (.inl u), some (.inl 1), some (.inl 8), none], [.inl 4, .inl 0, .inr (.inl 0)], mW (n, T, h, t, x) (.inl (0, 1, .inl g) :: .inl (2, 9, .inr f) :: J), 0, 0)) rfl ?_
    refine m_callVF [.inl 0, .inl 4] [] rfl rfl ⟨_, rfl, rfl⟩ rfl rfl (k_law (l := 0) (wh := 4) ⟨by omega, by omega⟩ ⟨by omega, by omega⟩ hR) ?_
    have zt3 := law_i2 (n := n) (tb := tb)
    show m_Sem X 58 (187, [some (.inr (.inl 0)), some (.inr (.inl 13)), some (.inr (.inl 14)), some (.inl u), some (.inl 1), some (.inl 8), none], [.inl (lawS n tb 0 4)], mW (n, T, h, t, x) (.inl (0, 1, .inl g) :: .inl (2, 9, .inr f) :: J), 0, 0) _
    refine m_run 1 (ps' := (189, [some (.inr (.inl 0)), some (.inr (.inl 13)), some (.inr (.inl 14)), some (.inl u), some (.inl 1), some (.inl 8), none], [.inl (-1000001), .inl (lawS n tb 0 4)], mW (n, T, h, t, x) (.inl (0, 1, .inl g) :: .inl (2, 9, .inr f) :: J), 0, 0)) rfl ?_
    refine m_icmp rfl ⟨by omega, by omega⟩ ⟨by omega, by omega⟩ (fun (zc5 : ¬ (lawS n tb 0 4) = (-1000001)) => absurd zc5 (by omega)) (fun (zc5 : ¬ ¬ (lawS n tb 0 4) = (-1000001)) => ?_)
    replace zc5 : (lawS n tb 0 4) = (-1000001) := Decidable.not_not.mp zc5
    refine m_run 2 (ps' := (197, [some (.inr (.inl 0)), some (.inr (.inl 13)), some (.inr (.inl 14)), some (.inl u), some (.inl 1), some (.inl 8), none], [.inl 1], mW (n, T, h, t, x) (.inl (0, 1, .inl g) :: .inl (2, 9, .inr f) :: J), 0, 0)) rfl ?_
    exact m_ret1 rfl (Or.inr ⟨rfl, Or.inr rfl⟩) rfl (m_Vi rfl)
  · intro iv hi1 hi2 ih u hu
    rw [sum_step hi2] at hu
    obtain ⟨⟨v1, v2⟩, ⟨v3, v4⟩, v5⟩ := law_v (tb := tb) (law := iv) hn hi1 hi2
    refine m_run 2 (ps' := (12, [some (.inr (.inl 0)), some (.inr (.inl 13)), some (.inr (.inl 14)), some (.inl u), some (.inl 1), some (.inl iv), none], [.inl 8, .inl iv], mW (n, T, h, t, x) (.inl (0, 1, .inl g) :: .inl (2, 9, .inr f) :: J), 0, 0)) rfl ?_
    refine m_icmp rfl ⟨by omega, by omega⟩ ⟨by omega, by omega⟩ (fun (zc1 : 8 ≤ iv) => absurd zc1 (by omega)) (fun (zc1 : ¬ 8 ≤ iv) => ?_)
    refine m_run 1 (ps' := (17, [some (.inr (.inl 0)), some (.inr (.inl 13)), some (.inr (.inl 14)), some (.inl u), some (.inl 1), some (.inl iv), none], [.inl 1], mW (n, T, h, t, x) (.inl (0, 1, .inl g) :: .inl (2, 9, .inr f) :: J), 0, 0)) rfl ?_
    refine m_if rfl ⟨by omega, by omega⟩ (fun (zc2 : 1 = 0) => absurd zc2 (by omega)) (fun (zc2 : ¬ 1 = 0) => ?_)
    refine m_run 3 (ps' := (24, [some (.inr (.inl 0)), some (.inr (.inl 13)), some (.inr (.inl 14)), some (.inl u), some (.inl 1), some (.inl iv), none], [.inl iv, .inr (.inl 14), .inr (.inl 13)], mW (n, T, h, t, x) (.inl (0, 1, .inl g) :: .inl (2, 9, .inr f) :: J), 0, 0)) rfl ?_
    refine m_callSF [.inr (.inl 13), .inr (.inl 14), .inl iv] [] rfl rfl rfl (a_wit (law := iv) hg hL (by omega) (by omega)) ?_
    show m_Sem X 58 (27, [some (.inr (.inl 0)), some (.inr (.inl 13)), some (.inr (.inl 14)), some (.inl u), some (.inl 1), some (.inl iv), none], [.inl (wcdL (witS n tb iv))], mW (n, T, h, t, x) (.inl (0, 1, .inl g) :: .inl (2, 9, .inr f) :: J), 0, 0) _
    refine m_run 3 (ps' := (32, [some (.inr (.inl 0)), some (.inr (.inl 13)), some (.inr (.inl 14)), some (.inl u), some (.inl 1), some (.inl iv), some (.inl (wcdL (witS n tb iv)))], [.inl (wcdL (witS n tb iv)), .inl u], mW (n, T, h, t, x) (.inl (0, 1, .inl g) :: .inl (2, 9, .inr f) :: J), 0, 0)) rfl ?_
    refine m_if rfl ⟨by omega, by omega⟩ (fun (zc3 : 0 ≤ (wcdL (witS n tb iv))) => ?_) (fun (zc3 : ¬ 0 ≤ (wcdL (witS n tb iv))) => ?_)
    · refine m_run 6 (ps' := (46, [some (.inr (.inl 0)), some (.inr (.inl 13)), some (.inr (.inl 14)), some (.inl (u + 0)), some (.inl 1), some (.inl iv), some (.inl (wcdL (witS n tb iv)))], [.inl 0, .inl iv, .inr (.inl 0)], mW (n, T, h, t, x) (.inl (0, 1, .inl g) :: .inl (2, 9, .inr f) :: J), 0, 0)) rfl ?_
      refine m_callVF [.inl iv, .inl 0] [] rfl rfl ⟨_, rfl, rfl⟩ rfl rfl (k_law (l := iv) (wh := 0) ⟨by omega, by omega⟩ ⟨by omega, by omega⟩ hR) ?_
      show m_Sem X 58 (49, [some (.inr (.inl 0)), some (.inr (.inl 13)), some (.inr (.inl 14)), some (.inl (u + 0)), some (.inl 1), some (.inl iv), some (.inl (wcdL (witS n tb iv)))], [.inl (lawS n tb iv 0)], mW (n, T, h, t, x) (.inl (0, 1, .inl g) :: .inl (2, 9, .inr f) :: J), 0, 0) _
      refine m_run 1 (ps' := (51, [some (.inr (.inl 0)), some (.inr (.inl 13)), some (.inr (.inl 14)), some (.inl (u + 0)), some (.inl 1), some (.inl iv), some (.inl (wcdL (witS n tb iv)))], [.inl (wcdL (witS n tb iv)), .inl (lawS n tb iv 0)], mW (n, T, h, t, x) (.inl (0, 1, .inl g) :: .inl (2, 9, .inr f) :: J), 0, 0)) rfl ?_
      refine m_if rfl ⟨by omega, by omega⟩ (fun (zc4 : 0 ≤ (wcdL (witS n tb iv))) => ?_) (fun (zc4 : ¬ 0 ≤ (wcdL (witS n tb iv))) => absurd zc4 (not_not_intro (by omega)))
      refine m_run 1 (ps' := (59, [some (.inr (.inl 0)), some (.inr (.inl 13)), some (.inr (.inl 14)), some (.inl (u + 0)), some (.inl 1), some (.inl iv), some (.inl (wcdL (witS n tb iv)))], [.inl 0, .inl (lawS n tb iv 0)], mW (n, T, h, t, x) (.inl (0, 1, .inl g) :: .inl (2, 9, .inr f) :: J), 0, 0)) rfl ?_
      refine m_icmp rfl ⟨by omega, by omega⟩ ⟨by omega, by omega⟩ (fun (zc5 : ¬ (lawS n tb iv 0) = 0) => absurd zc5 (by omega)) (fun (zc5 : ¬ ¬ (lawS n tb iv 0) = 0) => ?_)
      replace zc5 : (lawS n tb iv 0) = 0 := Decidable.not_not.mp zc5
      refine m_run 3 (ps' := (66, [some (.inr (.inl 0)), some (.inr (.inl 13)), some (.inr (.inl 14)), some (.inl (u + 0)), some (.inl 1), some (.inl iv), some (.inl (wcdL (witS n tb iv)))], [.inl 1, .inl iv, .inr (.inl 0)], mW (n, T, h, t, x) (.inl (0, 1, .inl g) :: .inl (2, 9, .inr f) :: J), 0, 0)) rfl ?_
      refine m_callVF [.inl iv, .inl 1] [] rfl rfl ⟨_, rfl, rfl⟩ rfl rfl (k_law (l := iv) (wh := 1) ⟨by omega, by omega⟩ ⟨by omega, by omega⟩ hR) ?_
      show m_Sem X 58 (69, [some (.inr (.inl 0)), some (.inr (.inl 13)), some (.inr (.inl 14)), some (.inl (u + 0)), some (.inl 1), some (.inl iv), some (.inl (wcdL (witS n tb iv)))], [.inl (lawS n tb iv 1)], mW (n, T, h, t, x) (.inl (0, 1, .inl g) :: .inl (2, 9, .inr f) :: J), 0, 0) _
      refine m_run 1 (ps' := (71, [some (.inr (.inl 0)), some (.inr (.inl 13)), some (.inr (.inl 14)), some (.inl (u + 0)), some (.inl 1), some (.inl iv), some (.inl (wcdL (witS n tb iv)))], [.inl (wcdL (witS n tb iv)), .inl (lawS n tb iv 1)], mW (n, T, h, t, x) (.inl (0, 1, .inl g) :: .inl (2, 9, .inr f) :: J), 0, 0)) rfl ?_
      refine m_if rfl ⟨by omega, by omega⟩ (fun (zc6 : 0 ≤ (wcdL (witS n tb iv))) => ?_) (fun (zc6 : ¬ 0 ≤ (wcdL (witS n tb iv))) => absurd zc6 (not_not_intro (by omega)))
      refine m_run 2 (ps' := (83, [some (.inr (.inl 0)), some (.inr (.inl 13)), some (.inr (.inl 14)), some (.inl (u + 0)), some (.inl 1), some (.inl iv), some (.inl (wcdL (witS n tb iv)))], [.inl 100, .inl (wcdL (witS n tb iv)), .inl (lawS n tb iv 1)], mW (n, T, h, t, x) (.inl (0, 1, .inl g) :: .inl (2, 9, .inr f) :: J), 0, 0)) rfl ?_
      refine m_div rfl (by omega) (by omega) (by omega) (by omega) ?_
      refine m_icmp rfl ⟨by omega, by omega⟩ ⟨by omega, by omega⟩ (fun (zc7 : ¬ (lawS n tb iv 1) = ((wcdL (witS n tb iv)) / 100)) => absurd zc7 (by omega)) (fun (zc7 : ¬ ¬ (lawS n tb iv 1) = ((wcdL (witS n tb iv)) / 100)) => ?_)
      replace zc7 : (lawS n tb iv 1) = ((wcdL (witS n tb iv)) / 100) := Decidable.not_not.mp zc7
      refine m_run 3 (ps' := (91, [some (.inr (.inl 0)), some (.inr (.inl 13)), some (.inr (.inl 14)), some (.inl (u + 0)), some (.inl 1), some (.inl iv), some (.inl (wcdL (witS n tb iv)))], [.inl 2, .inl iv, .inr (.inl 0)], mW (n, T, h, t, x) (.inl (0, 1, .inl g) :: .inl (2, 9, .inr f) :: J), 0, 0)) rfl ?_
      refine m_callVF [.inl iv, .inl 2] [] rfl rfl ⟨_, rfl, rfl⟩ rfl rfl (k_law (l := iv) (wh := 2) ⟨by omega, by omega⟩ ⟨by omega, by omega⟩ hR) ?_
      show m_Sem X 58 (94, [some (.inr (.inl 0)), some (.inr (.inl 13)), some (.inr (.inl 14)), some (.inl (u + 0)), some (.inl 1), some (.inl iv), some (.inl (wcdL (witS n tb iv)))], [.inl (lawS n tb iv 2)], mW (n, T, h, t, x) (.inl (0, 1, .inl g) :: .inl (2, 9, .inr f) :: J), 0, 0) _
      refine m_run 1 (ps' := (96, [some (.inr (.inl 0)), some (.inr (.inl 13)), some (.inr (.inl 14)), some (.inl (u + 0)), some (.inl 1), some (.inl iv), some (.inl (wcdL (witS n tb iv)))], [.inl (wcdL (witS n tb iv)), .inl (lawS n tb iv 2)], mW (n, T, h, t, x) (.inl (0, 1, .inl g) :: .inl (2, 9, .inr f) :: J), 0, 0)) rfl ?_
      refine m_if rfl ⟨by omega, by omega⟩ (fun (zc8 : 0 ≤ (wcdL (witS n tb iv))) => ?_) (fun (zc8 : ¬ 0 ≤ (wcdL (witS n tb iv))) => absurd zc8 (not_not_intro (by omega)))
      refine m_run 2 (ps' := (108, [some (.inr (.inl 0)), some (.inr (.inl 13)), some (.inr (.inl 14)), some (.inl (u + 0)), some (.inl 1), some (.inl iv), some (.inl (wcdL (witS n tb iv)))], [.inl 10, .inl (wcdL (witS n tb iv)), .inl (lawS n tb iv 2)], mW (n, T, h, t, x) (.inl (0, 1, .inl g) :: .inl (2, 9, .inr f) :: J), 0, 0)) rfl ?_
      refine m_div rfl (by omega) (by omega) (by omega) (by omega) ?_
      refine m_run 1 (ps' := (111, [some (.inr (.inl 0)), some (.inr (.inl 13)), some (.inr (.inl 14)), some (.inl (u + 0)), some (.inl 1), some (.inl iv), some (.inl (wcdL (witS n tb iv)))], [.inl 10, .inl ((wcdL (witS n tb iv)) / 10), .inl (lawS n tb iv 2)], mW (n, T, h, t, x) (.inl (0, 1, .inl g) :: .inl (2, 9, .inr f) :: J), 0, 0)) rfl ?_
      refine m_rem rfl (by omega) (by omega) (by omega) (by omega) ?_
      refine m_icmp rfl ⟨by omega, by omega⟩ ⟨by omega, by omega⟩ (fun (zc9 : ¬ (lawS n tb iv 2) = (((wcdL (witS n tb iv)) / 10) % 10)) => absurd zc9 (by omega)) (fun (zc9 : ¬ ¬ (lawS n tb iv 2) = (((wcdL (witS n tb iv)) / 10) % 10)) => ?_)
      replace zc9 : (lawS n tb iv 2) = (((wcdL (witS n tb iv)) / 10) % 10) := Decidable.not_not.mp zc9
      refine m_run 3 (ps' := (119, [some (.inr (.inl 0)), some (.inr (.inl 13)), some (.inr (.inl 14)), some (.inl (u + 0)), some (.inl 1), some (.inl iv), some (.inl (wcdL (witS n tb iv)))], [.inl 3, .inl iv, .inr (.inl 0)], mW (n, T, h, t, x) (.inl (0, 1, .inl g) :: .inl (2, 9, .inr f) :: J), 0, 0)) rfl ?_
      refine m_callVF [.inl iv, .inl 3] [] rfl rfl ⟨_, rfl, rfl⟩ rfl rfl (k_law (l := iv) (wh := 3) ⟨by omega, by omega⟩ ⟨by omega, by omega⟩ hR) ?_
      show m_Sem X 58 (122, [some (.inr (.inl 0)), some (.inr (.inl 13)), some (.inr (.inl 14)), some (.inl (u + 0)), some (.inl 1), some (.inl iv), some (.inl (wcdL (witS n tb iv)))], [.inl (lawS n tb iv 3)], mW (n, T, h, t, x) (.inl (0, 1, .inl g) :: .inl (2, 9, .inr f) :: J), 0, 0) _
      refine m_run 1 (ps' := (124, [some (.inr (.inl 0)), some (.inr (.inl 13)), some (.inr (.inl 14)), some (.inl (u + 0)), some (.inl 1), some (.inl iv), some (.inl (wcdL (witS n tb iv)))], [.inl (wcdL (witS n tb iv)), .inl (lawS n tb iv 3)], mW (n, T, h, t, x) (.inl (0, 1, .inl g) :: .inl (2, 9, .inr f) :: J), 0, 0)) rfl ?_
      refine m_if rfl ⟨by omega, by omega⟩ (fun (zc10 : 0 ≤ (wcdL (witS n tb iv))) => ?_) (fun (zc10 : ¬ 0 ≤ (wcdL (witS n tb iv))) => absurd zc10 (not_not_intro (by omega)))
      refine m_run 2 (ps' := (136, [some (.inr (.inl 0)), some (.inr (.inl 13)), some (.inr (.inl 14)), some (.inl (u + 0)), some (.inl 1), some (.inl iv), some (.inl (wcdL (witS n tb iv)))], [.inl 10, .inl (wcdL (witS n tb iv)), .inl (lawS n tb iv 3)], mW (n, T, h, t, x) (.inl (0, 1, .inl g) :: .inl (2, 9, .inr f) :: J), 0, 0)) rfl ?_
      refine m_rem rfl (by omega) (by omega) (by omega) (by omega) ?_
      refine m_icmp rfl ⟨by omega, by omega⟩ ⟨by omega, by omega⟩ (fun (zc11 : ¬ (lawS n tb iv 3) = ((wcdL (witS n tb iv)) % 10)) => absurd zc11 (by omega)) (fun (zc11 : ¬ ¬ (lawS n tb iv 3) = ((wcdL (witS n tb iv)) % 10)) => ?_)
      replace zc11 : (lawS n tb iv 3) = ((wcdL (witS n tb iv)) % 10) := Decidable.not_not.mp zc11
      refine m_run 5 (ps' := (8, [some (.inr (.inl 0)), some (.inr (.inl 13)), some (.inr (.inl 14)), some (.inl (u + 0)), some (.inl 1), some (.inl (iv + 1)), some (.inl (wcdL (witS n tb iv)))], [], mW (n, T, h, t, x) (.inl (0, 1, .inl g) :: .inl (2, 9, .inr f) :: J), 0, 0)) rfl ?_
      refine m_weak [some (.inr (.inl 0)), some (.inr (.inl 13)), some (.inr (.inl 14)), some (.inl (u + 0)), some (.inl 1), some (.inl (iv + 1)), none] ⟨rfl, ⟨rfl, ⟨rfl, ⟨rfl, ⟨rfl, ⟨rfl, trivial⟩⟩⟩⟩⟩⟩ ?_
      rw [if_neg (fun h9 => absurd (v5.mp h9) (by omega))] at hu
      exact ih _ (by omega)
    · refine m_run 7 (ps' := (46, [some (.inr (.inl 0)), some (.inr (.inl 13)), some (.inr (.inl 14)), some (.inl (u + 1)), some (.inl 1), some (.inl iv), some (.inl (wcdL (witS n tb iv)))], [.inl 0, .inl iv, .inr (.inl 0)], mW (n, T, h, t, x) (.inl (0, 1, .inl g) :: .inl (2, 9, .inr f) :: J), 0, 0)) rfl ?_
      refine m_callVF [.inl iv, .inl 0] [] rfl rfl ⟨_, rfl, rfl⟩ rfl rfl (k_law (l := iv) (wh := 0) ⟨by omega, by omega⟩ ⟨by omega, by omega⟩ hR) ?_
      show m_Sem X 58 (49, [some (.inr (.inl 0)), some (.inr (.inl 13)), some (.inr (.inl 14)), some (.inl (u + 1)), some (.inl 1), some (.inl iv), some (.inl (wcdL (witS n tb iv)))], [.inl (lawS n tb iv 0)], mW (n, T, h, t, x) (.inl (0, 1, .inl g) :: .inl (2, 9, .inr f) :: J), 0, 0) _
      refine m_run 1 (ps' := (51, [some (.inr (.inl 0)), some (.inr (.inl 13)), some (.inr (.inl 14)), some (.inl (u + 1)), some (.inl 1), some (.inl iv), some (.inl (wcdL (witS n tb iv)))], [.inl (wcdL (witS n tb iv)), .inl (lawS n tb iv 0)], mW (n, T, h, t, x) (.inl (0, 1, .inl g) :: .inl (2, 9, .inr f) :: J), 0, 0)) rfl ?_
      refine m_if rfl ⟨by omega, by omega⟩ (fun (zc4 : 0 ≤ (wcdL (witS n tb iv))) => absurd zc4 (by omega)) (fun (zc4 : ¬ 0 ≤ (wcdL (witS n tb iv))) => ?_)
      refine m_run 2 (ps' := (59, [some (.inr (.inl 0)), some (.inr (.inl 13)), some (.inr (.inl 14)), some (.inl (u + 1)), some (.inl 1), some (.inl iv), some (.inl (wcdL (witS n tb iv)))], [.inl 1, .inl (lawS n tb iv 0)], mW (n, T, h, t, x) (.inl (0, 1, .inl g) :: .inl (2, 9, .inr f) :: J), 0, 0)) rfl ?_
      refine m_icmp rfl ⟨by omega, by omega⟩ ⟨by omega, by omega⟩ (fun (zc5 : ¬ (lawS n tb iv 0) = 1) => absurd zc5 (by omega)) (fun (zc5 : ¬ ¬ (lawS n tb iv 0) = 1) => ?_)
      replace zc5 : (lawS n tb iv 0) = 1 := Decidable.not_not.mp zc5
      refine m_run 3 (ps' := (66, [some (.inr (.inl 0)), some (.inr (.inl 13)), some (.inr (.inl 14)), some (.inl (u + 1)), some (.inl 1), some (.inl iv), some (.inl (wcdL (witS n tb iv)))], [.inl 1, .inl iv, .inr (.inl 0)], mW (n, T, h, t, x) (.inl (0, 1, .inl g) :: .inl (2, 9, .inr f) :: J), 0, 0)) rfl ?_
      refine m_callVF [.inl iv, .inl 1] [] rfl rfl ⟨_, rfl, rfl⟩ rfl rfl (k_law (l := iv) (wh := 1) ⟨by omega, by omega⟩ ⟨by omega, by omega⟩ hR) ?_
      show m_Sem X 58 (69, [some (.inr (.inl 0)), some (.inr (.inl 13)), some (.inr (.inl 14)), some (.inl (u + 1)), some (.inl 1), some (.inl iv), some (.inl (wcdL (witS n tb iv)))], [.inl (lawS n tb iv 1)], mW (n, T, h, t, x) (.inl (0, 1, .inl g) :: .inl (2, 9, .inr f) :: J), 0, 0) _
      refine m_run 1 (ps' := (71, [some (.inr (.inl 0)), some (.inr (.inl 13)), some (.inr (.inl 14)), some (.inl (u + 1)), some (.inl 1), some (.inl iv), some (.inl (wcdL (witS n tb iv)))], [.inl (wcdL (witS n tb iv)), .inl (lawS n tb iv 1)], mW (n, T, h, t, x) (.inl (0, 1, .inl g) :: .inl (2, 9, .inr f) :: J), 0, 0)) rfl ?_
      refine m_if rfl ⟨by omega, by omega⟩ (fun (zc6 : 0 ≤ (wcdL (witS n tb iv))) => absurd zc6 (by omega)) (fun (zc6 : ¬ 0 ≤ (wcdL (witS n tb iv))) => ?_)
      refine m_run 2 (ps' := (84, [some (.inr (.inl 0)), some (.inr (.inl 13)), some (.inr (.inl 14)), some (.inl (u + 1)), some (.inl 1), some (.inl iv), some (.inl (wcdL (witS n tb iv)))], [.inl (-1000004), .inl (lawS n tb iv 1)], mW (n, T, h, t, x) (.inl (0, 1, .inl g) :: .inl (2, 9, .inr f) :: J), 0, 0)) rfl ?_
      refine m_icmp rfl ⟨by omega, by omega⟩ ⟨by omega, by omega⟩ (fun (zc7 : ¬ (lawS n tb iv 1) = (-1000004)) => absurd zc7 (by omega)) (fun (zc7 : ¬ ¬ (lawS n tb iv 1) = (-1000004)) => ?_)
      replace zc7 : (lawS n tb iv 1) = (-1000004) := Decidable.not_not.mp zc7
      refine m_run 3 (ps' := (91, [some (.inr (.inl 0)), some (.inr (.inl 13)), some (.inr (.inl 14)), some (.inl (u + 1)), some (.inl 1), some (.inl iv), some (.inl (wcdL (witS n tb iv)))], [.inl 2, .inl iv, .inr (.inl 0)], mW (n, T, h, t, x) (.inl (0, 1, .inl g) :: .inl (2, 9, .inr f) :: J), 0, 0)) rfl ?_
      refine m_callVF [.inl iv, .inl 2] [] rfl rfl ⟨_, rfl, rfl⟩ rfl rfl (k_law (l := iv) (wh := 2) ⟨by omega, by omega⟩ ⟨by omega, by omega⟩ hR) ?_
      show m_Sem X 58 (94, [some (.inr (.inl 0)), some (.inr (.inl 13)), some (.inr (.inl 14)), some (.inl (u + 1)), some (.inl 1), some (.inl iv), some (.inl (wcdL (witS n tb iv)))], [.inl (lawS n tb iv 2)], mW (n, T, h, t, x) (.inl (0, 1, .inl g) :: .inl (2, 9, .inr f) :: J), 0, 0) _
      refine m_run 1 (ps' := (96, [some (.inr (.inl 0)), some (.inr (.inl 13)), some (.inr (.inl 14)), some (.inl (u + 1)), some (.inl 1), some (.inl iv), some (.inl (wcdL (witS n tb iv)))], [.inl (wcdL (witS n tb iv)), .inl (lawS n tb iv 2)], mW (n, T, h, t, x) (.inl (0, 1, .inl g) :: .inl (2, 9, .inr f) :: J), 0, 0)) rfl ?_
      refine m_if rfl ⟨by omega, by omega⟩ (fun (zc8 : 0 ≤ (wcdL (witS n tb iv))) => absurd zc8 (by omega)) (fun (zc8 : ¬ 0 ≤ (wcdL (witS n tb iv))) => ?_)
      refine m_run 2 (ps' := (112, [some (.inr (.inl 0)), some (.inr (.inl 13)), some (.inr (.inl 14)), some (.inl (u + 1)), some (.inl 1), some (.inl iv), some (.inl (wcdL (witS n tb iv)))], [.inl (-1000004), .inl (lawS n tb iv 2)], mW (n, T, h, t, x) (.inl (0, 1, .inl g) :: .inl (2, 9, .inr f) :: J), 0, 0)) rfl ?_
      refine m_icmp rfl ⟨by omega, by omega⟩ ⟨by omega, by omega⟩ (fun (zc9 : ¬ (lawS n tb iv 2) = (-1000004)) => absurd zc9 (by omega)) (fun (zc9 : ¬ ¬ (lawS n tb iv 2) = (-1000004)) => ?_)
      replace zc9 : (lawS n tb iv 2) = (-1000004) := Decidable.not_not.mp zc9
      refine m_run 3 (ps' := (119, [some (.inr (.inl 0)), some (.inr (.inl 13)), some (.inr (.inl 14)), some (.inl (u + 1)), some (.inl 1), some (.inl iv), some (.inl (wcdL (witS n tb iv)))], [.inl 3, .inl iv, .inr (.inl 0)], mW (n, T, h, t, x) (.inl (0, 1, .inl g) :: .inl (2, 9, .inr f) :: J), 0, 0)) rfl ?_
      refine m_callVF [.inl iv, .inl 3] [] rfl rfl ⟨_, rfl, rfl⟩ rfl rfl (k_law (l := iv) (wh := 3) ⟨by omega, by omega⟩ ⟨by omega, by omega⟩ hR) ?_
      show m_Sem X 58 (122, [some (.inr (.inl 0)), some (.inr (.inl 13)), some (.inr (.inl 14)), some (.inl (u + 1)), some (.inl 1), some (.inl iv), some (.inl (wcdL (witS n tb iv)))], [.inl (lawS n tb iv 3)], mW (n, T, h, t, x) (.inl (0, 1, .inl g) :: .inl (2, 9, .inr f) :: J), 0, 0) _
      refine m_run 1 (ps' := (124, [some (.inr (.inl 0)), some (.inr (.inl 13)), some (.inr (.inl 14)), some (.inl (u + 1)), some (.inl 1), some (.inl iv), some (.inl (wcdL (witS n tb iv)))], [.inl (wcdL (witS n tb iv)), .inl (lawS n tb iv 3)], mW (n, T, h, t, x) (.inl (0, 1, .inl g) :: .inl (2, 9, .inr f) :: J), 0, 0)) rfl ?_
      refine m_if rfl ⟨by omega, by omega⟩ (fun (zc10 : 0 ≤ (wcdL (witS n tb iv))) => absurd zc10 (by omega)) (fun (zc10 : ¬ 0 ≤ (wcdL (witS n tb iv))) => ?_)
      refine m_run 2 (ps' := (137, [some (.inr (.inl 0)), some (.inr (.inl 13)), some (.inr (.inl 14)), some (.inl (u + 1)), some (.inl 1), some (.inl iv), some (.inl (wcdL (witS n tb iv)))], [.inl (-1000004), .inl (lawS n tb iv 3)], mW (n, T, h, t, x) (.inl (0, 1, .inl g) :: .inl (2, 9, .inr f) :: J), 0, 0)) rfl ?_
      refine m_icmp rfl ⟨by omega, by omega⟩ ⟨by omega, by omega⟩ (fun (zc11 : ¬ (lawS n tb iv 3) = (-1000004)) => absurd zc11 (by omega)) (fun (zc11 : ¬ ¬ (lawS n tb iv 3) = (-1000004)) => ?_)
      replace zc11 : (lawS n tb iv 3) = (-1000004) := Decidable.not_not.mp zc11
      refine m_run 5 (ps' := (8, [some (.inr (.inl 0)), some (.inr (.inl 13)), some (.inr (.inl 14)), some (.inl (u + 1)), some (.inl 1), some (.inl (iv + 1)), some (.inl (wcdL (witS n tb iv)))], [], mW (n, T, h, t, x) (.inl (0, 1, .inl g) :: .inl (2, 9, .inr f) :: J), 0, 0)) rfl ?_
      refine m_weak [some (.inr (.inl 0)), some (.inr (.inl 13)), some (.inr (.inl 14)), some (.inl (u + 1)), some (.inl 1), some (.inl (iv + 1)), none] ⟨rfl, ⟨rfl, ⟨rfl, ⟨rfl, ⟨rfl, ⟨rfl, trivial⟩⟩⟩⟩⟩⟩ ?_
      rw [if_pos (v5.mpr (by omega))] at hu
      exact ih _ (by omega)
set_option maxHeartbeats 4000000 in
set_option maxRecDepth 100000 in
theorem a_are {X : Nat × Nat × (Nat → Int32)} {n : Int} {T : Int → Int} {h : HS} {t : TS} {x : XS} {g : Int → Int} {f : Nat → Int64} {J : mPW} {tb : Int → Int → Int} (hg : g 0 = n) (hL : repL n f tb) (hR : repC n T tb) : m_Run X 58 [.inr (.inl 0), .inr (.inl 13), .inr (.inl 14)] (mW (n, T, h, t, x) (.inl (0, 1, .inl g) :: .inl (2, 9, .inr f) :: J)) (m_V 1 (mW (n, T, h, t, x) (.inl (0, 1, .inl g) :: .inl (2, 9, .inr f) :: J))) := by
  have hn := hL.1
  have hl := okN_lo hn
  show m_Sem X 58 (0, [some (.inr (.inl 0)), some (.inr (.inl 13)), some (.inr (.inl 14)), none, none, none, none], [], mW (n, T, h, t, x) (.inl (0, 1, .inl g) :: .inl (2, 9, .inr f) :: J), 0, 0) _
  refine m_run 6 (ps' := (8, [some (.inr (.inl 0)), some (.inr (.inl 13)), some (.inr (.inl 14)), some (.inl 0), some (.inl 1), some (.inl 0), none], [], mW (n, T, h, t, x) (.inl (0, 1, .inl g) :: .inl (2, 9, .inr f) :: J), 0, 0)) rfl ?_
  refine m_weak [some (.inr (.inl 0)), some (.inr (.inl 13)), some (.inr (.inl 14)), some (.inl 0), some (.inl 1), some (.inl 0), none] ⟨rfl, ⟨rfl, ⟨rfl, ⟨rfl, ⟨rfl, ⟨rfl, trivial⟩⟩⟩⟩⟩⟩ ?_
  exact a_arL hg hL hR 0 (by omega) (by omega) 0 (by rw [Int.zero_add]; rfl)
def bp (b : Bool) (a : Int) : Int := bif b then ((2 ^ a.toNat : Nat) : Int) else 0
theorem els_sum (p : Int → Bool) : ∀ (k : Nat) (i : Int) (s : Nat), 0 ≤ i → s < 2 ^ i.toNat → elsK p k i s = (s : Int) + sumF (fun a => bp (p a) a) k i ∧ 0 ≤ elsK p k i s ∧ elsK p k i s < ((2 ^ (i.toNat + k) : Nat) : Int)
  | 0, i, s, h0, hs => by
    refine ⟨(Int.add_zero _).symm, Int.natCast_nonneg s, ?_⟩
    rw [Nat.add_zero]
    exact Int.ofNat_lt.mpr hs
  | k + 1, i, s, h0, hs => by
    have e1 : (i + 1).toNat = i.toNat + 1 := by omega
    have hp : (2 : Nat) ^ (i.toNat + 1) = 2 ^ i.toNat * 2 := Nat.pow_succ 2 i.toNat
    have ih := fun s2 hs2 => els_sum p k (i + 1) s2 (by omega) hs2
    rw [e1, show i.toNat + 1 + k = i.toNat + (k + 1) by omega] at ih
    show elsK p k (i + 1) (bif p i then s ||| 2 ^ i.toNat else s) = (s : Int) + (bp (p i) i + sumF (fun a => bp (p a) a) k (i + 1)) ∧ 0 ≤ elsK p k (i + 1) (bif p i then s ||| 2 ^ i.toNat else s) ∧ elsK p k (i + 1) (bif p i then s ||| 2 ^ i.toNat else s) < _
    cases h : p i with
    | true =>
      rw [cond_true, or_add hs]
      have h2 := ih (s + 2 ^ i.toNat) (by omega)
      refine ⟨?_, h2.2⟩
      rw [h2.1, Int.natCast_add]
      show _ = (s : Int) + (((2 ^ i.toNat : Nat) : Int) + _)
      omega
    | false =>
      rw [cond_false]
      have h2 := ih s (by omega)
      refine ⟨?_, h2.2⟩
      rw [h2.1]
      show _ = (s : Int) + (0 + _)
      omega
def elC (n : Int) (tb : Int → Int → Int) (j a b : Int) : Bool := if j = 0 then holdsS n tb 5 a b 0 else if j = 1 then allF (fun c => holdsS n tb 3 b c a) n.toNat 0 else allF (fun c => holdsS n tb 4 a b c) n.toNat 0
def elA (n : Int) (tb : Int → Int → Int) (j a : Int) : Bool := allF (elC n tb j a) n.toNat 0
theorem isIn_elA {n : Int} {tb : Int → Int → Int} {j a : Int} (h1 : 0 ≤ j) (h2 : j < 3) : isInS n tb j a = elA n tb j a := by
  unfold isInS elA
  refine all_congr _ _ (fun b _ _ => ?_)
  unfold isInR elC
  rcases (show j = 0 ∨ j = 1 ∨ j = 2 by omega) with rfl | rfl | rfl
  · rw [if_pos rfl, if_pos rfl]
    show (fitsS n tb 0 a b 0 && true) = _
    rw [Bool.and_true]
    rfl
  · rfl
  · rfl
theorem elm_v {n : Int} {tb : Int → Int → Int} {j : Int} (hn : okN n) (h1 : 0 ≤ j) (h2 : j < 3) : elmS n tb j = sumF (fun a => bp (elA n tb j a) a) n.toNat 0 ∧ 0 ≤ elmS n tb j ∧ elmS n tb j < 512 := by
  have hl := okN_lo hn
  have e : elmS n tb j = elsK (isInS n tb j) n.toNat 0 0 := by unfold elmS; rw [if_neg (by omega), if_neg (by omega)]
  have h := els_sum (isInS n tb j) n.toNat 0 0 (by omega) (by decide)
  rw [e]
  refine ⟨?_, h.2.1, Int.lt_of_lt_of_le h.2.2 ?_⟩
  · rw [h.1]
    show (0 : Int) + _ = _
    rw [Int.zero_add]
    exact sum_congr _ _ (fun a _ _ => by rw [isIn_elA h1 h2])
  · have h3 : (2 : Nat) ^ ((0 : Int).toNat + n.toNat) ≤ 2 ^ 9 := Nat.pow_le_pow_right (by decide) (by omega)
    have h4 : (2 : Nat) ^ 9 = 512 := by decide
    omega
theorem elm_i {n : Int} {tb : Int → Int → Int} : elmS n tb 3 = -1000001 := by unfold elmS; simp
theorem all_s {p : Int → Bool} {n i : Int} (h : i < n) : allF p (n - i).toNat i = (p i && allF p (n - (i + 1)).toNat (i + 1)) := by rw [nat_step h]; rfl
set_option maxHeartbeats 4000000 in
set_option maxRecDepth 100000 in
theorem a_elC {X : Nat × Nat × (Nat → Int32)} {n : Int} {T : Int → Int} {h : HS} {t : TS} {x : XS} {g : Int → Int} {f : Nat → Int64} {J : mPW} {tb : Int → Int → Int} {p q r a b : Int} {o1 v2 v3 : Bool} {Q : Option mPV → mPW → Prop} (hg : g 0 = n) (hL : repL n f tb) (ha : 0 ≤ a) (ha2 : a < n) (hb : 0 ≤ b) (hb2 : b < n) (K : m_Sem X 59 (34, [some (.inr (.inl 0)), some (.inr (.inl 13)), some (.inr (.inl 14)), some (.inl n), some (.inl p), some (.inl q), some (.inl r), some (.inl a), some (.inl (bI o1)), some (.inl (bI v2)), some (.inl (bI v3)), some (.inl (b + 1)), none], [], mW (n, T, h, t, x) (.inl (0, 1, .inl g) :: .inl (2, 9, .inr f) :: J), 0, 0) Q) : ∀ c : Int, 0 ≤ c → c ≤ n → ∀ (o2 : Bool) (o3 : Bool) (hu2 : v2 = (o2 && allF (fun c => holdsS n tb 3 b c a) (n - c).toNat c)) (hu3 : v3 = (o3 && allF (fun c => holdsS n tb 4 a b c) (n - c).toNat c)), m_Sem X 59 (69, [some (.inr (.inl 0)), some (.inr (.inl 13)), some (.inr (.inl 14)), some (.inl n), some (.inl p), some (.inl q), some (.inl r), some (.inl a), some (.inl (bI o1)), some (.inl (bI o2)), some (.inl (bI o3)), some (.inl b), some (.inl c)], [], mW (n, T, h, t, x) (.inl (0, 1, .inl g) :: .inl (2, 9, .inr f) :: J), 0, 0) (Q) := by
  have hn := hL.1
  have hl := okN_lo hn
  refine m_down 0 n ?_ ?_
  · intro o2 o3 hu2 hu3
    rw [all_end, Bool.and_true] at hu2 hu3
    subst hu2
    subst hu3
    show m_Sem X 59 (69, [some (.inr (.inl 0)), some (.inr (.inl 13)), some (.inr (.inl 14)), some (.inl n), some (.inl p), some (.inl q), some (.inl r), some (.inl a), some (.inl (bI o1)), some (.inl (bI o2)), some (.inl (bI o3)), some (.inl b), some (.inl n)], [], mW (n, T, h, t, x) (.inl (0, 1, .inl g) :: .inl (2, 9, .inr f) :: J), 0, 0) _
    refine m_run 2 (ps' := (72, [some (.inr (.inl 0)), some (.inr (.inl 13)), some (.inr (.inl 14)), some (.inl n), some (.inl p), some (.inl q), some (.inl r), some (.inl a), some (.inl (bI o1)), some (.inl (bI o2)), some (.inl (bI o3)), some (.inl b), some (.inl n)], [.inl n, .inl n], mW (n, T, h, t, x) (.inl (0, 1, .inl g) :: .inl (2, 9, .inr f) :: J), 0, 0)) rfl ?_
    refine m_icmp rfl ⟨by omega, by omega⟩ ⟨by omega, by omega⟩ (fun (zc1 : n ≤ n) => ?_) (fun (zc1 : ¬ n ≤ n) => absurd zc1 (not_not_intro (by omega)))
    refine m_run 2 (ps' := (34, [some (.inr (.inl 0)), some (.inr (.inl 13)), some (.inr (.inl 14)), some (.inl n), some (.inl p), some (.inl q), some (.inl r), some (.inl a), some (.inl (bI o1)), some (.inl (bI o2)), some (.inl (bI o3)), some (.inl (b + 1)), some (.inl n)], [], mW (n, T, h, t, x) (.inl (0, 1, .inl g) :: .inl (2, 9, .inr f) :: J), 0, 0)) rfl ?_
    refine m_weak [some (.inr (.inl 0)), some (.inr (.inl 13)), some (.inr (.inl 14)), some (.inl n), some (.inl p), some (.inl q), some (.inl r), some (.inl a), some (.inl (bI o1)), some (.inl (bI o2)), some (.inl (bI o3)), some (.inl (b + 1)), none] ⟨rfl, ⟨rfl, ⟨rfl, ⟨rfl, ⟨rfl, ⟨rfl, ⟨rfl, ⟨rfl, ⟨rfl, ⟨rfl, ⟨rfl, ⟨rfl, trivial⟩⟩⟩⟩⟩⟩⟩⟩⟩⟩⟩⟩ ?_
    exact K
  · intro c hi1 hi2 ih o2 o3 hu2 hu3
    rw [all_s hi2] at hu2 hu3
    refine m_run 2 (ps' := (72, [some (.inr (.inl 0)), some (.inr (.inl 13)), some (.inr (.inl 14)), some (.inl n), some (.inl p), some (.inl q), some (.inl r), some (.inl a), some (.inl (bI o1)), some (.inl (bI o2)), some (.inl (bI o3)), some (.inl b), some (.inl c)], [.inl n, .inl c], mW (n, T, h, t, x) (.inl (0, 1, .inl g) :: .inl (2, 9, .inr f) :: J), 0, 0)) rfl ?_
    refine m_icmp rfl ⟨by omega, by omega⟩ ⟨by omega, by omega⟩ (fun (zc1 : n ≤ c) => absurd zc1 (by omega)) (fun (zc1 : ¬ n ≤ c) => ?_)
    refine m_run 1 (ps' := (77, [some (.inr (.inl 0)), some (.inr (.inl 13)), some (.inr (.inl 14)), some (.inl n), some (.inl p), some (.inl q), some (.inl r), some (.inl a), some (.inl (bI o1)), some (.inl (bI o2)), some (.inl (bI o3)), some (.inl b), some (.inl c)], [.inl (bI o2)], mW (n, T, h, t, x) (.inl (0, 1, .inl g) :: .inl (2, 9, .inr f) :: J), 0, 0)) rfl ?_
    refine m_if rfl (bI_R _) (fun (zc2 : (bI o2) = 0) => ?_) (fun (zc2 : ¬ (bI o2) = 0) => ?_)
    · replace zc2 : o2 = false := bI_e0.mp zc2
      refine m_run 3 (ps' := (104, [some (.inr (.inl 0)), some (.inr (.inl 13)), some (.inr (.inl 14)), some (.inl n), some (.inl p), some (.inl q), some (.inl r), some (.inl a), some (.inl (bI o1)), some (.inl 0), some (.inl (bI o3)), some (.inl b), some (.inl c)], [.inl (bI o3)], mW (n, T, h, t, x) (.inl (0, 1, .inl g) :: .inl (2, 9, .inr f) :: J), 0, 0)) rfl ?_
      refine m_if rfl (bI_R _) (fun (zc3 : (bI o3) = 0) => ?_) (fun (zc3 : ¬ (bI o3) = 0) => ?_)
      · replace zc3 : o3 = false := bI_e0.mp zc3
        refine m_run 4 (ps' := (69, [some (.inr (.inl 0)), some (.inr (.inl 13)), some (.inr (.inl 14)), some (.inl n), some (.inl p), some (.inl q), some (.inl r), some (.inl a), some (.inl (bI o1)), some (.inl 0), some (.inl 0), some (.inl b), some (.inl (c + 1))], [], mW (n, T, h, t, x) (.inl (0, 1, .inl g) :: .inl (2, 9, .inr f) :: J), 0, 0)) rfl ?_
        refine m_weak [some (.inr (.inl 0)), some (.inr (.inl 13)), some (.inr (.inl 14)), some (.inl n), some (.inl p), some (.inl q), some (.inl r), some (.inl a), some (.inl (bI o1)), some (.inl 0), some (.inl 0), some (.inl b), some (.inl (c + 1))] ⟨rfl, ⟨rfl, ⟨rfl, ⟨rfl, ⟨rfl, ⟨rfl, ⟨rfl, ⟨rfl, ⟨rfl, ⟨rfl, ⟨rfl, ⟨rfl, ⟨rfl, trivial⟩⟩⟩⟩⟩⟩⟩⟩⟩⟩⟩⟩⟩ ?_
        exact ih false false (by simp [*]) (by simp [*])
      · replace zc3 : o3 = true := bI_n0.mp zc3
        refine m_run 6 (ps' := (116, [some (.inr (.inl 0)), some (.inr (.inl 13)), some (.inr (.inl 14)), some (.inl n), some (.inl p), some (.inl q), some (.inl r), some (.inl a), some (.inl (bI o1)), some (.inl 0), some (.inl (bI o3)), some (.inl b), some (.inl c)], [.inl c, .inl b, .inl a, .inl 4, .inr (.inl 14), .inr (.inl 13)], mW (n, T, h, t, x) (.inl (0, 1, .inl g) :: .inl (2, 9, .inr f) :: J), 0, 0)) rfl ?_
        refine m_callSF [.inr (.inl 13), .inr (.inl 14), .inl 4, .inl a, .inl b, .inl c] [] rfl rfl rfl (a_hold (law := 4) (a := a) (b := b) (c := c) hg hL (by omega) (by omega) (by omega) (by omega) (by omega) (by omega) (by omega) (by omega)) ?_
        show m_Sem X 59 (119, [some (.inr (.inl 0)), some (.inr (.inl 13)), some (.inr (.inl 14)), some (.inl n), some (.inl p), some (.inl q), some (.inl r), some (.inl a), some (.inl (bI o1)), some (.inl 0), some (.inl (bI o3)), some (.inl b), some (.inl c)], [.inl (bI (holdsS n tb 4 a b c))], mW (n, T, h, t, x) (.inl (0, 1, .inl g) :: .inl (2, 9, .inr f) :: J), 0, 0) _
        refine m_if rfl (bI_R _) (fun (zc4 : (bI (holdsS n tb 4 a b c)) = 0) => ?_) (fun (zc4 : ¬ (bI (holdsS n tb 4 a b c)) = 0) => ?_)
        · replace zc4 : (holdsS n tb 4 a b c) = false := bI_e0.mp zc4
          refine m_run 4 (ps' := (69, [some (.inr (.inl 0)), some (.inr (.inl 13)), some (.inr (.inl 14)), some (.inl n), some (.inl p), some (.inl q), some (.inl r), some (.inl a), some (.inl (bI o1)), some (.inl 0), some (.inl 0), some (.inl b), some (.inl (c + 1))], [], mW (n, T, h, t, x) (.inl (0, 1, .inl g) :: .inl (2, 9, .inr f) :: J), 0, 0)) rfl ?_
          refine m_weak [some (.inr (.inl 0)), some (.inr (.inl 13)), some (.inr (.inl 14)), some (.inl n), some (.inl p), some (.inl q), some (.inl r), some (.inl a), some (.inl (bI o1)), some (.inl 0), some (.inl 0), some (.inl b), some (.inl (c + 1))] ⟨rfl, ⟨rfl, ⟨rfl, ⟨rfl, ⟨rfl, ⟨rfl, ⟨rfl, ⟨rfl, ⟨rfl, ⟨rfl, ⟨rfl, ⟨rfl, ⟨rfl, trivial⟩⟩⟩⟩⟩⟩⟩⟩⟩⟩⟩⟩⟩ ?_
          exact ih false false (by simp [*]) (by simp [*])
        · replace zc4 : (holdsS n tb 4 a b c) = true := bI_n0.mp zc4
          refine m_run 5 (ps' := (69, [some (.inr (.inl 0)), some (.inr (.inl 13)), some (.inr (.inl 14)), some (.inl n), some (.inl p), some (.inl q), some (.inl r), some (.inl a), some (.inl (bI o1)), some (.inl 0), some (.inl 1), some (.inl b), some (.inl (c + 1))], [], mW (n, T, h, t, x) (.inl (0, 1, .inl g) :: .inl (2, 9, .inr f) :: J), 0, 0)) rfl ?_
          refine m_weak [some (.inr (.inl 0)), some (.inr (.inl 13)), some (.inr (.inl 14)), some (.inl n), some (.inl p), some (.inl q), some (.inl r), some (.inl a), some (.inl (bI o1)), some (.inl 0), some (.inl 1), some (.inl b), some (.inl (c + 1))] ⟨rfl, ⟨rfl, ⟨rfl, ⟨rfl, ⟨rfl, ⟨rfl, ⟨rfl, ⟨rfl, ⟨rfl, ⟨rfl, ⟨rfl, ⟨rfl, ⟨rfl, trivial⟩⟩⟩⟩⟩⟩⟩⟩⟩⟩⟩⟩⟩ ?_
          exact ih false true (by simp [*]) (by simp [*])
    · replace zc2 : o2 = true := bI_n0.mp zc2
      refine m_run 6 (ps' := (89, [some (.inr (.inl 0)), some (.inr (.inl 13)), some (.inr (.inl 14)), some (.inl n), some (.inl p), some (.inl q), some (.inl r), some (.inl a), some (.inl (bI o1)), some (.inl (bI o2)), some (.inl (bI o3)), some (.inl b), some (.inl c)], [.inl a, .inl c, .inl b, .inl 3, .inr (.inl 14), .inr (.inl 13)], mW (n, T, h, t, x) (.inl (0, 1, .inl g) :: .inl (2, 9, .inr f) :: J), 0, 0)) rfl ?_
      refine m_callSF [.inr (.inl 13), .inr (.inl 14), .inl 3, .inl b, .inl c, .inl a] [] rfl rfl rfl (a_hold (law := 3) (a := b) (b := c) (c := a) hg hL (by omega) (by omega) (by omega) (by omega) (by omega) (by omega) (by omega) (by omega)) ?_
      show m_Sem X 59 (92, [some (.inr (.inl 0)), some (.inr (.inl 13)), some (.inr (.inl 14)), some (.inl n), some (.inl p), some (.inl q), some (.inl r), some (.inl a), some (.inl (bI o1)), some (.inl (bI o2)), some (.inl (bI o3)), some (.inl b), some (.inl c)], [.inl (bI (holdsS n tb 3 b c a))], mW (n, T, h, t, x) (.inl (0, 1, .inl g) :: .inl (2, 9, .inr f) :: J), 0, 0) _
      refine m_if rfl (bI_R _) (fun (zc3 : (bI (holdsS n tb 3 b c a)) = 0) => ?_) (fun (zc3 : ¬ (bI (holdsS n tb 3 b c a)) = 0) => ?_)
      · replace zc3 : (holdsS n tb 3 b c a) = false := bI_e0.mp zc3
        refine m_run 3 (ps' := (104, [some (.inr (.inl 0)), some (.inr (.inl 13)), some (.inr (.inl 14)), some (.inl n), some (.inl p), some (.inl q), some (.inl r), some (.inl a), some (.inl (bI o1)), some (.inl 0), some (.inl (bI o3)), some (.inl b), some (.inl c)], [.inl (bI o3)], mW (n, T, h, t, x) (.inl (0, 1, .inl g) :: .inl (2, 9, .inr f) :: J), 0, 0)) rfl ?_
        refine m_if rfl (bI_R _) (fun (zc4 : (bI o3) = 0) => ?_) (fun (zc4 : ¬ (bI o3) = 0) => ?_)
        · replace zc4 : o3 = false := bI_e0.mp zc4
          refine m_run 4 (ps' := (69, [some (.inr (.inl 0)), some (.inr (.inl 13)), some (.inr (.inl 14)), some (.inl n), some (.inl p), some (.inl q), some (.inl r), some (.inl a), some (.inl (bI o1)), some (.inl 0), some (.inl 0), some (.inl b), some (.inl (c + 1))], [], mW (n, T, h, t, x) (.inl (0, 1, .inl g) :: .inl (2, 9, .inr f) :: J), 0, 0)) rfl ?_
          refine m_weak [some (.inr (.inl 0)), some (.inr (.inl 13)), some (.inr (.inl 14)), some (.inl n), some (.inl p), some (.inl q), some (.inl r), some (.inl a), some (.inl (bI o1)), some (.inl 0), some (.inl 0), some (.inl b), some (.inl (c + 1))] ⟨rfl, ⟨rfl, ⟨rfl, ⟨rfl, ⟨rfl, ⟨rfl, ⟨rfl, ⟨rfl, ⟨rfl, ⟨rfl, ⟨rfl, ⟨rfl, ⟨rfl, trivial⟩⟩⟩⟩⟩⟩⟩⟩⟩⟩⟩⟩⟩ ?_
          exact ih false false (by simp [*]) (by simp [*])
        · replace zc4 : o3 = true := bI_n0.mp zc4
          refine m_run 6 (ps' := (116, [some (.inr (.inl 0)), some (.inr (.inl 13)), some (.inr (.inl 14)), some (.inl n), some (.inl p), some (.inl q), some (.inl r), some (.inl a), some (.inl (bI o1)), some (.inl 0), some (.inl (bI o3)), some (.inl b), some (.inl c)], [.inl c, .inl b, .inl a, .inl 4, .inr (.inl 14), .inr (.inl 13)], mW (n, T, h, t, x) (.inl (0, 1, .inl g) :: .inl (2, 9, .inr f) :: J), 0, 0)) rfl ?_
          refine m_callSF [.inr (.inl 13), .inr (.inl 14), .inl 4, .inl a, .inl b, .inl c] [] rfl rfl rfl (a_hold (law := 4) (a := a) (b := b) (c := c) hg hL (by omega) (by omega) (by omega) (by omega) (by omega) (by omega) (by omega) (by omega)) ?_
          show m_Sem X 59 (119, [some (.inr (.inl 0)), some (.inr (.inl 13)), some (.inr (.inl 14)), some (.inl n), some (.inl p), some (.inl q), some (.inl r), some (.inl a), some (.inl (bI o1)), some (.inl 0), some (.inl (bI o3)), some (.inl b), some (.inl c)], [.inl (bI (holdsS n tb 4 a b c))], mW (n, T, h, t, x) (.inl (0, 1, .inl g) :: .inl (2, 9, .inr f) :: J), 0, 0) _
          refine m_if rfl (bI_R _) (fun (zc5 : (bI (holdsS n tb 4 a b c)) = 0) => ?_) (fun (zc5 : ¬ (bI (holdsS n tb 4 a b c)) = 0) => ?_)
          · replace zc5 : (holdsS n tb 4 a b c) = false := bI_e0.mp zc5
            refine m_run 4 (ps' := (69, [some (.inr (.inl 0)), some (.inr (.inl 13)), some (.inr (.inl 14)), some (.inl n), some (.inl p), some (.inl q), some (.inl r), some (.inl a), some (.inl (bI o1)), some (.inl 0), some (.inl 0), some (.inl b), some (.inl (c + 1))], [], mW (n, T, h, t, x) (.inl (0, 1, .inl g) :: .inl (2, 9, .inr f) :: J), 0, 0)) rfl ?_
            refine m_weak [some (.inr (.inl 0)), some (.inr (.inl 13)), some (.inr (.inl 14)), some (.inl n), some (.inl p), some (.inl q), some (.inl r), some (.inl a), some (.inl (bI o1)), some (.inl 0), some (.inl 0), some (.inl b), some (.inl (c + 1))] ⟨rfl, ⟨rfl, ⟨rfl, ⟨rfl, ⟨rfl, ⟨rfl, ⟨rfl, ⟨rfl, ⟨rfl, ⟨rfl, ⟨rfl, ⟨rfl, ⟨rfl, trivial⟩⟩⟩⟩⟩⟩⟩⟩⟩⟩⟩⟩⟩ ?_
            exact ih false false (by simp [*]) (by simp [*])
          · replace zc5 : (holdsS n tb 4 a b c) = true := bI_n0.mp zc5
            refine m_run 5 (ps' := (69, [some (.inr (.inl 0)), some (.inr (.inl 13)), some (.inr (.inl 14)), some (.inl n), some (.inl p), some (.inl q), some (.inl r), some (.inl a), some (.inl (bI o1)), some (.inl 0), some (.inl 1), some (.inl b), some (.inl (c + 1))], [], mW (n, T, h, t, x) (.inl (0, 1, .inl g) :: .inl (2, 9, .inr f) :: J), 0, 0)) rfl ?_
            refine m_weak [some (.inr (.inl 0)), some (.inr (.inl 13)), some (.inr (.inl 14)), some (.inl n), some (.inl p), some (.inl q), some (.inl r), some (.inl a), some (.inl (bI o1)), some (.inl 0), some (.inl 1), some (.inl b), some (.inl (c + 1))] ⟨rfl, ⟨rfl, ⟨rfl, ⟨rfl, ⟨rfl, ⟨rfl, ⟨rfl, ⟨rfl, ⟨rfl, ⟨rfl, ⟨rfl, ⟨rfl, ⟨rfl, trivial⟩⟩⟩⟩⟩⟩⟩⟩⟩⟩⟩⟩⟩ ?_
            exact ih false true (by simp [*]) (by simp [*])
      · replace zc3 : (holdsS n tb 3 b c a) = true := bI_n0.mp zc3
        refine m_run 4 (ps' := (104, [some (.inr (.inl 0)), some (.inr (.inl 13)), some (.inr (.inl 14)), some (.inl n), some (.inl p), some (.inl q), some (.inl r), some (.inl a), some (.inl (bI o1)), some (.inl 1), some (.inl (bI o3)), some (.inl b), some (.inl c)], [.inl (bI o3)], mW (n, T, h, t, x) (.inl (0, 1, .inl g) :: .inl (2, 9, .inr f) :: J), 0, 0)) rfl ?_
        refine m_if rfl (bI_R _) (fun (zc4 : (bI o3) = 0) => ?_) (fun (zc4 : ¬ (bI o3) = 0) => ?_)
        · replace zc4 : o3 = false := bI_e0.mp zc4
          refine m_run 4 (ps' := (69, [some (.inr (.inl 0)), some (.inr (.inl 13)), some (.inr (.inl 14)), some (.inl n), some (.inl p), some (.inl q), some (.inl r), some (.inl a), some (.inl (bI o1)), some (.inl 1), some (.inl 0), some (.inl b), some (.inl (c + 1))], [], mW (n, T, h, t, x) (.inl (0, 1, .inl g) :: .inl (2, 9, .inr f) :: J), 0, 0)) rfl ?_
          refine m_weak [some (.inr (.inl 0)), some (.inr (.inl 13)), some (.inr (.inl 14)), some (.inl n), some (.inl p), some (.inl q), some (.inl r), some (.inl a), some (.inl (bI o1)), some (.inl 1), some (.inl 0), some (.inl b), some (.inl (c + 1))] ⟨rfl, ⟨rfl, ⟨rfl, ⟨rfl, ⟨rfl, ⟨rfl, ⟨rfl, ⟨rfl, ⟨rfl, ⟨rfl, ⟨rfl, ⟨rfl, ⟨rfl, trivial⟩⟩⟩⟩⟩⟩⟩⟩⟩⟩⟩⟩⟩ ?_
          exact ih true false (by simp [*]) (by simp [*])
        · replace zc4 : o3 = true := bI_n0.mp zc4
          refine m_run 6 (ps' := (116, [some (.inr (.inl 0)), some (.inr (.inl 13)), some (.inr (.inl 14)), some (.inl n), some (.inl p), some (.inl q), some (.inl r), some (.inl a), some (.inl (bI o1)), some (.inl 1), some (.inl (bI o3)), some (.inl b), some (.inl c)], [.inl c, .inl b, .inl a, .inl 4, .inr (.inl 14), .inr (.inl 13)], mW (n, T, h, t, x) (.inl (0, 1, .inl g) :: .inl (2, 9, .inr f) :: J), 0, 0)) rfl ?_
          refine m_callSF [.inr (.inl 13), .inr (.inl 14), .inl 4, .inl a, .inl b, .inl c] [] rfl rfl rfl (a_hold (law := 4) (a := a) (b := b) (c := c) hg hL (by omega) (by omega) (by omega) (by omega) (by omega) (by omega) (by omega) (by omega)) ?_
          show m_Sem X 59 (119, [some (.inr (.inl 0)), some (.inr (.inl 13)), some (.inr (.inl 14)), some (.inl n), some (.inl p), some (.inl q), some (.inl r), some (.inl a), some (.inl (bI o1)), some (.inl 1), some (.inl (bI o3)), some (.inl b), some (.inl c)], [.inl (bI (holdsS n tb 4 a b c))], mW (n, T, h, t, x) (.inl (0, 1, .inl g) :: .inl (2, 9, .inr f) :: J), 0, 0) _
          refine m_if rfl (bI_R _) (fun (zc5 : (bI (holdsS n tb 4 a b c)) = 0) => ?_) (fun (zc5 : ¬ (bI (holdsS n tb 4 a b c)) = 0) => ?_)
          · replace zc5 : (holdsS n tb 4 a b c) = false := bI_e0.mp zc5
            refine m_run 4 (ps' := (69, [some (.inr (.inl 0)), some (.inr (.inl 13)), some (.inr (.inl 14)), some (.inl n), some (.inl p), some (.inl q), some (.inl r), some (.inl a), some (.inl (bI o1)), some (.inl 1), some (.inl 0), some (.inl b), some (.inl (c + 1))], [], mW (n, T, h, t, x) (.inl (0, 1, .inl g) :: .inl (2, 9, .inr f) :: J), 0, 0)) rfl ?_
            refine m_weak [some (.inr (.inl 0)), some (.inr (.inl 13)), some (.inr (.inl 14)), some (.inl n), some (.inl p), some (.inl q), some (.inl r), some (.inl a), some (.inl (bI o1)), some (.inl 1), some (.inl 0), some (.inl b), some (.inl (c + 1))] ⟨rfl, ⟨rfl, ⟨rfl, ⟨rfl, ⟨rfl, ⟨rfl, ⟨rfl, ⟨rfl, ⟨rfl, ⟨rfl, ⟨rfl, ⟨rfl, ⟨rfl, trivial⟩⟩⟩⟩⟩⟩⟩⟩⟩⟩⟩⟩⟩ ?_
            exact ih true false (by simp [*]) (by simp [*])
          · replace zc5 : (holdsS n tb 4 a b c) = true := bI_n0.mp zc5
            refine m_run 5 (ps' := (69, [some (.inr (.inl 0)), some (.inr (.inl 13)), some (.inr (.inl 14)), some (.inl n), some (.inl p), some (.inl q), some (.inl r), some (.inl a), some (.inl (bI o1)), some (.inl 1), some (.inl 1), some (.inl b), some (.inl (c + 1))], [], mW (n, T, h, t, x) (.inl (0, 1, .inl g) :: .inl (2, 9, .inr f) :: J), 0, 0)) rfl ?_
            refine m_weak [some (.inr (.inl 0)), some (.inr (.inl 13)), some (.inr (.inl 14)), some (.inl n), some (.inl p), some (.inl q), some (.inl r), some (.inl a), some (.inl (bI o1)), some (.inl 1), some (.inl 1), some (.inl b), some (.inl (c + 1))] ⟨rfl, ⟨rfl, ⟨rfl, ⟨rfl, ⟨rfl, ⟨rfl, ⟨rfl, ⟨rfl, ⟨rfl, ⟨rfl, ⟨rfl, ⟨rfl, ⟨rfl, trivial⟩⟩⟩⟩⟩⟩⟩⟩⟩⟩⟩⟩⟩ ?_
            exact ih true true (by simp [*]) (by simp [*])
set_option maxHeartbeats 4000000 in
set_option maxRecDepth 100000 in
theorem a_elB {X : Nat × Nat × (Nat → Int32)} {n : Int} {T : Int → Int} {h : HS} {t : TS} {x : XS} {g : Int → Int} {f : Nat → Int64} {J : mPW} {tb : Int → Int → Int} {p q r a : Int} {v1 v2 v3 : Bool} {Q : Option mPV → mPW → Prop} (hg : g 0 = n) (hL : repL n f tb) (ha : 0 ≤ a) (ha2 : a < n) (K : m_Sem X 59 (16, [some (.inr (.inl 0)), some (.inr (.inl 13)), some (.inr (.inl 14)), some (.inl n), some (.inl (p + bp v1 a)), some (.inl (q + bp v2 a)), some (.inl (r + bp v3 a)), some (.inl (a + 1)), none, none, none, none, none], [], mW (n, T, h, t, x) (.inl (0, 1, .inl g) :: .inl (2, 9, .inr f) :: J), 0, 0) Q) : ∀ b : Int, 0 ≤ b → b ≤ n → ∀ (o1 : Bool) (o2 : Bool) (o3 : Bool) (hu1 : v1 = (o1 && allF (elC n tb 0 a) (n - b).toNat b)) (hu2 : v2 = (o2 && allF (elC n tb 1 a) (n - b).toNat b)) (hu3 : v3 = (o3 && allF (elC n tb 2 a) (n - b).toNat b)), m_Sem X 59 (34, [some (.inr (.inl 0)), some (.inr (.inl 13)), some (.inr (.inl 14)), some (.inl n), some (.inl p), some (.inl q), some (.inl r), some (.inl a), some (.inl (bI o1)), some (.inl (bI o2)), some (.inl (bI o3)), some (.inl b), none], [], mW (n, T, h, t, x) (.inl (0, 1, .inl g) :: .inl (2, 9, .inr f) :: J), 0, 0) (Q) := by
  have hn := hL.1
  have hl := okN_lo hn
  refine m_down 0 n ?_ ?_
  · intro o1 o2 o3 hu1 hu2 hu3
    rw [all_end, Bool.and_true] at hu1 hu2 hu3
    subst hu1
    subst hu2
    subst hu3
    show m_Sem X 59 (34, [some (.inr (.inl 0)), some (.inr (.inl 13)), some (.inr (.inl 14)), some (.inl n), some (.inl p), some (.inl q), some (.inl r), some (.inl a), some (.inl (bI o1)), some (.inl (bI o2)), some (.inl (bI o3)), some (.inl n), none], [], mW (n, T, h, t, x) (.inl (0, 1, .inl g) :: .inl (2, 9, .inr f) :: J), 0, 0) _
    refine m_run 2 (ps' := (37, [some (.inr (.inl 0)), some (.inr (.inl 13)), some (.inr (.inl 14)), some (.inl n), some (.inl p), some (.inl q), some (.inl r), some (.inl a), some (.inl (bI o1)), some (.inl (bI o2)), some (.inl (bI o3)), some (.inl n), none], [.inl n, .inl n], mW (n, T, h, t, x) (.inl (0, 1, .inl g) :: .inl (2, 9, .inr f) :: J), 0, 0)) rfl ?_
    refine m_icmp rfl ⟨by omega, by omega⟩ ⟨by omega, by omega⟩ (fun (zc1 : n ≤ n) => ?_) (fun (zc1 : ¬ n ≤ n) => absurd zc1 (not_not_intro (by omega)))
    refine m_run 2 (ps' := (145, [some (.inr (.inl 0)), some (.inr (.inl 13)), some (.inr (.inl 14)), some (.inl n), some (.inl p), some (.inl q), some (.inl r), some (.inl a), some (.inl (bI o1)), some (.inl (bI o2)), some (.inl (bI o3)), some (.inl n), none], [.inl (bI o1), .inl p], mW (n, T, h, t, x) (.inl (0, 1, .inl g) :: .inl (2, 9, .inr f) :: J), 0, 0)) rfl ?_
    refine m_if rfl (bI_R _) (fun (zc2 : (bI o1) = 0) => ?_) (fun (zc2 : ¬ (bI o1) = 0) => ?_)
    · replace zc2 : o1 = false := bI_e0.mp zc2
      refine m_run 5 (ps' := (163, [some (.inr (.inl 0)), some (.inr (.inl 13)), some (.inr (.inl 14)), some (.inl n), some (.inl (p + 0)), some (.inl q), some (.inl r), some (.inl a), some (.inl (bI o1)), some (.inl (bI o2)), some (.inl (bI o3)), some (.inl n), none], [.inl (bI o2), .inl q], mW (n, T, h, t, x) (.inl (0, 1, .inl g) :: .inl (2, 9, .inr f) :: J), 0, 0)) rfl ?_
      refine m_if rfl (bI_R _) (fun (zc3 : (bI o2) = 0) => ?_) (fun (zc3 : ¬ (bI o2) = 0) => ?_)
      · replace zc3 : o2 = false := bI_e0.mp zc3
        refine m_run 5 (ps' := (181, [some (.inr (.inl 0)), some (.inr (.inl 13)), some (.inr (.inl 14)), some (.inl n), some (.inl (p + 0)), some (.inl (q + 0)), some (.inl r), some (.inl a), some (.inl (bI o1)), some (.inl (bI o2)), some (.inl (bI o3)), some (.inl n), none], [.inl (bI o3), .inl r], mW (n, T, h, t, x) (.inl (0, 1, .inl g) :: .inl (2, 9, .inr f) :: J), 0, 0)) rfl ?_
        refine m_if rfl (bI_R _) (fun (zc4 : (bI o3) = 0) => ?_) (fun (zc4 : ¬ (bI o3) = 0) => ?_)
        · replace zc4 : o3 = false := bI_e0.mp zc4
          refine m_run 5 (ps' := (16, [some (.inr (.inl 0)), some (.inr (.inl 13)), some (.inr (.inl 14)), some (.inl n), some (.inl (p + 0)), some (.inl (q + 0)), some (.inl (r + 0)), some (.inl (a + 1)), some (.inl (bI o1)), some (.inl (bI o2)), some (.inl (bI o3)), some (.inl n), none], [], mW (n, T, h, t, x) (.inl (0, 1, .inl g) :: .inl (2, 9, .inr f) :: J), 0, 0)) rfl ?_
          refine m_weak [some (.inr (.inl 0)), some (.inr (.inl 13)), some (.inr (.inl 14)), some (.inl n), some (.inl (p + 0)), some (.inl (q + 0)), some (.inl (r + 0)), some (.inl (a + 1)), none, none, none, none, none] ⟨rfl, ⟨rfl, ⟨rfl, ⟨rfl, ⟨rfl, ⟨rfl, ⟨rfl, ⟨rfl, trivial⟩⟩⟩⟩⟩⟩⟩⟩ ?_
          rw [zc2, zc3, zc4] at K
          exact K
        · replace zc4 : o3 = true := bI_n0.mp zc4
          refine m_run 8 (ps' := (16, [some (.inr (.inl 0)), some (.inr (.inl 13)), some (.inr (.inl 14)), some (.inl n), some (.inl (p + 0)), some (.inl (q + 0)), some (.inl (r + (Int32.ofInt 1 <<< (Int32.ofInt a &&& 31)).toInt)), some (.inl (a + 1)), some (.inl (bI o1)), some (.inl (bI o2)), some (.inl (bI o3)), some (.inl n), none], [], mW (n, T, h, t, x) (.inl (0, 1, .inl g) :: .inl (2, 9, .inr f) :: J), 0, 0)) rfl ?_
          refine m_weak [some (.inr (.inl 0)), some (.inr (.inl 13)), some (.inr (.inl 14)), some (.inl n), some (.inl (p + 0)), some (.inl (q + 0)), some (.inl (r + (Int32.ofInt 1 <<< (Int32.ofInt a &&& 31)).toInt)), some (.inl (a + 1)), none, none, none, none, none] ⟨rfl, ⟨rfl, ⟨rfl, ⟨rfl, ⟨rfl, ⟨rfl, ⟨rfl, ⟨rfl, trivial⟩⟩⟩⟩⟩⟩⟩⟩ ?_
          rw [zc2, zc3, zc4] at K
          rw [m_shl1 ha (by omega)]
          exact K
      · replace zc3 : o2 = true := bI_n0.mp zc3
        refine m_run 8 (ps' := (181, [some (.inr (.inl 0)), some (.inr (.inl 13)), some (.inr (.inl 14)), some (.inl n), some (.inl (p + 0)), some (.inl (q + (Int32.ofInt 1 <<< (Int32.ofInt a &&& 31)).toInt)), some (.inl r), some (.inl a), some (.inl (bI o1)), some (.inl (bI o2)), some (.inl (bI o3)), some (.inl n), none], [.inl (bI o3), .inl r], mW (n, T, h, t, x) (.inl (0, 1, .inl g) :: .inl (2, 9, .inr f) :: J), 0, 0)) rfl ?_
        refine m_if rfl (bI_R _) (fun (zc4 : (bI o3) = 0) => ?_) (fun (zc4 : ¬ (bI o3) = 0) => ?_)
        · replace zc4 : o3 = false := bI_e0.mp zc4
          refine m_run 5 (ps' := (16, [some (.inr (.inl 0)), some (.inr (.inl 13)), some (.inr (.inl 14)), some (.inl n), some (.inl (p + 0)), some (.inl (q + (Int32.ofInt 1 <<< (Int32.ofInt a &&& 31)).toInt)), some (.inl (r + 0)), some (.inl (a + 1)), some (.inl (bI o1)), some (.inl (bI o2)), some (.inl (bI o3)), some (.inl n), none], [], mW (n, T, h, t, x) (.inl (0, 1, .inl g) :: .inl (2, 9, .inr f) :: J), 0, 0)) rfl ?_
          refine m_weak [some (.inr (.inl 0)), some (.inr (.inl 13)), some (.inr (.inl 14)), some (.inl n), some (.inl (p + 0)), some (.inl (q + (Int32.ofInt 1 <<< (Int32.ofInt a &&& 31)).toInt)), some (.inl (r + 0)), some (.inl (a + 1)), none, none, none, none, none] ⟨rfl, ⟨rfl, ⟨rfl, ⟨rfl, ⟨rfl, ⟨rfl, ⟨rfl, ⟨rfl, trivial⟩⟩⟩⟩⟩⟩⟩⟩ ?_
          rw [zc2, zc3, zc4] at K
          rw [m_shl1 ha (by omega)]
          exact K
        · replace zc4 : o3 = true := bI_n0.mp zc4
          refine m_run 8 (ps' := (16, [some (.inr (.inl 0)), some (.inr (.inl 13)), some (.inr (.inl 14)), some (.inl n), some (.inl (p + 0)), some (.inl (q + (Int32.ofInt 1 <<< (Int32.ofInt a &&& 31)).toInt)), some (.inl (r + (Int32.ofInt 1 <<< (Int32.ofInt a &&& 31)).toInt)), some (.inl (a + 1)), some (.inl (bI o1)), some (.inl (bI o2)), some (.inl (bI o3)), some (.inl n), none], [], mW (n, T, h, t, x) (.inl (0, 1, .inl g) :: .inl (2, 9, .inr f) :: J), 0, 0)) rfl ?_
          refine m_weak [some (.inr (.inl 0)), some (.inr (.inl 13)), some (.inr (.inl 14)), some (.inl n), some (.inl (p + 0)), some (.inl (q + (Int32.ofInt 1 <<< (Int32.ofInt a &&& 31)).toInt)), some (.inl (r + (Int32.ofInt 1 <<< (Int32.ofInt a &&& 31)).toInt)), some (.inl (a + 1)), none, none, none, none, none] ⟨rfl, ⟨rfl, ⟨rfl, ⟨rfl, ⟨rfl, ⟨rfl, ⟨rfl, ⟨rfl, trivial⟩⟩⟩⟩⟩⟩⟩⟩ ?_
          rw [zc2, zc3, zc4] at K
          rw [m_shl1 ha (by omega)]
          exact K
    · replace zc2 : o1 = true := bI_n0.mp zc2
      refine m_run 8 (ps' := (163, [some (.inr (.inl 0)), some (.inr (.inl 13)), some (.inr (.inl 14)), some (.inl n), some (.inl (p + (Int32.ofInt 1 <<< (Int32.ofInt a &&& 31)).toInt)), some (.inl q), some (.inl r), some (.inl a), some (.inl (bI o1)), some (.inl (bI o2)), some (.inl (bI o3)), some (.inl n), none], [.inl (bI o2), .inl q], mW (n, T, h, t, x) (.inl (0, 1, .inl g) :: .inl (2, 9, .inr f) :: J), 0, 0)) rfl ?_
      refine m_if rfl (bI_R _) (fun (zc3 : (bI o2) = 0) => ?_) (fun (zc3 : ¬ (bI o2) = 0) => ?_)
      · replace zc3 : o2 = false := bI_e0.mp zc3
        refine m_run 5 (ps' := (181, [some (.inr (.inl 0)), some (.inr (.inl 13)), some (.inr (.inl 14)), some (.inl n), some (.inl (p + (Int32.ofInt 1 <<< (Int32.ofInt a &&& 31)).toInt)), some (.inl (q + 0)), some (.inl r), some (.inl a), some (.inl (bI o1)), some (.inl (bI o2)), some (.inl (bI o3)), some (.inl n), none], [.inl (bI o3), .inl r], mW (n, T, h, t, x) (.inl (0, 1, .inl g) :: .inl (2, 9, .inr f) :: J), 0, 0)) rfl ?_
        refine m_if rfl (bI_R _) (fun (zc4 : (bI o3) = 0) => ?_) (fun (zc4 : ¬ (bI o3) = 0) => ?_)
        · replace zc4 : o3 = false := bI_e0.mp zc4
          refine m_run 5 (ps' := (16, [some (.inr (.inl 0)), some (.inr (.inl 13)), some (.inr (.inl 14)), some (.inl n), some (.inl (p + (Int32.ofInt 1 <<< (Int32.ofInt a &&& 31)).toInt)), some (.inl (q + 0)), some (.inl (r + 0)), some (.inl (a + 1)), some (.inl (bI o1)), some (.inl (bI o2)), some (.inl (bI o3)), some (.inl n), none], [], mW (n, T, h, t, x) (.inl (0, 1, .inl g) :: .inl (2, 9, .inr f) :: J), 0, 0)) rfl ?_
          refine m_weak [some (.inr (.inl 0)), some (.inr (.inl 13)), some (.inr (.inl 14)), some (.inl n), some (.inl (p + (Int32.ofInt 1 <<< (Int32.ofInt a &&& 31)).toInt)), some (.inl (q + 0)), some (.inl (r + 0)), some (.inl (a + 1)), none, none, none, none, none] ⟨rfl, ⟨rfl, ⟨rfl, ⟨rfl, ⟨rfl, ⟨rfl, ⟨rfl, ⟨rfl, trivial⟩⟩⟩⟩⟩⟩⟩⟩ ?_
          rw [zc2, zc3, zc4] at K
          rw [m_shl1 ha (by omega)]
          exact K
        · replace zc4 : o3 = true := bI_n0.mp zc4
          refine m_run 8 (ps' := (16, [some (.inr (.inl 0)), some (.inr (.inl 13)), some (.inr (.inl 14)), some (.inl n), some (.inl (p + (Int32.ofInt 1 <<< (Int32.ofInt a &&& 31)).toInt)), some (.inl (q + 0)), some (.inl (r + (Int32.ofInt 1 <<< (Int32.ofInt a &&& 31)).toInt)), some (.inl (a + 1)), some (.inl (bI o1)), some (.inl (bI o2)), some (.inl (bI o3)), some (.inl n), none], [], mW (n, T, h, t, x) (.inl (0, 1, .inl g) :: .inl (2, 9, .inr f) :: J), 0, 0)) rfl ?_
          refine m_weak [some (.inr (.inl 0)), some (.inr (.inl 13)), some (.inr (.inl 14)), some (.inl n), some (.inl (p + (Int32.ofInt 1 <<< (Int32.ofInt a &&& 31)).toInt)), some (.inl (q + 0)), some (.inl (r + (Int32.ofInt 1 <<< (Int32.ofInt a &&& 31)).toInt)), some (.inl (a + 1)), none, none, none, none, none] ⟨rfl, ⟨rfl, ⟨rfl, ⟨rfl, ⟨rfl, ⟨rfl, ⟨rfl, ⟨rfl, trivial⟩⟩⟩⟩⟩⟩⟩⟩ ?_
          rw [zc2, zc3, zc4] at K
          rw [m_shl1 ha (by omega)]
          exact K
      · replace zc3 : o2 = true := bI_n0.mp zc3
        refine m_run 8 (ps' := (181, [some (.inr (.inl 0)), some (.inr (.inl 13)), some (.inr (.inl 14)), some (.inl n), some (.inl (p + (Int32.ofInt 1 <<< (Int32.ofInt a &&& 31)).toInt)), some (.inl (q + (Int32.ofInt 1 <<< (Int32.ofInt a &&& 31)).toInt)), some (.inl r), some (.inl a), some (.inl (bI o1)), some (.inl (bI o2)), some (.inl (bI o3)), some (.inl n), none], [.inl (bI o3), .inl r], mW (n, T, h, t, x) (.inl (0, 1, .inl g) :: .inl (2, 9, .inr f) :: J), 0, 0)) rfl ?_
        refine m_if rfl (bI_R _) (fun (zc4 : (bI o3) = 0) => ?_) (fun (zc4 : ¬ (bI o3) = 0) => ?_)
        · replace zc4 : o3 = false := bI_e0.mp zc4
          refine m_run 5 (ps' := (16, [some (.inr (.inl 0)), some (.inr (.inl 13)), some (.inr (.inl 14)), some (.inl n), some (.inl (p + (Int32.ofInt 1 <<< (Int32.ofInt a &&& 31)).toInt)), some (.inl (q + (Int32.ofInt 1 <<< (Int32.ofInt a &&& 31)).toInt)), some (.inl (r + 0)), some (.inl (a + 1)), some (.inl (bI o1)), some (.inl (bI o2)), some (.inl (bI o3)), some (.inl n), none], [], mW (n, T, h, t, x) (.inl (0, 1, .inl g) :: .inl (2, 9, .inr f) :: J), 0, 0)) rfl ?_
          refine m_weak [some (.inr (.inl 0)), some (.inr (.inl 13)), some (.inr (.inl 14)), some (.inl n), some (.inl (p + (Int32.ofInt 1 <<< (Int32.ofInt a &&& 31)).toInt)), some (.inl (q + (Int32.ofInt 1 <<< (Int32.ofInt a &&& 31)).toInt)), some (.inl (r + 0)), some (.inl (a + 1)), none, none, none, none, none] ⟨rfl, ⟨rfl, ⟨rfl, ⟨rfl, ⟨rfl, ⟨rfl, ⟨rfl, ⟨rfl, trivial⟩⟩⟩⟩⟩⟩⟩⟩ ?_
          rw [zc2, zc3, zc4] at K
          rw [m_shl1 ha (by omega)]
          exact K
        · replace zc4 : o3 = true := bI_n0.mp zc4
          refine m_run 8 (ps' := (16, [some (.inr (.inl 0)), some (.inr (.inl 13)), some (.inr (.inl 14)), some (.inl n), some (.inl (p + (Int32.ofInt 1 <<< (Int32.ofInt a &&& 31)).toInt)), some (.inl (q + (Int32.ofInt 1 <<< (Int32.ofInt a &&& 31)).toInt)), some (.inl (r + (Int32.ofInt 1 <<< (Int32.ofInt a &&& 31)).toInt)), some (.inl (a + 1)), some (.inl (bI o1)), some (.inl (bI o2)), some (.inl (bI o3)), some (.inl n), none], [], mW (n, T, h, t, x) (.inl (0, 1, .inl g) :: .inl (2, 9, .inr f) :: J), 0, 0)) rfl ?_
          refine m_weak [some (.inr (.inl 0)), some (.inr (.inl 13)), some (.inr (.inl 14)), some (.inl n), some (.inl (p + (Int32.ofInt 1 <<< (Int32.ofInt a &&& 31)).toInt)), some (.inl (q + (Int32.ofInt 1 <<< (Int32.ofInt a &&& 31)).toInt)), some (.inl (r + (Int32.ofInt 1 <<< (Int32.ofInt a &&& 31)).toInt)), some (.inl (a + 1)), none, none, none, none, none] ⟨rfl, ⟨rfl, ⟨rfl, ⟨rfl, ⟨rfl, ⟨rfl, ⟨rfl, ⟨rfl, trivial⟩⟩⟩⟩⟩⟩⟩⟩ ?_
          rw [zc2, zc3, zc4] at K
          rw [m_shl1 ha (by omega)]
          exact K
  · intro b hi1 hi2 ih o1 o2 o3 hu1 hu2 hu3
    rw [all_s hi2] at hu1 hu2 hu3
    have e5 : elC n tb 0 a b = holdsS n tb 5 a b 0 := rfl
    refine m_run 2 (ps' := (37, [some (.inr (.inl 0)), some (.inr (.inl 13)), some (.inr (.inl 14)), some (.inl n), some (.inl p), some (.inl q), some (.inl r), some (.inl a), some (.inl (bI o1)), some (.inl (bI o2)), some (.inl (bI o3)), some (.inl b), none], [.inl n, .inl b], mW (n, T, h, t, x) (.inl (0, 1, .inl g) :: .inl (2, 9, .inr f) :: J), 0, 0)) rfl ?_
    refine m_icmp rfl ⟨by omega, by omega⟩ ⟨by omega, by omega⟩ (fun (zc1 : n ≤ b) => absurd zc1 (by omega)) (fun (zc1 : ¬ n ≤ b) => ?_)
    refine m_run 1 (ps' := (42, [some (.inr (.inl 0)), some (.inr (.inl 13)), some (.inr (.inl 14)), some (.inl n), some (.inl p), some (.inl q), some (.inl r), some (.inl a), some (.inl (bI o1)), some (.inl (bI o2)), some (.inl (bI o3)), some (.inl b), none], [.inl (bI o1)], mW (n, T, h, t, x) (.inl (0, 1, .inl g) :: .inl (2, 9, .inr f) :: J), 0, 0)) rfl ?_
    refine m_if rfl (bI_R _) (fun (zc2 : (bI o1) = 0) => ?_) (fun (zc2 : ¬ (bI o1) = 0) => ?_)
    · replace zc2 : o1 = false := bI_e0.mp zc2
      refine m_run 4 (ps' := (69, [some (.inr (.inl 0)), some (.inr (.inl 13)), some (.inr (.inl 14)), some (.inl n), some (.inl p), some (.inl q), some (.inl r), some (.inl a), some (.inl 0), some (.inl (bI o2)), some (.inl (bI o3)), some (.inl b), some (.inl 0)], [], mW (n, T, h, t, x) (.inl (0, 1, .inl g) :: .inl (2, 9, .inr f) :: J), 0, 0)) rfl ?_
      refine m_weak [some (.inr (.inl 0)), some (.inr (.inl 13)), some (.inr (.inl 14)), some (.inl n), some (.inl p), some (.inl q), some (.inl r), some (.inl a), some (.inl 0), some (.inl (bI o2)), some (.inl (bI o3)), some (.inl b), some (.inl 0)] ⟨rfl, ⟨rfl, ⟨rfl, ⟨rfl, ⟨rfl, ⟨rfl, ⟨rfl, ⟨rfl, ⟨rfl, ⟨rfl, ⟨rfl, ⟨rfl, ⟨rfl, trivial⟩⟩⟩⟩⟩⟩⟩⟩⟩⟩⟩⟩⟩ ?_
      exact a_elC (o1 := false) (v2 := (o2 && elC n tb 1 a b)) (v3 := (o3 && elC n tb 2 a b)) hg hL ha ha2 hi1 hi2 (ih false (o2 && elC n tb 1 a b) (o3 && elC n tb 2 a b) (by simp [*]) (by rw [hu2, Bool.and_assoc]) (by rw [hu3, Bool.and_assoc])) 0 (by omega) (by omega) o2 o3 (by rw [z_sub]; rfl) (by rw [z_sub]; rfl)
    · replace zc2 : o1 = true := bI_n0.mp zc2
      refine m_run 6 (ps' := (53, [some (.inr (.inl 0)), some (.inr (.inl 13)), some (.inr (.inl 14)), some (.inl n), some (.inl p), some (.inl q), some (.inl r), some (.inl a), some (.inl (bI o1)), some (.inl (bI o2)), some (.inl (bI o3)), some (.inl b), none], [.inl 0, .inl b, .inl a, .inl 5, .inr (.inl 14), .inr (.inl 13)], mW (n, T, h, t, x) (.inl (0, 1, .inl g) :: .inl (2, 9, .inr f) :: J), 0, 0)) rfl ?_
      refine m_callSF [.inr (.inl 13), .inr (.inl 14), .inl 5, .inl a, .inl b, .inl 0] [] rfl rfl rfl (a_hold (law := 5) (a := a) (b := b) (c := 0) hg hL (by omega) (by omega) (by omega) (by omega) (by omega) (by omega) (by omega) (by omega)) ?_
      show m_Sem X 59 (56, [some (.inr (.inl 0)), some (.inr (.inl 13)), some (.inr (.inl 14)), some (.inl n), some (.inl p), some (.inl q), some (.inl r), some (.inl a), some (.inl (bI o1)), some (.inl (bI o2)), some (.inl (bI o3)), some (.inl b), none], [.inl (bI (holdsS n tb 5 a b 0))], mW (n, T, h, t, x) (.inl (0, 1, .inl g) :: .inl (2, 9, .inr f) :: J), 0, 0) _
      refine m_if rfl (bI_R _) (fun (zc3 : (bI (holdsS n tb 5 a b 0)) = 0) => ?_) (fun (zc3 : ¬ (bI (holdsS n tb 5 a b 0)) = 0) => ?_)
      · replace zc3 : (holdsS n tb 5 a b 0) = false := bI_e0.mp zc3
        refine m_run 4 (ps' := (69, [some (.inr (.inl 0)), some (.inr (.inl 13)), some (.inr (.inl 14)), some (.inl n), some (.inl p), some (.inl q), some (.inl r), some (.inl a), some (.inl 0), some (.inl (bI o2)), some (.inl (bI o3)), some (.inl b), some (.inl 0)], [], mW (n, T, h, t, x) (.inl (0, 1, .inl g) :: .inl (2, 9, .inr f) :: J), 0, 0)) rfl ?_
        refine m_weak [some (.inr (.inl 0)), some (.inr (.inl 13)), some (.inr (.inl 14)), some (.inl n), some (.inl p), some (.inl q), some (.inl r), some (.inl a), some (.inl 0), some (.inl (bI o2)), some (.inl (bI o3)), some (.inl b), some (.inl 0)] ⟨rfl, ⟨rfl, ⟨rfl, ⟨rfl, ⟨rfl, ⟨rfl, ⟨rfl, ⟨rfl, ⟨rfl, ⟨rfl, ⟨rfl, ⟨rfl, ⟨rfl, trivial⟩⟩⟩⟩⟩⟩⟩⟩⟩⟩⟩⟩⟩ ?_
        exact a_elC (o1 := false) (v2 := (o2 && elC n tb 1 a b)) (v3 := (o3 && elC n tb 2 a b)) hg hL ha ha2 hi1 hi2 (ih false (o2 && elC n tb 1 a b) (o3 && elC n tb 2 a b) (by simp [*]) (by rw [hu2, Bool.and_assoc]) (by rw [hu3, Bool.and_assoc])) 0 (by omega) (by omega) o2 o3 (by rw [z_sub]; rfl) (by rw [z_sub]; rfl)
      · replace zc3 : (holdsS n tb 5 a b 0) = true := bI_n0.mp zc3
        refine m_run 5 (ps' := (69, [some (.inr (.inl 0)), some (.inr (.inl 13)), some (.inr (.inl 14)), some (.inl n), some (.inl p), some (.inl q), some (.inl r), some (.inl a), some (.inl 1), some (.inl (bI o2)), some (.inl (bI o3)), some (.inl b), some (.inl 0)], [], mW (n, T, h, t, x) (.inl (0, 1, .inl g) :: .inl (2, 9, .inr f) :: J), 0, 0)) rfl ?_
        refine m_weak [some (.inr (.inl 0)), some (.inr (.inl 13)), some (.inr (.inl 14)), some (.inl n), some (.inl p), some (.inl q), some (.inl r), some (.inl a), some (.inl 1), some (.inl (bI o2)), some (.inl (bI o3)), some (.inl b), some (.inl 0)] ⟨rfl, ⟨rfl, ⟨rfl, ⟨rfl, ⟨rfl, ⟨rfl, ⟨rfl, ⟨rfl, ⟨rfl, ⟨rfl, ⟨rfl, ⟨rfl, ⟨rfl, trivial⟩⟩⟩⟩⟩⟩⟩⟩⟩⟩⟩⟩⟩ ?_
        exact a_elC (o1 := true) (v2 := (o2 && elC n tb 1 a b)) (v3 := (o3 && elC n tb 2 a b)) hg hL ha ha2 hi1 hi2 (ih true (o2 && elC n tb 1 a b) (o3 && elC n tb 2 a b) (by simp [*]) (by rw [hu2, Bool.and_assoc]) (by rw [hu3, Bool.and_assoc])) 0 (by omega) (by omega) o2 o3 (by rw [z_sub]; rfl) (by rw [z_sub]; rfl)
set_option maxHeartbeats 4000000 in
set_option maxRecDepth 100000 in
theorem a_elA {X : Nat × Nat × (Nat → Int32)} {n : Int} {T : Int → Int} {h : HS} {t : TS} {x : XS} {g : Int → Int} {f : Nat → Int64} {J : mPW} {tb : Int → Int → Int} {v1 v2 v3 : Int} (hg : g 0 = n) (hL : repL n f tb) (hR : repC n T tb) (hv1 : v1 = sumF (fun a => bp (elA n tb 0 a) a) n.toNat 0) (hv2 : v2 = sumF (fun a => bp (elA n tb 1 a) a) n.toNat 0) (hv3 : v3 = sumF (fun a => bp (elA n tb 2 a) a) n.toNat 0) : ∀ a : Int, 0 ≤ a → a ≤ n → ∀ (p : Int) (q : Int) (r : Int) (hu1 : v1 = p + sumF (fun a => bp (elA n tb 0 a) a) (n - a).toNat a) (hu2 : v2 = q + sumF (fun a => bp (elA n tb 1 a) a) (n - a).toNat a) (hu3 : v3 = r + sumF (fun a => bp (elA n tb 2 a) a) (n - a).toNat a), m_Sem X 59 (16, [some (.inr (.inl 0)), some (.inr (.inl 13)), some (.inr (.inl 14)), some (.inl n), some (.inl p), some (.inl q), some (.inl r), some (.inl a), none, none, none, none, none], [], mW (n, T, h, t, x) (.inl (0, 1, .inl g) :: .inl (2, 9, .inr f) :: J), 0, 0) (m_V 1 (mW (n, T, h, t, x) (.inl (0, 1, .inl g) :: .inl (2, 9, .inr f) :: J))) := by
  have hn := hL.1
  have hl := okN_lo hn
  refine m_down 0 n ?_ ?_
  · intro p q r hu1 hu2 hu3
    rw [sum_end] at hu1 hu2 hu3
    have w0 := elm_v (tb := tb) (j := 0) hn (by omega) (by omega)
    have w1 := elm_v (tb := tb) (j := 1) hn (by omega) (by omega)
    have w2 := elm_v (tb := tb) (j := 2) hn (by omega) (by omega)
    show m_Sem X 59 (16, [some (.inr (.inl 0)), some (.inr (.inl 13)), some (.inr (.inl 14)), some (.inl n), some (.inl p), some (.inl q), some (.inl r), some (.inl n), none, none, none, none, none], [], mW (n, T, h, t, x) (.inl (0, 1, .inl g) :: .inl (2, 9, .inr f) :: J), 0, 0) _
    refine m_run 2 (ps' := (19, [some (.inr (.inl 0)), some (.inr (.inl 13)), some (.inr (.inl 14)), some (.inl n), some (.inl p), some (.inl q), some (.inl r), some (.inl n), none, none, none, none, none], [.inl n, .inl n], mW (n, T, h, t, x) (.inl (0, 1, .inl g) :: .inl (2, 9, .inr f) :: J), 0, 0)) rfl ?_
    refine m_icmp rfl ⟨by omega, by omega⟩ ⟨by omega, by omega⟩ (fun (zc1 : n ≤ n) => ?_) (fun (zc1 : ¬ n ≤ n) => absurd zc1 (not_not_intro (by omega)))
    refine m_run 2 (ps' := (203, [some (.inr (.inl 0)), some (.inr (.inl 13)), some (.inr (.inl 14)), some (.inl n), some (.inl p), some (.inl q), some (.inl r), some (.inl n), none, none, none, none, none], [.inl 0, .inr (.inl 0)], mW (n, T, h, t, x) (.inl (0, 1, .inl g) :: .inl (2, 9, .inr f) :: J), 0, 0)) rfl ?_
    refine m_callVF [.inl 0] [] rfl rfl ⟨_, rfl, rfl⟩ rfl rfl (k_els (wh := 0) ⟨by omega, by omega⟩ hR) ?_
    have zt1 := elm_v (tb := tb) (j := 0) hn (by omega) (by omega)
    show m_Sem X 59 (206, [some (.inr (.inl 0)), some (.inr (.inl 13)), some (.inr (.inl 14)), some (.inl n), some (.inl p), some (.inl q), some (.inl r), some (.inl n), none, none, none, none, none], [.inl (elmS n tb 0)], mW (n, T, h, t, x) (.inl (0, 1, .inl g) :: .inl (2, 9, .inr f) :: J), 0, 0) _
    refine m_run 1 (ps' := (208, [some (.inr (.inl 0)), some (.inr (.inl 13)), some (.inr (.inl 14)), some (.inl n), some (.inl p), some (.inl q), some (.inl r), some (.inl n), none, none, none, none, none], [.inl p, .inl (elmS n tb 0)], mW (n, T, h, t, x) (.inl (0, 1, .inl g) :: .inl (2, 9, .inr f) :: J), 0, 0)) rfl ?_
    refine m_icmp rfl ⟨by omega, by omega⟩ ⟨by omega, by omega⟩ (fun (zc2 : ¬ (elmS n tb 0) = p) => absurd zc2 (by omega)) (fun (zc2 : ¬ ¬ (elmS n tb 0) = p) => ?_)
    replace zc2 : (elmS n tb 0) = p := Decidable.not_not.mp zc2
    refine m_run 2 (ps' := (213, [some (.inr (.inl 0)), some (.inr (.inl 13)), some (.inr (.inl 14)), some (.inl n), some (.inl p), some (.inl q), some (.inl r), some (.inl n), none, none, none, none, none], [.inl 1, .inr (.inl 0)], mW (n, T, h, t, x) (.inl (0, 1, .inl g) :: .inl (2, 9, .inr f) :: J), 0, 0)) rfl ?_
    refine m_callVF [.inl 1] [] rfl rfl ⟨_, rfl, rfl⟩ rfl rfl (k_els (wh := 1) ⟨by omega, by omega⟩ hR) ?_
    have zt2 := elm_v (tb := tb) (j := 1) hn (by omega) (by omega)
    show m_Sem X 59 (216, [some (.inr (.inl 0)), some (.inr (.inl 13)), some (.inr (.inl 14)), some (.inl n), some (.inl p), some (.inl q), some (.inl r), some (.inl n), none, none, none, none, none], [.inl (elmS n tb 1)], mW (n, T, h, t, x) (.inl (0, 1, .inl g) :: .inl (2, 9, .inr f) :: J), 0, 0) _
    refine m_run 1 (ps' := (218, [some (.inr (.inl 0)), some (.inr (.inl 13)), some (.inr (.inl 14)), some (.inl n), some (.inl p), some (.inl q), some (.inl r), some (.inl n), none, none, none, none, none], [.inl q, .inl (elmS n tb 1)], mW (n, T, h, t, x) (.inl (0, 1, .inl g) :: .inl (2, 9, .inr f) :: J), 0, 0)) rfl ?_
    refine m_icmp rfl ⟨by omega, by omega⟩ ⟨by omega, by omega⟩ (fun (zc3 : ¬ (elmS n tb 1) = q) => absurd zc3 (by omega)) (fun (zc3 : ¬ ¬ (elmS n tb 1) = q) => ?_)
    replace zc3 : (elmS n tb 1) = q := Decidable.not_not.mp zc3
    refine m_run 2 (ps' := (223, [some (.inr (.inl 0)), some (.inr (.inl 13)), some (.inr (.inl 14)), some (.inl n), some (.inl p), some (.inl q), some (.inl r), some (.inl n), none, none, none, none, none], [.inl 2, .inr (.inl 0)], mW (n, T, h, t, x) (.inl (0, 1, .inl g) :: .inl (2, 9, .inr f) :: J), 0, 0)) rfl ?_
    refine m_callVF [.inl 2] [] rfl rfl ⟨_, rfl, rfl⟩ rfl rfl (k_els (wh := 2) ⟨by omega, by omega⟩ hR) ?_
    have zt3 := elm_v (tb := tb) (j := 2) hn (by omega) (by omega)
    show m_Sem X 59 (226, [some (.inr (.inl 0)), some (.inr (.inl 13)), some (.inr (.inl 14)), some (.inl n), some (.inl p), some (.inl q), some (.inl r), some (.inl n), none, none, none, none, none], [.inl (elmS n tb 2)], mW (n, T, h, t, x) (.inl (0, 1, .inl g) :: .inl (2, 9, .inr f) :: J), 0, 0) _
    refine m_run 1 (ps' := (228, [some (.inr (.inl 0)), some (.inr (.inl 13)), some (.inr (.inl 14)), some (.inl n), some (.inl p), some (.inl q), some (.inl r), some (.inl n), none, none, none, none, none], [.inl r, .inl (elmS n tb 2)], mW (n, T, h, t, x) (.inl (0, 1, .inl g) :: .inl (2, 9, .inr f) :: J), 0, 0)) rfl ?_
    refine m_icmp rfl ⟨by omega, by omega⟩ ⟨by omega, by omega⟩ (fun (zc4 : ¬ (elmS n tb 2) = r) => absurd zc4 (by omega)) (fun (zc4 : ¬ ¬ (elmS n tb 2) = r) => ?_)
    replace zc4 : (elmS n tb 2) = r := Decidable.not_not.mp zc4
    refine m_run 2 (ps' := (233, [some (.inr (.inl 0)), some (.inr (.inl 13)), some (.inr (.inl 14)), some (.inl n), some (.inl p), some (.inl q), some (.inl r), some (.inl n), none, none, none, none, none], [.inl 3, .inr (.inl 0)], mW (n, T, h, t, x) (.inl (0, 1, .inl g) :: .inl (2, 9, .inr f) :: J), 0, 0)) rfl ?_
    refine m_callVF [.inl 3] [] rfl rfl ⟨_, rfl, rfl⟩ rfl rfl (k_els (wh := 3) ⟨by omega, by omega⟩ hR) ?_
    have zt4 := elm_i (n := n) (tb := tb)
    show m_Sem X 59 (236, [some (.inr (.inl 0)), some (.inr (.inl 13)), some (.inr (.inl 14)), some (.inl n), some (.inl p), some (.inl q), some (.inl r), some (.inl n), none, none, none, none, none], [.inl (elmS n tb 3)], mW (n, T, h, t, x) (.inl (0, 1, .inl g) :: .inl (2, 9, .inr f) :: J), 0, 0) _
    refine m_run 1 (ps' := (238, [some (.inr (.inl 0)), some (.inr (.inl 13)), some (.inr (.inl 14)), some (.inl n), some (.inl p), some (.inl q), some (.inl r), some (.inl n), none, none, none, none, none], [.inl (-1000001), .inl (elmS n tb 3)], mW (n, T, h, t, x) (.inl (0, 1, .inl g) :: .inl (2, 9, .inr f) :: J), 0, 0)) rfl ?_
    refine m_icmp rfl ⟨by omega, by omega⟩ ⟨by omega, by omega⟩ (fun (zc5 : ¬ (elmS n tb 3) = (-1000001)) => absurd zc5 (by omega)) (fun (zc5 : ¬ ¬ (elmS n tb 3) = (-1000001)) => ?_)
    replace zc5 : (elmS n tb 3) = (-1000001) := Decidable.not_not.mp zc5
    refine m_run 2 (ps' := (246, [some (.inr (.inl 0)), some (.inr (.inl 13)), some (.inr (.inl 14)), some (.inl n), some (.inl p), some (.inl q), some (.inl r), some (.inl n), none, none, none, none, none], [.inl 1], mW (n, T, h, t, x) (.inl (0, 1, .inl g) :: .inl (2, 9, .inr f) :: J), 0, 0)) rfl ?_
    exact m_ret1 rfl (Or.inr ⟨rfl, Or.inr rfl⟩) rfl (m_Vi rfl)
  · intro a hi1 hi2 ih p q r hu1 hu2 hu3
    rw [sum_step hi2] at hu1 hu2 hu3
    refine m_run 2 (ps' := (19, [some (.inr (.inl 0)), some (.inr (.inl 13)), some (.inr (.inl 14)), some (.inl n), some (.inl p), some (.inl q), some (.inl r), some (.inl a), none, none, none, none, none], [.inl n, .inl a], mW (n, T, h, t, x) (.inl (0, 1, .inl g) :: .inl (2, 9, .inr f) :: J), 0, 0)) rfl ?_
    refine m_icmp rfl ⟨by omega, by omega⟩ ⟨by omega, by omega⟩ (fun (zc1 : n ≤ a) => absurd zc1 (by omega)) (fun (zc1 : ¬ n ≤ a) => ?_)
    refine m_run 8 (ps' := (34, [some (.inr (.inl 0)), some (.inr (.inl 13)), some (.inr (.inl 14)), some (.inl n), some (.inl p), some (.inl q), some (.inl r), some (.inl a), some (.inl 1), some (.inl 1), some (.inl 1), some (.inl 0), none], [], mW (n, T, h, t, x) (.inl (0, 1, .inl g) :: .inl (2, 9, .inr f) :: J), 0, 0)) rfl ?_
    refine m_weak [some (.inr (.inl 0)), some (.inr (.inl 13)), some (.inr (.inl 14)), some (.inl n), some (.inl p), some (.inl q), some (.inl r), some (.inl a), some (.inl 1), some (.inl 1), some (.inl 1), some (.inl 0), none] ⟨rfl, ⟨rfl, ⟨rfl, ⟨rfl, ⟨rfl, ⟨rfl, ⟨rfl, ⟨rfl, ⟨rfl, ⟨rfl, ⟨rfl, ⟨rfl, trivial⟩⟩⟩⟩⟩⟩⟩⟩⟩⟩⟩⟩ ?_
    exact a_elB (v1 := elA n tb 0 a) (v2 := elA n tb 1 a) (v3 := elA n tb 2 a) hg hL hi1 hi2 (ih _ _ _ (by rw [hu1, Int.add_assoc]) (by rw [hu2, Int.add_assoc]) (by rw [hu3, Int.add_assoc])) 0 (by omega) (by omega) true true true (by rw [z_sub]; rfl) (by rw [z_sub]; rfl) (by rw [z_sub]; rfl)
set_option maxHeartbeats 4000000 in
set_option maxRecDepth 100000 in
theorem a_els {X : Nat × Nat × (Nat → Int32)} {n : Int} {T : Int → Int} {h : HS} {t : TS} {x : XS} {g : Int → Int} {f : Nat → Int64} {J : mPW} {tb : Int → Int → Int} (hg : g 0 = n) (hL : repL n f tb) (hR : repC n T tb) : m_Run X 59 [.inr (.inl 0), .inr (.inl 13), .inr (.inl 14)] (mW (n, T, h, t, x) (.inl (0, 1, .inl g) :: .inl (2, 9, .inr f) :: J)) (m_V 1 (mW (n, T, h, t, x) (.inl (0, 1, .inl g) :: .inl (2, 9, .inr f) :: J))) := by
  have hn := hL.1
  have hl := okN_lo hn
  show m_Sem X 59 (0, [some (.inr (.inl 0)), some (.inr (.inl 13)), some (.inr (.inl 14)), none, none, none, none, none, none, none, none, none, none], [], mW (n, T, h, t, x) (.inl (0, 1, .inl g) :: .inl (2, 9, .inr f) :: J), 0, 0) _
  refine m_run 2 (ps' := (2, [some (.inr (.inl 0)), some (.inr (.inl 13)), some (.inr (.inl 14)), none, none, none, none, none, none, none, none, none, none], [.inl 0, .inr (.inl 13)], mW (n, T, h, t, x) (.inl (0, 1, .inl g) :: .inl (2, 9, .inr f) :: J), 0, 0)) rfl ?_
  refine m_iald rfl rfl (by omega) (by omega) (by decide) ?_
  show m_Sem X 59 (3, [some (.inr (.inl 0)), some (.inr (.inl 13)), some (.inr (.inl 14)), none, none, none, none, none, none, none, none, none, none], [.inl (g 0)], mW (n, T, h, t, x) (.inl (0, 1, .inl g) :: .inl (2, 9, .inr f) :: J), 0, 0) _
  rw [hg]
  refine m_run 9 (ps' := (16, [some (.inr (.inl 0)), some (.inr (.inl 13)), some (.inr (.inl 14)), some (.inl n), some (.inl 0), some (.inl 0), some (.inl 0), some (.inl 0), none, none, none, none, none], [], mW (n, T, h, t, x) (.inl (0, 1, .inl g) :: .inl (2, 9, .inr f) :: J), 0, 0)) rfl ?_
  refine m_weak [some (.inr (.inl 0)), some (.inr (.inl 13)), some (.inr (.inl 14)), some (.inl n), some (.inl 0), some (.inl 0), some (.inl 0), some (.inl 0), none, none, none, none, none] ⟨rfl, ⟨rfl, ⟨rfl, ⟨rfl, ⟨rfl, ⟨rfl, ⟨rfl, ⟨rfl, trivial⟩⟩⟩⟩⟩⟩⟩⟩ ?_
  exact a_elA hg hL hR rfl rfl rfl 0 (by omega) (by omega) 0 0 0 (by rw [z_sub, Int.zero_add]) (by rw [z_sub, Int.zero_add]) (by rw [z_sub, Int.zero_add])
end
section
theorem by_v {n : Int} {tb : Int → Int → Int} {a b : Int} (ha : 0 ≤ a) (ha2 : a < n) (hb : 0 ≤ b) (hb2 : b < n) (w : Int) : byS n tb a b w = if w = 0 then sumS n a b else if w = 1 then difS n a b else if w = 2 then tb a b else if w = 3 then onfS (facS n tb true a b) else if w = 4 then onfS (facS n tb false a b) else -1000001 := by
  unfold byS
  rw [if_neg (by rw [inN_t ha ha2]; decide), if_neg (by rw [inN_t hb hb2]; decide)]
theorem onf_in {n : Int} {tb : Int → Int → Int} {r : Bool} {a b : Int} (hn : okN n) : -1000004 ≤ onfS (facS n tb r a b) ∧ onfS (facS n tb r a b) < 9 := by
  have h := facS_in (tb := tb) (r := r) (a := a) (b := b) hn
  unfold onfS
  split <;> omega
theorem dif_add {n a b : Int} (hn : okN n) (ha : 0 ≤ a) (ha2 : a < n) (hb : 0 ≤ b) (hb2 : b < n) : sumS n (difS n a b) b = a := by
  have h := difS_in hn ha ha2 hb hb2
  rw [sum_comm hn h.1 h.2 hb hb2]
  exact sum_dif hn ha ha2 hb hb2
theorem zer_in {n : Int} {tb : Int → Int → Int} (hn : okN n) : 0 ≤ zeroS n tb ∧ zeroS n tb ≤ 1000 := by
  have hl := okN_lo hn
  have h := sum_bound (f := fun a => sumF (fun b => if tb a b = 0 then 1 else 0) n.toNat 0) (B := 9) n.toNat 0 (fun j _ _ => by
    have h := sum_bound (f := fun b => if tb j b = 0 then 1 else 0) (B := 1) n.toNat 0 (fun j _ _ => by dsimp only; split <;> decide)
    exact ⟨h.1, by omega⟩)
  unfold zeroS
  omega
theorem unl_in {n : Int} {tb : Int → Int → Int} (hn : okN n) : 0 ≤ unlS n tb ∧ unlS n tb ≤ 1000 := by
  have hl := okN_lo hn
  have h := sum_bound (f := fun a => sumF (fun b => if tb a b = fpS n a b then 0 else 1) n.toNat 0) (B := 9) n.toNat 0 (fun j _ _ => by
    have h := sum_bound (f := fun b => if tb j b = fpS n j b then 0 else 1) (B := 1) n.toNat 0 (fun j _ _ => by dsimp only; split <;> decide)
    exact ⟨h.1, by omega⟩)
  unfold unlS
  omega
theorem a_by0 {X : Nat × Nat × (Nat → Int32)} {n : Int} {T : Int → Int} {h : HS} {t : TS} {x : XS} {M : MS} {tb : Int → Int → Int} {a b : Int} (hR : repC n T tb) (ha : 0 ≤ a) (ha2 : a < n) (hb : 0 ≤ b) (hb2 : b < n) : m_Run X 34 [.inr (.inl 0), .inl a, .inl b, .inl 0] (mW (n, T, h, t, x) M) (m_V (sumS n a b) (mW (n, T, h, t, x) M)) := by
  have hl := okN_lo hR.1
  have h := k_by (X := X) (h := h) (t := t) (x := x) (M := M) (a := a) (b := b) (wh := 0) ⟨by omega, by omega⟩ ⟨by omega, by omega⟩ ⟨by omega, by omega⟩ hR
  rw [by_v ha ha2 hb hb2] at h
  exact h
theorem a_by1 {X : Nat × Nat × (Nat → Int32)} {n : Int} {T : Int → Int} {h : HS} {t : TS} {x : XS} {M : MS} {tb : Int → Int → Int} {a b : Int} (hR : repC n T tb) (ha : 0 ≤ a) (ha2 : a < n) (hb : 0 ≤ b) (hb2 : b < n) : m_Run X 34 [.inr (.inl 0), .inl a, .inl b, .inl 1] (mW (n, T, h, t, x) M) (m_V (difS n a b) (mW (n, T, h, t, x) M)) := by
  have hl := okN_lo hR.1
  have h := k_by (X := X) (h := h) (t := t) (x := x) (M := M) (a := a) (b := b) (wh := 1) ⟨by omega, by omega⟩ ⟨by omega, by omega⟩ ⟨by omega, by omega⟩ hR
  rw [by_v ha ha2 hb hb2] at h
  exact h
theorem a_by2 {X : Nat × Nat × (Nat → Int32)} {n : Int} {T : Int → Int} {h : HS} {t : TS} {x : XS} {M : MS} {tb : Int → Int → Int} {a b : Int} (hR : repC n T tb) (ha : 0 ≤ a) (ha2 : a < n) (hb : 0 ≤ b) (hb2 : b < n) : m_Run X 34 [.inr (.inl 0), .inl a, .inl b, .inl 2] (mW (n, T, h, t, x) M) (m_V (tb a b) (mW (n, T, h, t, x) M)) := by
  have hl := okN_lo hR.1
  have h := k_by (X := X) (h := h) (t := t) (x := x) (M := M) (a := a) (b := b) (wh := 2) ⟨by omega, by omega⟩ ⟨by omega, by omega⟩ ⟨by omega, by omega⟩ hR
  rw [by_v ha ha2 hb hb2] at h
  exact h
theorem a_by3 {X : Nat × Nat × (Nat → Int32)} {n : Int} {T : Int → Int} {h : HS} {t : TS} {x : XS} {M : MS} {tb : Int → Int → Int} {a b : Int} (hR : repC n T tb) (ha : 0 ≤ a) (ha2 : a < n) (hb : 0 ≤ b) (hb2 : b < n) : m_Run X 34 [.inr (.inl 0), .inl a, .inl b, .inl 3] (mW (n, T, h, t, x) M) (m_V (onfS (facS n tb true a b)) (mW (n, T, h, t, x) M)) := by
  have hl := okN_lo hR.1
  have h := k_by (X := X) (h := h) (t := t) (x := x) (M := M) (a := a) (b := b) (wh := 3) ⟨by omega, by omega⟩ ⟨by omega, by omega⟩ ⟨by omega, by omega⟩ hR
  rw [by_v ha ha2 hb hb2] at h
  exact h
theorem a_by4 {X : Nat × Nat × (Nat → Int32)} {n : Int} {T : Int → Int} {h : HS} {t : TS} {x : XS} {M : MS} {tb : Int → Int → Int} {a b : Int} (hR : repC n T tb) (ha : 0 ≤ a) (ha2 : a < n) (hb : 0 ≤ b) (hb2 : b < n) : m_Run X 34 [.inr (.inl 0), .inl a, .inl b, .inl 4] (mW (n, T, h, t, x) M) (m_V (onfS (facS n tb false a b)) (mW (n, T, h, t, x) M)) := by
  have hl := okN_lo hR.1
  have h := k_by (X := X) (h := h) (t := t) (x := x) (M := M) (a := a) (b := b) (wh := 4) ⟨by omega, by omega⟩ ⟨by omega, by omega⟩ ⟨by omega, by omega⟩ hR
  rw [by_v ha ha2 hb hb2] at h
  exact h
theorem a_by5 {X : Nat × Nat × (Nat → Int32)} {n : Int} {T : Int → Int} {h : HS} {t : TS} {x : XS} {M : MS} {tb : Int → Int → Int} {a b : Int} (hR : repC n T tb) (ha : 0 ≤ a) (ha2 : a < n) (hb : 0 ≤ b) (hb2 : b < n) : m_Run X 34 [.inr (.inl 0), .inl a, .inl b, .inl 5] (mW (n, T, h, t, x) M) (m_V (-1000001) (mW (n, T, h, t, x) M)) := by
  have hl := okN_lo hR.1
  have h := k_by (X := X) (h := h) (t := t) (x := x) (M := M) (a := a) (b := b) (wh := 5) ⟨by omega, by omega⟩ ⟨by omega, by omega⟩ ⟨by omega, by omega⟩ hR
  rw [by_v ha ha2 hb hb2] at h
  exact h
theorem a_byX {X : Nat × Nat × (Nat → Int32)} {n : Int} {T : Int → Int} {h : HS} {t : TS} {x : XS} {M : MS} {tb : Int → Int → Int} {a b : Int} (hR : repC n T tb) (ha : -1 ≤ a) (ha2 : a ≤ n) (hb : -1 ≤ b) (hb2 : b ≤ n) (hx : a = n ∨ b = -1) : m_Run X 34 [.inr (.inl 0), .inl a, .inl b, .inl 0] (mW (n, T, h, t, x) M) (m_V (-1000001) (mW (n, T, h, t, x) M)) := by
  have hl := okN_lo hR.1
  have h := k_by (X := X) (h := h) (t := t) (x := x) (M := M) (a := a) (b := b) (wh := 0) ⟨by omega, by omega⟩ ⟨by omega, by omega⟩ ⟨by omega, by omega⟩ hR
  have e : byS n tb a b 0 = -1000001 := by
    unfold byS
    by_cases hc : inN n a = false
    · rw [if_pos hc]
    · rw [if_neg hc]
      have h1 := inN_i.mp (Bool.not_eq_false _ ▸ hc : inN n a = true)
      rw [if_pos (inN_f (by omega))]
  rw [e] at h
  exact h
theorem a_cnt0 {X : Nat × Nat × (Nat → Int32)} {n : Int} {T : Int → Int} {hc : Int} {hs hp : Int → Int} {ln : Int} {sg : Int → Int} {x : XS} {M : MS} {tb : Int → Int → Int} (hR : repC n T tb) : m_Run X 38 [.inr (.inl 0), .inl 0] (mW (n, T, (hc, hs, hp), (ln, sg), x) M) (m_V (n) (mW (n, T, (hc, hs, hp), (ln, sg), x) M)) := by
  have h := k_cnt (X := X) (hc := hc) (hs := hs) (hp := hp) (ln := ln) (sg := sg) (x := x) (M := M) (wh := 0) ⟨by omega, by omega⟩ hR
  rw [show cntS n tb hc ln 0 = n by unfold cntS; simp] at h
  exact h
theorem a_cnt1 {X : Nat × Nat × (Nat → Int32)} {n : Int} {T : Int → Int} {hc : Int} {hs hp : Int → Int} {ln : Int} {sg : Int → Int} {x : XS} {M : MS} {tb : Int → Int → Int} (hR : repC n T tb) : m_Run X 38 [.inr (.inl 0), .inl 1] (mW (n, T, (hc, hs, hp), (ln, sg), x) M) (m_V (NP n) (mW (n, T, (hc, hs, hp), (ln, sg), x) M)) := by
  have h := k_cnt (X := X) (hc := hc) (hs := hs) (hp := hp) (ln := ln) (sg := sg) (x := x) (M := M) (wh := 1) ⟨by omega, by omega⟩ hR
  rw [show cntS n tb hc ln 1 = NP n by unfold cntS; simp] at h
  exact h
theorem a_cnt2 {X : Nat × Nat × (Nat → Int32)} {n : Int} {T : Int → Int} {hc : Int} {hs hp : Int → Int} {ln : Int} {sg : Int → Int} {x : XS} {M : MS} {tb : Int → Int → Int} (hR : repC n T tb) : m_Run X 38 [.inr (.inl 0), .inl 2] (mW (n, T, (hc, hs, hp), (ln, sg), x) M) (m_V (unlS n tb) (mW (n, T, (hc, hs, hp), (ln, sg), x) M)) := by
  have h := k_cnt (X := X) (hc := hc) (hs := hs) (hp := hp) (ln := ln) (sg := sg) (x := x) (M := M) (wh := 2) ⟨by omega, by omega⟩ hR
  rw [show cntS n tb hc ln 2 = unlS n tb by unfold cntS; simp] at h
  exact h
theorem a_cnt3 {X : Nat × Nat × (Nat → Int32)} {n : Int} {T : Int → Int} {hc : Int} {hs hp : Int → Int} {ln : Int} {sg : Int → Int} {x : XS} {M : MS} {tb : Int → Int → Int} (hR : repC n T tb) : m_Run X 38 [.inr (.inl 0), .inl 3] (mW (n, T, (hc, hs, hp), (ln, sg), x) M) (m_V (zeroS n tb) (mW (n, T, (hc, hs, hp), (ln, sg), x) M)) := by
  have h := k_cnt (X := X) (hc := hc) (hs := hs) (hp := hp) (ln := ln) (sg := sg) (x := x) (M := M) (wh := 3) ⟨by omega, by omega⟩ hR
  rw [show cntS n tb hc ln 3 = zeroS n tb by unfold cntS; simp] at h
  exact h
theorem a_cnt5 {X : Nat × Nat × (Nat → Int32)} {n : Int} {T : Int → Int} {hc : Int} {hs hp : Int → Int} {ln : Int} {sg : Int → Int} {x : XS} {M : MS} {tb : Int → Int → Int} (hR : repC n T tb) : m_Run X 38 [.inr (.inl 0), .inl 5] (mW (n, T, (hc, hs, hp), (ln, sg), x) M) (m_V (ln) (mW (n, T, (hc, hs, hp), (ln, sg), x) M)) := by
  have h := k_cnt (X := X) (hc := hc) (hs := hs) (hp := hp) (ln := ln) (sg := sg) (x := x) (M := M) (wh := 5) ⟨by omega, by omega⟩ hR
  rw [show cntS n tb hc ln 5 = ln by unfold cntS; simp] at h
  exact h
theorem a_cnt6 {X : Nat × Nat × (Nat → Int32)} {n : Int} {T : Int → Int} {hc : Int} {hs hp : Int → Int} {ln : Int} {sg : Int → Int} {x : XS} {M : MS} {tb : Int → Int → Int} (hR : repC n T tb) : m_Run X 38 [.inr (.inl 0), .inl 6] (mW (n, T, (hc, hs, hp), (ln, sg), x) M) (m_V (-1000001) (mW (n, T, (hc, hs, hp), (ln, sg), x) M)) := by
  have h := k_cnt (X := X) (hc := hc) (hs := hs) (hp := hp) (ln := ln) (sg := sg) (x := x) (M := M) (wh := 6) ⟨by omega, by omega⟩ hR
  rw [show cntS n tb hc ln 6 = -1000001 by unfold cntS; simp] at h
  exact h
theorem m_upI {P : Int → Prop} (lo hi : Int) (h1 : P lo) (h2 : ∀ i, lo < i → i ≤ hi → P (i + (-1)) → P i) : ∀ i, lo ≤ i → i ≤ hi → P i := by
  have key : ∀ (k : Nat) (i : Int), lo + k = i → i ≤ hi → P i := by
    intro k
    induction k with
    | zero => intro i h _; rw [show i = lo by omega]; exact h1
    | succ k ih => intro i h h'; exact h2 i (by omega) h' (ih (i + (-1)) (by omega) (by omega))
  intro i h h'
  exact key (i - lo).toNat i (by omega) h'
set_option maxHeartbeats 4000000 in
set_option maxRecDepth 100000 in
theorem a_soX {X : Nat × Nat × (Nat → Int32)} {n : Int} {T : Int → Int} {h : HS} {t : TS} {x : XS} {g : Int → Int} {f : Nat → Int64} {J : mPW} {tb : Int → Int → Int} {a b z : Int} {Q : Option mPV → mPW → Prop} (hg : g 0 = n) (hL : repL n f tb) (ha : 0 ≤ a) (ha2 : a < n) (hb : 0 ≤ b) (hb2 : b < n) (K : m_Sem X 60 (106, [some (.inr (.inl 0)), some (.inr (.inl 13)), some (.inr (.inl 14)), some (.inl n), some (.inl z), some (.inl 1), some (.inl a), some (.inl b), some (.inl (onfS (facS n tb true a b))), some (.inl (onfS (facS n tb false a b))), some (.inl (-1))], [], mW (n, T, h, t, x) (.inl (0, 1, .inl g) :: .inl (2, 9, .inr f) :: J), 0, 0) Q) : ∀ xv : Int, -1 ≤ xv → xv ≤ n - 1 → ∀ (lf rt : Int) (e1 : lf = onfS (fstF (fun i => decide (sideS tb true a i = b)) (n - (xv + 1)).toNat (xv + 1))) (e2 : rt = onfS (fstF (fun i => decide (sideS tb false a i = b)) (n - (xv + 1)).toNat (xv + 1))), m_Sem X 60 (51, [some (.inr (.inl 0)), some (.inr (.inl 13)), some (.inr (.inl 14)), some (.inl n), some (.inl z), some (.inl 1), some (.inl a), some (.inl b), some (.inl lf), some (.inl rt), some (.inl xv)], [], mW (n, T, h, t, x) (.inl (0, 1, .inl g) :: .inl (2, 9, .inr f) :: J), 0, 0) (Q) := by
  have hn := hL.1
  have hl := okN_lo hn
  refine m_upI (-1) (n - 1) ?_ ?_
  · intro lf rt e1 e2
    have e1 : lf = onfS (facS n tb true a b) := by rw [e1, show (-1 : Int) + 1 = 0 by omega, z_sub]; rfl
    have e2 : rt = onfS (facS n tb false a b) := by rw [e2, show (-1 : Int) + 1 = 0 by omega, z_sub]; rfl
    subst e1
    subst e2
    show m_Sem X 60 (51, [some (.inr (.inl 0)), some (.inr (.inl 13)), some (.inr (.inl 14)), some (.inl n), some (.inl z), some (.inl 1), some (.inl a), some (.inl b), some (.inl (onfS (facS n tb true a b))), some (.inl (onfS (facS n tb false a b))), some (.inl (-1))], [], mW (n, T, h, t, x) (.inl (0, 1, .inl g) :: .inl (2, 9, .inr f) :: J), 0, 0) _
    refine m_run 1 (ps' := (53, [some (.inr (.inl 0)), some (.inr (.inl 13)), some (.inr (.inl 14)), some (.inl n), some (.inl z), some (.inl 1), some (.inl a), some (.inl b), some (.inl (onfS (facS n tb true a b))), some (.inl (onfS (facS n tb false a b))), some (.inl (-1))], [.inl (-1)], mW (n, T, h, t, x) (.inl (0, 1, .inl g) :: .inl (2, 9, .inr f) :: J), 0, 0)) rfl ?_
    refine m_if rfl ⟨by omega, by omega⟩ (fun (zc1 : (-1) < 0) => ?_) (fun (zc1 : ¬ (-1) < 0) => absurd zc1 (not_not_intro (by omega)))
    refine m_weak [some (.inr (.inl 0)), some (.inr (.inl 13)), some (.inr (.inl 14)), some (.inl n), some (.inl z), some (.inl 1), some (.inl a), some (.inl b), some (.inl (onfS (facS n tb true a b))), some (.inl (onfS (facS n tb false a b))), some (.inl (-1))] ⟨rfl, ⟨rfl, ⟨rfl, ⟨rfl, ⟨rfl, ⟨rfl, ⟨rfl, ⟨rfl, ⟨rfl, ⟨rfl, ⟨rfl, trivial⟩⟩⟩⟩⟩⟩⟩⟩⟩⟩⟩ ?_
    exact K
  · intro xv hi1 hi2 ih lf rt e1 e2
    have s1 := (hL.2 a xv ha ha2 (by omega) (by omega)).2
    refine m_run 1 (ps' := (53, [some (.inr (.inl 0)), some (.inr (.inl 13)), some (.inr (.inl 14)), some (.inl n), some (.inl z), some (.inl 1), some (.inl a), some (.inl b), some (.inl lf), some (.inl rt), some (.inl xv)], [.inl xv], mW (n, T, h, t, x) (.inl (0, 1, .inl g) :: .inl (2, 9, .inr f) :: J), 0, 0)) rfl ?_
    refine m_if rfl ⟨by omega, by omega⟩ (fun (zc1 : xv < 0) => absurd zc1 (by omega)) (fun (zc1 : ¬ xv < 0) => ?_)
    refine m_run 3 (ps' := (61, [some (.inr (.inl 0)), some (.inr (.inl 13)), some (.inr (.inl 14)), some (.inl n), some (.inl z), some (.inl 1), some (.inl a), some (.inl b), some (.inl lf), some (.inl rt), some (.inl xv)], [.inl xv, .inl a, .inr (.inl 14)], mW (n, T, h, t, x) (.inl (0, 1, .inl g) :: .inl (2, 9, .inr f) :: J), 0, 0)) rfl ?_
    refine m_callSF [.inr (.inl 14), .inl a, .inl xv] [] rfl rfl rfl (a_of (a := a) (b := xv) hL (by omega) (by omega) (by omega) (by omega)) ?_
    have zt1 := (hL.2 a xv (by omega) (by omega) (by omega) (by omega)).2
    show m_Sem X 60 (64, [some (.inr (.inl 0)), some (.inr (.inl 13)), some (.inr (.inl 14)), some (.inl n), some (.inl z), some (.inl 1), some (.inl a), some (.inl b), some (.inl lf), some (.inl rt), some (.inl xv)], [.inl (tb a xv)], mW (n, T, h, t, x) (.inl (0, 1, .inl g) :: .inl (2, 9, .inr f) :: J), 0, 0) _
    refine m_run 1 (ps' := (66, [some (.inr (.inl 0)), some (.inr (.inl 13)), some (.inr (.inl 14)), some (.inl n), some (.inl z), some (.inl 1), some (.inl a), some (.inl b), some (.inl lf), some (.inl rt), some (.inl xv)], [.inl b, .inl (tb a xv)], mW (n, T, h, t, x) (.inl (0, 1, .inl g) :: .inl (2, 9, .inr f) :: J), 0, 0)) rfl ?_
    refine m_icmp rfl ⟨by omega, by omega⟩ ⟨by omega, by omega⟩ (fun (zc2 : ¬ (tb a xv) = b) => ?_) (fun (zc2 : ¬ ¬ (tb a xv) = b) => ?_)
    · refine m_run 5 (ps' := (83, [some (.inr (.inl 0)), some (.inr (.inl 13)), some (.inr (.inl 14)), some (.inl n), some (.inl z), some (.inl 1), some (.inl a), some (.inl b), some (.inl lf), some (.inl rt), some (.inl xv)], [.inl a, .inl xv, .inr (.inl 14)], mW (n, T, h, t, x) (.inl (0, 1, .inl g) :: .inl (2, 9, .inr f) :: J), 0, 0)) rfl ?_
      refine m_callSF [.inr (.inl 14), .inl xv, .inl a] [] rfl rfl rfl (a_of (a := xv) (b := a) hL (by omega) (by omega) (by omega) (by omega)) ?_
      have zt2 := (hL.2 xv a (by omega) (by omega) (by omega) (by omega)).2
      show m_Sem X 60 (86, [some (.inr (.inl 0)), some (.inr (.inl 13)), some (.inr (.inl 14)), some (.inl n), some (.inl z), some (.inl 1), some (.inl a), some (.inl b), some (.inl lf), some (.inl rt), some (.inl xv)], [.inl (tb xv a)], mW (n, T, h, t, x) (.inl (0, 1, .inl g) :: .inl (2, 9, .inr f) :: J), 0, 0) _
      refine m_run 1 (ps' := (88, [some (.inr (.inl 0)), some (.inr (.inl 13)), some (.inr (.inl 14)), some (.inl n), some (.inl z), some (.inl 1), some (.inl a), some (.inl b), some (.inl lf), some (.inl rt), some (.inl xv)], [.inl b, .inl (tb xv a)], mW (n, T, h, t, x) (.inl (0, 1, .inl g) :: .inl (2, 9, .inr f) :: J), 0, 0)) rfl ?_
      refine m_icmp rfl ⟨by omega, by omega⟩ ⟨by omega, by omega⟩ (fun (zc3 : ¬ (tb xv a) = b) => ?_) (fun (zc3 : ¬ ¬ (tb xv a) = b) => ?_)
      · refine m_run 4 (ps' := (51, [some (.inr (.inl 0)), some (.inr (.inl 13)), some (.inr (.inl 14)), some (.inl n), some (.inl z), some (.inl 1), some (.inl a), some (.inl b), some (.inl lf), some (.inl rt), some (.inl (xv + (-1)))], [], mW (n, T, h, t, x) (.inl (0, 1, .inl g) :: .inl (2, 9, .inr f) :: J), 0, 0)) rfl ?_
        refine m_weak [some (.inr (.inl 0)), some (.inr (.inl 13)), some (.inr (.inl 14)), some (.inl n), some (.inl z), some (.inl 1), some (.inl a), some (.inl b), some (.inl lf), some (.inl rt), some (.inl (xv + (-1)))] ⟨rfl, ⟨rfl, ⟨rfl, ⟨rfl, ⟨rfl, ⟨rfl, ⟨rfl, ⟨rfl, ⟨rfl, ⟨rfl, ⟨rfl, trivial⟩⟩⟩⟩⟩⟩⟩⟩⟩⟩⟩ ?_
        rw [show xv + (-1) + 1 = xv by omega] at ih
        refine ih _ _ ?_ ?_
        · rw [fst_f (show xv < n by omega) (decide_eq_false (by show ¬ tb a xv = b; omega))]
          exact e1
        · rw [fst_f (show xv < n by omega) (decide_eq_false (by show ¬ tb xv a = b; omega))]
          exact e2
      · replace zc3 : (tb xv a) = b := Decidable.not_not.mp zc3
        refine m_run 5 (ps' := (51, [some (.inr (.inl 0)), some (.inr (.inl 13)), some (.inr (.inl 14)), some (.inl n), some (.inl z), some (.inl 1), some (.inl a), some (.inl b), some (.inl lf), some (.inl xv), some (.inl (xv + (-1)))], [], mW (n, T, h, t, x) (.inl (0, 1, .inl g) :: .inl (2, 9, .inr f) :: J), 0, 0)) rfl ?_
        refine m_weak [some (.inr (.inl 0)), some (.inr (.inl 13)), some (.inr (.inl 14)), some (.inl n), some (.inl z), some (.inl 1), some (.inl a), some (.inl b), some (.inl lf), some (.inl xv), some (.inl (xv + (-1)))] ⟨rfl, ⟨rfl, ⟨rfl, ⟨rfl, ⟨rfl, ⟨rfl, ⟨rfl, ⟨rfl, ⟨rfl, ⟨rfl, ⟨rfl, trivial⟩⟩⟩⟩⟩⟩⟩⟩⟩⟩⟩ ?_
        rw [show xv + (-1) + 1 = xv by omega] at ih
        refine ih _ _ ?_ ?_
        · rw [fst_f (show xv < n by omega) (decide_eq_false (by show ¬ tb a xv = b; omega))]
          exact e1
        · rw [fst_t (show xv < n by omega) (decide_eq_true (by show tb xv a = b; omega))]
          exact (if_neg (by omega)).symm
    · replace zc2 : (tb a xv) = b := Decidable.not_not.mp zc2
      refine m_run 6 (ps' := (83, [some (.inr (.inl 0)), some (.inr (.inl 13)), some (.inr (.inl 14)), some (.inl n), some (.inl z), some (.inl 1), some (.inl a), some (.inl b), some (.inl xv), some (.inl rt), some (.inl xv)], [.inl a, .inl xv, .inr (.inl 14)], mW (n, T, h, t, x) (.inl (0, 1, .inl g) :: .inl (2, 9, .inr f) :: J), 0, 0)) rfl ?_
      refine m_callSF [.inr (.inl 14), .inl xv, .inl a] [] rfl rfl rfl (a_of (a := xv) (b := a) hL (by omega) (by omega) (by omega) (by omega)) ?_
      have zt2 := (hL.2 xv a (by omega) (by omega) (by omega) (by omega)).2
      show m_Sem X 60 (86, [some (.inr (.inl 0)), some (.inr (.inl 13)), some (.inr (.inl 14)), some (.inl n), some (.inl z), some (.inl 1), some (.inl a), some (.inl b), some (.inl xv), some (.inl rt), some (.inl xv)], [.inl (tb xv a)], mW (n, T, h, t, x) (.inl (0, 1, .inl g) :: .inl (2, 9, .inr f) :: J), 0, 0) _
      refine m_run 1 (ps' := (88, [some (.inr (.inl 0)), some (.inr (.inl 13)), some (.inr (.inl 14)), some (.inl n), some (.inl z), some (.inl 1), some (.inl a), some (.inl b), some (.inl xv), some (.inl rt), some (.inl xv)], [.inl b, .inl (tb xv a)], mW (n, T, h, t, x) (.inl (0, 1, .inl g) :: .inl (2, 9, .inr f) :: J), 0, 0)) rfl ?_
      refine m_icmp rfl ⟨by omega, by omega⟩ ⟨by omega, by omega⟩ (fun (zc3 : ¬ (tb xv a) = b) => ?_) (fun (zc3 : ¬ ¬ (tb xv a) = b) => ?_)
      · refine m_run 4 (ps' := (51, [some (.inr (.inl 0)), some (.inr (.inl 13)), some (.inr (.inl 14)), some (.inl n), some (.inl z), some (.inl 1), some (.inl a), some (.inl b), some (.inl xv), some (.inl rt), some (.inl (xv + (-1)))], [], mW (n, T, h, t, x) (.inl (0, 1, .inl g) :: .inl (2, 9, .inr f) :: J), 0, 0)) rfl ?_
        refine m_weak [some (.inr (.inl 0)), some (.inr (.inl 13)), some (.inr (.inl 14)), some (.inl n), some (.inl z), some (.inl 1), some (.inl a), some (.inl b), some (.inl xv), some (.inl rt), some (.inl (xv + (-1)))] ⟨rfl, ⟨rfl, ⟨rfl, ⟨rfl, ⟨rfl, ⟨rfl, ⟨rfl, ⟨rfl, ⟨rfl, ⟨rfl, ⟨rfl, trivial⟩⟩⟩⟩⟩⟩⟩⟩⟩⟩⟩ ?_
        rw [show xv + (-1) + 1 = xv by omega] at ih
        refine ih _ _ ?_ ?_
        · rw [fst_t (show xv < n by omega) (decide_eq_true (by show tb a xv = b; omega))]
          exact (if_neg (by omega)).symm
        · rw [fst_f (show xv < n by omega) (decide_eq_false (by show ¬ tb xv a = b; omega))]
          exact e2
      · replace zc3 : (tb xv a) = b := Decidable.not_not.mp zc3
        refine m_run 5 (ps' := (51, [some (.inr (.inl 0)), some (.inr (.inl 13)), some (.inr (.inl 14)), some (.inl n), some (.inl z), some (.inl 1), some (.inl a), some (.inl b), some (.inl xv), some (.inl xv), some (.inl (xv + (-1)))], [], mW (n, T, h, t, x) (.inl (0, 1, .inl g) :: .inl (2, 9, .inr f) :: J), 0, 0)) rfl ?_
        refine m_weak [some (.inr (.inl 0)), some (.inr (.inl 13)), some (.inr (.inl 14)), some (.inl n), some (.inl z), some (.inl 1), some (.inl a), some (.inl b), some (.inl xv), some (.inl xv), some (.inl (xv + (-1)))] ⟨rfl, ⟨rfl, ⟨rfl, ⟨rfl, ⟨rfl, ⟨rfl, ⟨rfl, ⟨rfl, ⟨rfl, ⟨rfl, ⟨rfl, trivial⟩⟩⟩⟩⟩⟩⟩⟩⟩⟩⟩ ?_
        rw [show xv + (-1) + 1 = xv by omega] at ih
        refine ih _ _ ?_ ?_
        · rw [fst_t (show xv < n by omega) (decide_eq_true (by show tb a xv = b; omega))]
          exact (if_neg (by omega)).symm
        · rw [fst_t (show xv < n by omega) (decide_eq_true (by show tb xv a = b; omega))]
          exact (if_neg (by omega)).symm
set_option maxHeartbeats 4000000 in
set_option maxRecDepth 100000 in
theorem a_soB {X : Nat × Nat × (Nat → Int32)} {n : Int} {T : Int → Int} {h : HS} {t : TS} {x : XS} {g : Int → Int} {f : Nat → Int64} {J : mPW} {tb : Int → Int → Int} {a v : Int} {Q : Option mPV → mPW → Prop} (hg : g 0 = n) (hL : repL n f tb) (hR : repC n T tb) (ha : 0 ≤ a) (ha2 : a < n) (K : m_Sem X 60 (13, [some (.inr (.inl 0)), some (.inr (.inl 13)), some (.inr (.inl 14)), some (.inl n), some (.inl v), some (.inl 1), some (.inl (a + 1)), none, none, none, none], [], mW (n, T, h, t, x) (.inl (0, 1, .inl g) :: .inl (2, 9, .inr f) :: J), 0, 0) Q) : ∀ b : Int, 0 ≤ b → b ≤ n → ∀ (z : Int) (hu : z + sumF (fun b => if tb a b = 0 then 1 else 0) (n - b).toNat b = v), m_Sem X 60 (27, [some (.inr (.inl 0)), some (.inr (.inl 13)), some (.inr (.inl 14)), some (.inl n), some (.inl z), some (.inl 1), some (.inl a), some (.inl b), none, none, none], [], mW (n, T, h, t, x) (.inl (0, 1, .inl g) :: .inl (2, 9, .inr f) :: J), 0, 0) (Q) := by
  have hn := hL.1
  have hl := okN_lo hn
  refine m_down 0 n ?_ ?_
  · intro z hu
    rw [sum_end] at hu
    have hu : z = v := by omega
    subst hu
    show m_Sem X 60 (27, [some (.inr (.inl 0)), some (.inr (.inl 13)), some (.inr (.inl 14)), some (.inl n), some (.inl z), some (.inl 1), some (.inl a), some (.inl n), none, none, none], [], mW (n, T, h, t, x) (.inl (0, 1, .inl g) :: .inl (2, 9, .inr f) :: J), 0, 0) _
    refine m_run 2 (ps' := (30, [some (.inr (.inl 0)), some (.inr (.inl 13)), some (.inr (.inl 14)), some (.inl n), some (.inl z), some (.inl 1), some (.inl a), some (.inl n), none, none, none], [.inl n, .inl n], mW (n, T, h, t, x) (.inl (0, 1, .inl g) :: .inl (2, 9, .inr f) :: J), 0, 0)) rfl ?_
    refine m_icmp rfl ⟨by omega, by omega⟩ ⟨by omega, by omega⟩ (fun (zc1 : n ≤ n) => ?_) (fun (zc1 : ¬ n ≤ n) => absurd zc1 (not_not_intro (by omega)))
    refine m_run 2 (ps' := (13, [some (.inr (.inl 0)), some (.inr (.inl 13)), some (.inr (.inl 14)), some (.inl n), some (.inl z), some (.inl 1), some (.inl (a + 1)), some (.inl n), none, none, none], [], mW (n, T, h, t, x) (.inl (0, 1, .inl g) :: .inl (2, 9, .inr f) :: J), 0, 0)) rfl ?_
    refine m_weak [some (.inr (.inl 0)), some (.inr (.inl 13)), some (.inr (.inl 14)), some (.inl n), some (.inl z), some (.inl 1), some (.inl (a + 1)), none, none, none, none] ⟨rfl, ⟨rfl, ⟨rfl, ⟨rfl, ⟨rfl, ⟨rfl, ⟨rfl, trivial⟩⟩⟩⟩⟩⟩⟩ ?_
    exact K
  · intro b hi1 hi2 ih z hu
    rw [sum_step hi2] at hu
    refine m_run 2 (ps' := (30, [some (.inr (.inl 0)), some (.inr (.inl 13)), some (.inr (.inl 14)), some (.inl n), some (.inl z), some (.inl 1), some (.inl a), some (.inl b), none, none, none], [.inl n, .inl b], mW (n, T, h, t, x) (.inl (0, 1, .inl g) :: .inl (2, 9, .inr f) :: J), 0, 0)) rfl ?_
    refine m_icmp rfl ⟨by omega, by omega⟩ ⟨by omega, by omega⟩ (fun (zc1 : n ≤ b) => absurd zc1 (by omega)) (fun (zc1 : ¬ n ≤ b) => ?_)
    refine m_run 1 (ps' := (35, [some (.inr (.inl 0)), some (.inr (.inl 13)), some (.inr (.inl 14)), some (.inl n), some (.inl z), some (.inl 1), some (.inl a), some (.inl b), none, none, none], [.inl 1], mW (n, T, h, t, x) (.inl (0, 1, .inl g) :: .inl (2, 9, .inr f) :: J), 0, 0)) rfl ?_
    refine m_if rfl ⟨by omega, by omega⟩ (fun (zc2 : 1 = 0) => absurd zc2 (by omega)) (fun (zc2 : ¬ 1 = 0) => ?_)
    refine m_run 8 (ps' := (51, [some (.inr (.inl 0)), some (.inr (.inl 13)), some (.inr (.inl 14)), some (.inl n), some (.inl z), some (.inl 1), some (.inl a), some (.inl b), some (.inl (-1000004)), some (.inl (-1000004)), some (.inl (n - 1))], [], mW (n, T, h, t, x) (.inl (0, 1, .inl g) :: .inl (2, 9, .inr f) :: J), 0, 0)) rfl ?_
    refine a_soX hg hL ha ha2 hi1 hi2 ?_ (n - 1) (by omega) (by omega) (-1000004) (-1000004) (by rw [show n - 1 + 1 = n by omega, fst_end]; rfl) (by rw [show n - 1 + 1 = n by omega, fst_end]; rfl)
    refine m_run 4 (ps' := (113, [some (.inr (.inl 0)), some (.inr (.inl 13)), some (.inr (.inl 14)), some (.inl n), some (.inl z), some (.inl 1), some (.inl a), some (.inl b), some (.inl (onfS (facS n tb true a b))), some (.inl (onfS (facS n tb false a b))), some (.inl (-1))], [.inl b, .inl a, .inr (.inl 14), .inl z], mW (n, T, h, t, x) (.inl (0, 1, .inl g) :: .inl (2, 9, .inr f) :: J), 0, 0)) rfl ?_
    refine m_callSF [.inr (.inl 14), .inl a, .inl b] [.inl z] rfl rfl rfl (a_of (a := a) (b := b) hL (by omega) (by omega) (by omega) (by omega)) ?_
    have zt1 := (hL.2 a b (by omega) (by omega) (by omega) (by omega)).2
    show m_Sem X 60 (116, [some (.inr (.inl 0)), some (.inr (.inl 13)), some (.inr (.inl 14)), some (.inl n), some (.inl z), some (.inl 1), some (.inl a), some (.inl b), some (.inl (onfS (facS n tb true a b))), some (.inl (onfS (facS n tb false a b))), some (.inl (-1))], [.inl (tb a b), .inl z], mW (n, T, h, t, x) (.inl (0, 1, .inl g) :: .inl (2, 9, .inr f) :: J), 0, 0) _
    refine m_if rfl ⟨by omega, by omega⟩ (fun (zc3 : ¬ (tb a b) = 0) => ?_) (fun (zc3 : ¬ ¬ (tb a b) = 0) => ?_)
    · refine m_run 7 (ps' := (133, [some (.inr (.inl 0)), some (.inr (.inl 13)), some (.inr (.inl 14)), some (.inl n), some (.inl (z + 0)), some (.inl 1), some (.inl a), some (.inl b), some (.inl (onfS (facS n tb true a b))), some (.inl (onfS (facS n tb false a b))), some (.inl (-1))], [.inl 0, .inl b, .inl a, .inr (.inl 0)], mW (n, T, h, t, x) (.inl (0, 1, .inl g) :: .inl (2, 9, .inr f) :: J), 0, 0)) rfl ?_
      refine m_callVF [.inl a, .inl b, .inl 0] [] rfl rfl ⟨_, rfl, rfl⟩ rfl rfl (a_by0 (a := a) (b := b) hR (by omega) (by omega) (by omega) (by omega)) ?_
      have zt2 := sumS_in (n := n) (a := a) (b := b) hn (by omega) (by omega) (by omega) (by omega)
      show m_Sem X 60 (136, [some (.inr (.inl 0)), some (.inr (.inl 13)), some (.inr (.inl 14)), some (.inl n), some (.inl (z + 0)), some (.inl 1), some (.inl a), some (.inl b), some (.inl (onfS (facS n tb true a b))), some (.inl (onfS (facS n tb false a b))), some (.inl (-1))], [.inl (sumS n a b)], mW (n, T, h, t, x) (.inl (0, 1, .inl g) :: .inl (2, 9, .inr f) :: J), 0, 0) _
      refine m_run 3 (ps' := (141, [some (.inr (.inl 0)), some (.inr (.inl 13)), some (.inr (.inl 14)), some (.inl n), some (.inl (z + 0)), some (.inl 1), some (.inl a), some (.inl b), some (.inl (onfS (facS n tb true a b))), some (.inl (onfS (facS n tb false a b))), some (.inl (-1))], [.inl b, .inl a, .inr (.inl 13), .inl (sumS n a b)], mW (n, T, h, t, x) (.inl (0, 1, .inl g) :: .inl (2, 9, .inr f) :: J), 0, 0)) rfl ?_
      refine m_callSF [.inr (.inl 13), .inl a, .inl b] [.inl (sumS n a b)] rfl rfl rfl (a_add (a := a) (b := b) hg hn (by omega) (by omega) (by omega) (by omega)) ?_
      have zt3 := sumS_in (n := n) (a := a) (b := b) hn (by omega) (by omega) (by omega) (by omega)
      show m_Sem X 60 (144, [some (.inr (.inl 0)), some (.inr (.inl 13)), some (.inr (.inl 14)), some (.inl n), some (.inl (z + 0)), some (.inl 1), some (.inl a), some (.inl b), some (.inl (onfS (facS n tb true a b))), some (.inl (onfS (facS n tb false a b))), some (.inl (-1))], [.inl (sumS n a b), .inl (sumS n a b)], mW (n, T, h, t, x) (.inl (0, 1, .inl g) :: .inl (2, 9, .inr f) :: J), 0, 0) _
      refine m_icmp rfl ⟨by omega, by omega⟩ ⟨by omega, by omega⟩ (fun (zc4 : ¬ (sumS n a b) = (sumS n a b)) => absurd zc4 (by omega)) (fun (zc4 : ¬ ¬ (sumS n a b) = (sumS n a b)) => ?_)
      replace zc4 : (sumS n a b) = (sumS n a b) := Decidable.not_not.mp zc4
      refine m_run 4 (ps' := (153, [some (.inr (.inl 0)), some (.inr (.inl 13)), some (.inr (.inl 14)), some (.inl n), some (.inl (z + 0)), some (.inl 1), some (.inl a), some (.inl b), some (.inl (onfS (facS n tb true a b))), some (.inl (onfS (facS n tb false a b))), some (.inl (-1))], [.inl 1, .inl b, .inl a, .inr (.inl 0)], mW (n, T, h, t, x) (.inl (0, 1, .inl g) :: .inl (2, 9, .inr f) :: J), 0, 0)) rfl ?_
      refine m_callVF [.inl a, .inl b, .inl 1] [] rfl rfl ⟨_, rfl, rfl⟩ rfl rfl (a_by1 (a := a) (b := b) hR (by omega) (by omega) (by omega) (by omega)) ?_
      have zt4 := difS_in (n := n) (a := a) (b := b) hn (by omega) (by omega) (by omega) (by omega)
      have zt5 := dif_add (n := n) (a := a) (b := b) hn (by omega) (by omega) (by omega) (by omega)
      show m_Sem X 60 (156, [some (.inr (.inl 0)), some (.inr (.inl 13)), some (.inr (.inl 14)), some (.inl n), some (.inl (z + 0)), some (.inl 1), some (.inl a), some (.inl b), some (.inl (onfS (facS n tb true a b))), some (.inl (onfS (facS n tb false a b))), some (.inl (-1))], [.inl (difS n a b)], mW (n, T, h, t, x) (.inl (0, 1, .inl g) :: .inl (2, 9, .inr f) :: J), 0, 0) _
      refine m_run 3 (ps' := (161, [some (.inr (.inl 0)), some (.inr (.inl 13)), some (.inr (.inl 14)), some (.inl n), some (.inl (z + 0)), some (.inl 1), some (.inl a), some (.inl b), some (.inl (onfS (facS n tb true a b))), some (.inl (onfS (facS n tb false a b))), some (.inl (-1))], [.inl b, .inl a, .inr (.inl 13), .inl (difS n a b)], mW (n, T, h, t, x) (.inl (0, 1, .inl g) :: .inl (2, 9, .inr f) :: J), 0, 0)) rfl ?_
      refine m_callSF [.inr (.inl 13), .inl a, .inl b] [.inl (difS n a b)] rfl rfl rfl (a_min (a := a) (b := b) hg hn (by omega) (by omega) (by omega) (by omega)) ?_
      have zt6 := difS_in (n := n) (a := a) (b := b) hn (by omega) (by omega) (by omega) (by omega)
      show m_Sem X 60 (164, [some (.inr (.inl 0)), some (.inr (.inl 13)), some (.inr (.inl 14)), some (.inl n), some (.inl (z + 0)), some (.inl 1), some (.inl a), some (.inl b), some (.inl (onfS (facS n tb true a b))), some (.inl (onfS (facS n tb false a b))), some (.inl (-1))], [.inl (difS n a b), .inl (difS n a b)], mW (n, T, h, t, x) (.inl (0, 1, .inl g) :: .inl (2, 9, .inr f) :: J), 0, 0) _
      refine m_icmp rfl ⟨by omega, by omega⟩ ⟨by omega, by omega⟩ (fun (zc5 : ¬ (difS n a b) = (difS n a b)) => absurd zc5 (by omega)) (fun (zc5 : ¬ ¬ (difS n a b) = (difS n a b)) => ?_)
      replace zc5 : (difS n a b) = (difS n a b) := Decidable.not_not.mp zc5
      refine m_run 4 (ps' := (173, [some (.inr (.inl 0)), some (.inr (.inl 13)), some (.inr (.inl 14)), some (.inl n), some (.inl (z + 0)), some (.inl 1), some (.inl a), some (.inl b), some (.inl (onfS (facS n tb true a b))), some (.inl (onfS (facS n tb false a b))), some (.inl (-1))], [.inl 2, .inl b, .inl a, .inr (.inl 0)], mW (n, T, h, t, x) (.inl (0, 1, .inl g) :: .inl (2, 9, .inr f) :: J), 0, 0)) rfl ?_
      refine m_callVF [.inl a, .inl b, .inl 2] [] rfl rfl ⟨_, rfl, rfl⟩ rfl rfl (a_by2 (a := a) (b := b) hR (by omega) (by omega) (by omega) (by omega)) ?_
      have zt7 := (hL.2 a b (by omega) (by omega) (by omega) (by omega)).2
      show m_Sem X 60 (176, [some (.inr (.inl 0)), some (.inr (.inl 13)), some (.inr (.inl 14)), some (.inl n), some (.inl (z + 0)), some (.inl 1), some (.inl a), some (.inl b), some (.inl (onfS (facS n tb true a b))), some (.inl (onfS (facS n tb false a b))), some (.inl (-1))], [.inl (tb a b)], mW (n, T, h, t, x) (.inl (0, 1, .inl g) :: .inl (2, 9, .inr f) :: J), 0, 0) _
      refine m_run 3 (ps' := (181, [some (.inr (.inl 0)), some (.inr (.inl 13)), some (.inr (.inl 14)), some (.inl n), some (.inl (z + 0)), some (.inl 1), some (.inl a), some (.inl b), some (.inl (onfS (facS n tb true a b))), some (.inl (onfS (facS n tb false a b))), some (.inl (-1))], [.inl b, .inl a, .inr (.inl 14), .inl (tb a b)], mW (n, T, h, t, x) (.inl (0, 1, .inl g) :: .inl (2, 9, .inr f) :: J), 0, 0)) rfl ?_
      refine m_callSF [.inr (.inl 14), .inl a, .inl b] [.inl (tb a b)] rfl rfl rfl (a_of (a := a) (b := b) hL (by omega) (by omega) (by omega) (by omega)) ?_
      have zt8 := (hL.2 a b (by omega) (by omega) (by omega) (by omega)).2
      show m_Sem X 60 (184, [some (.inr (.inl 0)), some (.inr (.inl 13)), some (.inr (.inl 14)), some (.inl n), some (.inl (z + 0)), some (.inl 1), some (.inl a), some (.inl b), some (.inl (onfS (facS n tb true a b))), some (.inl (onfS (facS n tb false a b))), some (.inl (-1))], [.inl (tb a b), .inl (tb a b)], mW (n, T, h, t, x) (.inl (0, 1, .inl g) :: .inl (2, 9, .inr f) :: J), 0, 0) _
      refine m_icmp rfl ⟨by omega, by omega⟩ ⟨by omega, by omega⟩ (fun (zc6 : ¬ (tb a b) = (tb a b)) => absurd zc6 (by omega)) (fun (zc6 : ¬ ¬ (tb a b) = (tb a b)) => ?_)
      replace zc6 : (tb a b) = (tb a b) := Decidable.not_not.mp zc6
      refine m_run 4 (ps' := (193, [some (.inr (.inl 0)), some (.inr (.inl 13)), some (.inr (.inl 14)), some (.inl n), some (.inl (z + 0)), some (.inl 1), some (.inl a), some (.inl b), some (.inl (onfS (facS n tb true a b))), some (.inl (onfS (facS n tb false a b))), some (.inl (-1))], [.inl 3, .inl b, .inl a, .inr (.inl 0)], mW (n, T, h, t, x) (.inl (0, 1, .inl g) :: .inl (2, 9, .inr f) :: J), 0, 0)) rfl ?_
      refine m_callVF [.inl a, .inl b, .inl 3] [] rfl rfl ⟨_, rfl, rfl⟩ rfl rfl (a_by3 (a := a) (b := b) hR (by omega) (by omega) (by omega) (by omega)) ?_
      have zt9 := onf_in (tb := tb) (r := true) (a := a) (b := b) hn
      show m_Sem X 60 (196, [some (.inr (.inl 0)), some (.inr (.inl 13)), some (.inr (.inl 14)), some (.inl n), some (.inl (z + 0)), some (.inl 1), some (.inl a), some (.inl b), some (.inl (onfS (facS n tb true a b))), some (.inl (onfS (facS n tb false a b))), some (.inl (-1))], [.inl (onfS (facS n tb true a b))], mW (n, T, h, t, x) (.inl (0, 1, .inl g) :: .inl (2, 9, .inr f) :: J), 0, 0) _
      refine m_run 1 (ps' := (198, [some (.inr (.inl 0)), some (.inr (.inl 13)), some (.inr (.inl 14)), some (.inl n), some (.inl (z + 0)), some (.inl 1), some (.inl a), some (.inl b), some (.inl (onfS (facS n tb true a b))), some (.inl (onfS (facS n tb false a b))), some (.inl (-1))], [.inl (onfS (facS n tb true a b)), .inl (onfS (facS n tb true a b))], mW (n, T, h, t, x) (.inl (0, 1, .inl g) :: .inl (2, 9, .inr f) :: J), 0, 0)) rfl ?_
      refine m_icmp rfl ⟨by omega, by omega⟩ ⟨by omega, by omega⟩ (fun (zc7 : ¬ (onfS (facS n tb true a b)) = (onfS (facS n tb true a b))) => absurd zc7 (by omega)) (fun (zc7 : ¬ ¬ (onfS (facS n tb true a b)) = (onfS (facS n tb true a b))) => ?_)
      replace zc7 : (onfS (facS n tb true a b)) = (onfS (facS n tb true a b)) := Decidable.not_not.mp zc7
      refine m_run 4 (ps' := (207, [some (.inr (.inl 0)), some (.inr (.inl 13)), some (.inr (.inl 14)), some (.inl n), some (.inl (z + 0)), some (.inl 1), some (.inl a), some (.inl b), some (.inl (onfS (facS n tb true a b))), some (.inl (onfS (facS n tb false a b))), some (.inl (-1))], [.inl 4, .inl b, .inl a, .inr (.inl 0)], mW (n, T, h, t, x) (.inl (0, 1, .inl g) :: .inl (2, 9, .inr f) :: J), 0, 0)) rfl ?_
      refine m_callVF [.inl a, .inl b, .inl 4] [] rfl rfl ⟨_, rfl, rfl⟩ rfl rfl (a_by4 (a := a) (b := b) hR (by omega) (by omega) (by omega) (by omega)) ?_
      have zt10 := onf_in (tb := tb) (r := false) (a := a) (b := b) hn
      show m_Sem X 60 (210, [some (.inr (.inl 0)), some (.inr (.inl 13)), some (.inr (.inl 14)), some (.inl n), some (.inl (z + 0)), some (.inl 1), some (.inl a), some (.inl b), some (.inl (onfS (facS n tb true a b))), some (.inl (onfS (facS n tb false a b))), some (.inl (-1))], [.inl (onfS (facS n tb false a b))], mW (n, T, h, t, x) (.inl (0, 1, .inl g) :: .inl (2, 9, .inr f) :: J), 0, 0) _
      refine m_run 1 (ps' := (212, [some (.inr (.inl 0)), some (.inr (.inl 13)), some (.inr (.inl 14)), some (.inl n), some (.inl (z + 0)), some (.inl 1), some (.inl a), some (.inl b), some (.inl (onfS (facS n tb true a b))), some (.inl (onfS (facS n tb false a b))), some (.inl (-1))], [.inl (onfS (facS n tb false a b)), .inl (onfS (facS n tb false a b))], mW (n, T, h, t, x) (.inl (0, 1, .inl g) :: .inl (2, 9, .inr f) :: J), 0, 0)) rfl ?_
      refine m_icmp rfl ⟨by omega, by omega⟩ ⟨by omega, by omega⟩ (fun (zc8 : ¬ (onfS (facS n tb false a b)) = (onfS (facS n tb false a b))) => absurd zc8 (by omega)) (fun (zc8 : ¬ ¬ (onfS (facS n tb false a b)) = (onfS (facS n tb false a b))) => ?_)
      replace zc8 : (onfS (facS n tb false a b)) = (onfS (facS n tb false a b)) := Decidable.not_not.mp zc8
      refine m_run 4 (ps' := (221, [some (.inr (.inl 0)), some (.inr (.inl 13)), some (.inr (.inl 14)), some (.inl n), some (.inl (z + 0)), some (.inl 1), some (.inl a), some (.inl b), some (.inl (onfS (facS n tb true a b))), some (.inl (onfS (facS n tb false a b))), some (.inl (-1))], [.inl 5, .inl b, .inl a, .inr (.inl 0)], mW (n, T, h, t, x) (.inl (0, 1, .inl g) :: .inl (2, 9, .inr f) :: J), 0, 0)) rfl ?_
      refine m_callVF [.inl a, .inl b, .inl 5] [] rfl rfl ⟨_, rfl, rfl⟩ rfl rfl (a_by5 (a := a) (b := b) hR (by omega) (by omega) (by omega) (by omega)) ?_
      show m_Sem X 60 (224, [some (.inr (.inl 0)), some (.inr (.inl 13)), some (.inr (.inl 14)), some (.inl n), some (.inl (z + 0)), some (.inl 1), some (.inl a), some (.inl b), some (.inl (onfS (facS n tb true a b))), some (.inl (onfS (facS n tb false a b))), some (.inl (-1))], [.inl (-1000001)], mW (n, T, h, t, x) (.inl (0, 1, .inl g) :: .inl (2, 9, .inr f) :: J), 0, 0) _
      refine m_run 1 (ps' := (226, [some (.inr (.inl 0)), some (.inr (.inl 13)), some (.inr (.inl 14)), some (.inl n), some (.inl (z + 0)), some (.inl 1), some (.inl a), some (.inl b), some (.inl (onfS (facS n tb true a b))), some (.inl (onfS (facS n tb false a b))), some (.inl (-1))], [.inl (-1000001), .inl (-1000001)], mW (n, T, h, t, x) (.inl (0, 1, .inl g) :: .inl (2, 9, .inr f) :: J), 0, 0)) rfl ?_
      refine m_icmp rfl ⟨by omega, by omega⟩ ⟨by omega, by omega⟩ (fun (zc9 : ¬ (-1000001) = (-1000001)) => absurd zc9 (by omega)) (fun (zc9 : ¬ ¬ (-1000001) = (-1000001)) => ?_)
      refine m_run 4 (ps' := (238, [some (.inr (.inl 0)), some (.inr (.inl 13)), some (.inr (.inl 14)), some (.inl n), some (.inl (z + 0)), some (.inl 1), some (.inl a), some (.inl b), some (.inl (onfS (facS n tb true a b))), some (.inl (onfS (facS n tb false a b))), some (.inl (-1))], [.inl 1], mW (n, T, h, t, x) (.inl (0, 1, .inl g) :: .inl (2, 9, .inr f) :: J), 0, 0)) rfl ?_
      refine m_if rfl ⟨by omega, by omega⟩ (fun (zc10 : 1 = 0) => absurd zc10 (by omega)) (fun (zc10 : ¬ 1 = 0) => ?_)
      refine m_run 5 (ps' := (248, [some (.inr (.inl 0)), some (.inr (.inl 13)), some (.inr (.inl 14)), some (.inl n), some (.inl (z + 0)), some (.inl 1), some (.inl a), some (.inl b), some (.inl (onfS (facS n tb true a b))), some (.inl (onfS (facS n tb false a b))), some (.inl (-1))], [.inl 1, .inl b, .inl a, .inr (.inl 0), .inr (.inl 0)], mW (n, T, h, t, x) (.inl (0, 1, .inl g) :: .inl (2, 9, .inr f) :: J), 0, 0)) rfl ?_
      refine m_callVF [.inl a, .inl b, .inl 1] [.inr (.inl 0)] rfl rfl ⟨_, rfl, rfl⟩ rfl rfl (a_by1 (a := a) (b := b) hR (by omega) (by omega) (by omega) (by omega)) ?_
      have zt11 := difS_in (n := n) (a := a) (b := b) hn (by omega) (by omega) (by omega) (by omega)
      have zt12 := dif_add (n := n) (a := a) (b := b) hn (by omega) (by omega) (by omega) (by omega)
      show m_Sem X 60 (251, [some (.inr (.inl 0)), some (.inr (.inl 13)), some (.inr (.inl 14)), some (.inl n), some (.inl (z + 0)), some (.inl 1), some (.inl a), some (.inl b), some (.inl (onfS (facS n tb true a b))), some (.inl (onfS (facS n tb false a b))), some (.inl (-1))], [.inl (difS n a b), .inr (.inl 0)], mW (n, T, h, t, x) (.inl (0, 1, .inl g) :: .inl (2, 9, .inr f) :: J), 0, 0) _
      refine m_run 2 (ps' := (254, [some (.inr (.inl 0)), some (.inr (.inl 13)), some (.inr (.inl 14)), some (.inl n), some (.inl (z + 0)), some (.inl 1), some (.inl a), some (.inl b), some (.inl (onfS (facS n tb true a b))), some (.inl (onfS (facS n tb false a b))), some (.inl (-1))], [.inl 0, .inl b, .inl (difS n a b), .inr (.inl 0)], mW (n, T, h, t, x) (.inl (0, 1, .inl g) :: .inl (2, 9, .inr f) :: J), 0, 0)) rfl ?_
      refine m_callVF [.inl (difS n a b), .inl b, .inl 0] [] rfl rfl ⟨_, rfl, rfl⟩ rfl rfl (a_by0 (a := (difS n a b)) (b := b) hR (by omega) (by omega) (by omega) (by omega)) ?_
      have zt13 := sumS_in (n := n) (a := (difS n a b)) (b := b) hn (by omega) (by omega) (by omega) (by omega)
      show m_Sem X 60 (257, [some (.inr (.inl 0)), some (.inr (.inl 13)), some (.inr (.inl 14)), some (.inl n), some (.inl (z + 0)), some (.inl 1), some (.inl a), some (.inl b), some (.inl (onfS (facS n tb true a b))), some (.inl (onfS (facS n tb false a b))), some (.inl (-1))], [.inl (sumS n (difS n a b) b)], mW (n, T, h, t, x) (.inl (0, 1, .inl g) :: .inl (2, 9, .inr f) :: J), 0, 0) _
      refine m_run 1 (ps' := (259, [some (.inr (.inl 0)), some (.inr (.inl 13)), some (.inr (.inl 14)), some (.inl n), some (.inl (z + 0)), some (.inl 1), some (.inl a), some (.inl b), some (.inl (onfS (facS n tb true a b))), some (.inl (onfS (facS n tb false a b))), some (.inl (-1))], [.inl a, .inl (sumS n (difS n a b) b)], mW (n, T, h, t, x) (.inl (0, 1, .inl g) :: .inl (2, 9, .inr f) :: J), 0, 0)) rfl ?_
      refine m_icmp rfl ⟨by omega, by omega⟩ ⟨by omega, by omega⟩ (fun (zc11 : ¬ (sumS n (difS n a b) b) = a) => absurd zc11 (by omega)) (fun (zc11 : ¬ ¬ (sumS n (difS n a b) b) = a) => ?_)
      replace zc11 : (sumS n (difS n a b) b) = a := Decidable.not_not.mp zc11
      refine m_run 5 (ps' := (27, [some (.inr (.inl 0)), some (.inr (.inl 13)), some (.inr (.inl 14)), some (.inl n), some (.inl (z + 0)), some (.inl 1), some (.inl a), some (.inl (b + 1)), some (.inl (onfS (facS n tb true a b))), some (.inl (onfS (facS n tb false a b))), some (.inl (-1))], [], mW (n, T, h, t, x) (.inl (0, 1, .inl g) :: .inl (2, 9, .inr f) :: J), 0, 0)) rfl ?_
      refine m_weak [some (.inr (.inl 0)), some (.inr (.inl 13)), some (.inr (.inl 14)), some (.inl n), some (.inl (z + 0)), some (.inl 1), some (.inl a), some (.inl (b + 1)), none, none, none] ⟨rfl, ⟨rfl, ⟨rfl, ⟨rfl, ⟨rfl, ⟨rfl, ⟨rfl, ⟨rfl, trivial⟩⟩⟩⟩⟩⟩⟩⟩ ?_
      refine ih _ ?_
      rw [← hu]
      simp only [zc2, if_true, if_false]
      omega
    · replace zc3 : (tb a b) = 0 := Decidable.not_not.mp zc3
      refine m_run 8 (ps' := (133, [some (.inr (.inl 0)), some (.inr (.inl 13)), some (.inr (.inl 14)), some (.inl n), some (.inl (z + 1)), some (.inl 1), some (.inl a), some (.inl b), some (.inl (onfS (facS n tb true a b))), some (.inl (onfS (facS n tb false a b))), some (.inl (-1))], [.inl 0, .inl b, .inl a, .inr (.inl 0)], mW (n, T, h, t, x) (.inl (0, 1, .inl g) :: .inl (2, 9, .inr f) :: J), 0, 0)) rfl ?_
      refine m_callVF [.inl a, .inl b, .inl 0] [] rfl rfl ⟨_, rfl, rfl⟩ rfl rfl (a_by0 (a := a) (b := b) hR (by omega) (by omega) (by omega) (by omega)) ?_
      have zt2 := sumS_in (n := n) (a := a) (b := b) hn (by omega) (by omega) (by omega) (by omega)
      show m_Sem X 60 (136, [some (.inr (.inl 0)), some (.inr (.inl 13)), some (.inr (.inl 14)), some (.inl n), some (.inl (z + 1)), some (.inl 1), some (.inl a), some (.inl b), some (.inl (onfS (facS n tb true a b))), some (.inl (onfS (facS n tb false a b))), some (.inl (-1))], [.inl (sumS n a b)], mW (n, T, h, t, x) (.inl (0, 1, .inl g) :: .inl (2, 9, .inr f) :: J), 0, 0) _
      refine m_run 3 (ps' := (141, [some (.inr (.inl 0)), some (.inr (.inl 13)), some (.inr (.inl 14)), some (.inl n), some (.inl (z + 1)), some (.inl 1), some (.inl a), some (.inl b), some (.inl (onfS (facS n tb true a b))), some (.inl (onfS (facS n tb false a b))), some (.inl (-1))], [.inl b, .inl a, .inr (.inl 13), .inl (sumS n a b)], mW (n, T, h, t, x) (.inl (0, 1, .inl g) :: .inl (2, 9, .inr f) :: J), 0, 0)) rfl ?_
      refine m_callSF [.inr (.inl 13), .inl a, .inl b] [.inl (sumS n a b)] rfl rfl rfl (a_add (a := a) (b := b) hg hn (by omega) (by omega) (by omega) (by omega)) ?_
      have zt3 := sumS_in (n := n) (a := a) (b := b) hn (by omega) (by omega) (by omega) (by omega)
      show m_Sem X 60 (144, [some (.inr (.inl 0)), some (.inr (.inl 13)), some (.inr (.inl 14)), some (.inl n), some (.inl (z + 1)), some (.inl 1), some (.inl a), some (.inl b), some (.inl (onfS (facS n tb true a b))), some (.inl (onfS (facS n tb false a b))), some (.inl (-1))], [.inl (sumS n a b), .inl (sumS n a b)], mW (n, T, h, t, x) (.inl (0, 1, .inl g) :: .inl (2, 9, .inr f) :: J), 0, 0) _
      refine m_icmp rfl ⟨by omega, by omega⟩ ⟨by omega, by omega⟩ (fun (zc4 : ¬ (sumS n a b) = (sumS n a b)) => absurd zc4 (by omega)) (fun (zc4 : ¬ ¬ (sumS n a b) = (sumS n a b)) => ?_)
      replace zc4 : (sumS n a b) = (sumS n a b) := Decidable.not_not.mp zc4
      refine m_run 4 (ps' := (153, [some (.inr (.inl 0)), some (.inr (.inl 13)), some (.inr (.inl 14)), some (.inl n), some (.inl (z + 1)), some (.inl 1), some (.inl a), some (.inl b), some (.inl (onfS (facS n tb true a b))), some (.inl (onfS (facS n tb false a b))), some (.inl (-1))], [.inl 1, .inl b, .inl a, .inr (.inl 0)], mW (n, T, h, t, x) (.inl (0, 1, .inl g) :: .inl (2, 9, .inr f) :: J), 0, 0)) rfl ?_
      refine m_callVF [.inl a, .inl b, .inl 1] [] rfl rfl ⟨_, rfl, rfl⟩ rfl rfl (a_by1 (a := a) (b := b) hR (by omega) (by omega) (by omega) (by omega)) ?_
      have zt4 := difS_in (n := n) (a := a) (b := b) hn (by omega) (by omega) (by omega) (by omega)
      have zt5 := dif_add (n := n) (a := a) (b := b) hn (by omega) (by omega) (by omega) (by omega)
      show m_Sem X 60 (156, [some (.inr (.inl 0)), some (.inr (.inl 13)), some (.inr (.inl 14)), some (.inl n), some (.inl (z + 1)), some (.inl 1), some (.inl a), some (.inl b), some (.inl (onfS (facS n tb true a b))), some (.inl (onfS (facS n tb false a b))), some (.inl (-1))], [.inl (difS n a b)], mW (n, T, h, t, x) (.inl (0, 1, .inl g) :: .inl (2, 9, .inr f) :: J), 0, 0) _
      refine m_run 3 (ps' := (161, [some (.inr (.inl 0)), some (.inr (.inl 13)), some (.inr (.inl 14)), some (.inl n), some (.inl (z + 1)), some (.inl 1), some (.inl a), some (.inl b), some (.inl (onfS (facS n tb true a b))), some (.inl (onfS (facS n tb false a b))), some (.inl (-1))], [.inl b, .inl a, .inr (.inl 13), .inl (difS n a b)], mW (n, T, h, t, x) (.inl (0, 1, .inl g) :: .inl (2, 9, .inr f) :: J), 0, 0)) rfl ?_
      refine m_callSF [.inr (.inl 13), .inl a, .inl b] [.inl (difS n a b)] rfl rfl rfl (a_min (a := a) (b := b) hg hn (by omega) (by omega) (by omega) (by omega)) ?_
      have zt6 := difS_in (n := n) (a := a) (b := b) hn (by omega) (by omega) (by omega) (by omega)
      show m_Sem X 60 (164, [some (.inr (.inl 0)), some (.inr (.inl 13)), some (.inr (.inl 14)), some (.inl n), some (.inl (z + 1)), some (.inl 1), some (.inl a), some (.inl b), some (.inl (onfS (facS n tb true a b))), some (.inl (onfS (facS n tb false a b))), some (.inl (-1))], [.inl (difS n a b), .inl (difS n a b)], mW (n, T, h, t, x) (.inl (0, 1, .inl g) :: .inl (2, 9, .inr f) :: J), 0, 0) _
      refine m_icmp rfl ⟨by omega, by omega⟩ ⟨by omega, by omega⟩ (fun (zc5 : ¬ (difS n a b) = (difS n a b)) => absurd zc5 (by omega)) (fun (zc5 : ¬ ¬ (difS n a b) = (difS n a b)) => ?_)
      replace zc5 : (difS n a b) = (difS n a b) := Decidable.not_not.mp zc5
      refine m_run 4 (ps' := (173, [some (.inr (.inl 0)), some (.inr (.inl 13)), some (.inr (.inl 14)), some (.inl n), some (.inl (z + 1)), some (.inl 1), some (.inl a), some (.inl b), some (.inl (onfS (facS n tb true a b))), some (.inl (onfS (facS n tb false a b))), some (.inl (-1))], [.inl 2, .inl b, .inl a, .inr (.inl 0)], mW (n, T, h, t, x) (.inl (0, 1, .inl g) :: .inl (2, 9, .inr f) :: J), 0, 0)) rfl ?_
      refine m_callVF [.inl a, .inl b, .inl 2] [] rfl rfl ⟨_, rfl, rfl⟩ rfl rfl (a_by2 (a := a) (b := b) hR (by omega) (by omega) (by omega) (by omega)) ?_
      have zt7 := (hL.2 a b (by omega) (by omega) (by omega) (by omega)).2
      show m_Sem X 60 (176, [some (.inr (.inl 0)), some (.inr (.inl 13)), some (.inr (.inl 14)), some (.inl n), some (.inl (z + 1)), some (.inl 1), some (.inl a), some (.inl b), some (.inl (onfS (facS n tb true a b))), some (.inl (onfS (facS n tb false a b))), some (.inl (-1))], [.inl (tb a b)], mW (n, T, h, t, x) (.inl (0, 1, .inl g) :: .inl (2, 9, .inr f) :: J), 0, 0) _
      refine m_run 3 (ps' := (181, [some (.inr (.inl 0)), some (.inr (.inl 13)), some (.inr (.inl 14)), some (.inl n), some (.inl (z + 1)), some (.inl 1), some (.inl a), some (.inl b), some (.inl (onfS (facS n tb true a b))), some (.inl (onfS (facS n tb false a b))), some (.inl (-1))], [.inl b, .inl a, .inr (.inl 14), .inl (tb a b)], mW (n, T, h, t, x) (.inl (0, 1, .inl g) :: .inl (2, 9, .inr f) :: J), 0, 0)) rfl ?_
      refine m_callSF [.inr (.inl 14), .inl a, .inl b] [.inl (tb a b)] rfl rfl rfl (a_of (a := a) (b := b) hL (by omega) (by omega) (by omega) (by omega)) ?_
      have zt8 := (hL.2 a b (by omega) (by omega) (by omega) (by omega)).2
      show m_Sem X 60 (184, [some (.inr (.inl 0)), some (.inr (.inl 13)), some (.inr (.inl 14)), some (.inl n), some (.inl (z + 1)), some (.inl 1), some (.inl a), some (.inl b), some (.inl (onfS (facS n tb true a b))), some (.inl (onfS (facS n tb false a b))), some (.inl (-1))], [.inl (tb a b), .inl (tb a b)], mW (n, T, h, t, x) (.inl (0, 1, .inl g) :: .inl (2, 9, .inr f) :: J), 0, 0) _
      refine m_icmp rfl ⟨by omega, by omega⟩ ⟨by omega, by omega⟩ (fun (zc6 : ¬ (tb a b) = (tb a b)) => absurd zc6 (by omega)) (fun (zc6 : ¬ ¬ (tb a b) = (tb a b)) => ?_)
      replace zc6 : (tb a b) = (tb a b) := Decidable.not_not.mp zc6
      refine m_run 4 (ps' := (193, [some (.inr (.inl 0)), some (.inr (.inl 13)), some (.inr (.inl 14)), some (.inl n), some (.inl (z + 1)), some (.inl 1), some (.inl a), some (.inl b), some (.inl (onfS (facS n tb true a b))), some (.inl (onfS (facS n tb false a b))), some (.inl (-1))], [.inl 3, .inl b, .inl a, .inr (.inl 0)], mW (n, T, h, t, x) (.inl (0, 1, .inl g) :: .inl (2, 9, .inr f) :: J), 0, 0)) rfl ?_
      refine m_callVF [.inl a, .inl b, .inl 3] [] rfl rfl ⟨_, rfl, rfl⟩ rfl rfl (a_by3 (a := a) (b := b) hR (by omega) (by omega) (by omega) (by omega)) ?_
      have zt9 := onf_in (tb := tb) (r := true) (a := a) (b := b) hn
      show m_Sem X 60 (196, [some (.inr (.inl 0)), some (.inr (.inl 13)), some (.inr (.inl 14)), some (.inl n), some (.inl (z + 1)), some (.inl 1), some (.inl a), some (.inl b), some (.inl (onfS (facS n tb true a b))), some (.inl (onfS (facS n tb false a b))), some (.inl (-1))], [.inl (onfS (facS n tb true a b))], mW (n, T, h, t, x) (.inl (0, 1, .inl g) :: .inl (2, 9, .inr f) :: J), 0, 0) _
      refine m_run 1 (ps' := (198, [some (.inr (.inl 0)), some (.inr (.inl 13)), some (.inr (.inl 14)), some (.inl n), some (.inl (z + 1)), some (.inl 1), some (.inl a), some (.inl b), some (.inl (onfS (facS n tb true a b))), some (.inl (onfS (facS n tb false a b))), some (.inl (-1))], [.inl (onfS (facS n tb true a b)), .inl (onfS (facS n tb true a b))], mW (n, T, h, t, x) (.inl (0, 1, .inl g) :: .inl (2, 9, .inr f) :: J), 0, 0)) rfl ?_
      refine m_icmp rfl ⟨by omega, by omega⟩ ⟨by omega, by omega⟩ (fun (zc7 : ¬ (onfS (facS n tb true a b)) = (onfS (facS n tb true a b))) => absurd zc7 (by omega)) (fun (zc7 : ¬ ¬ (onfS (facS n tb true a b)) = (onfS (facS n tb true a b))) => ?_)
      replace zc7 : (onfS (facS n tb true a b)) = (onfS (facS n tb true a b)) := Decidable.not_not.mp zc7
      refine m_run 4 (ps' := (207, [some (.inr (.inl 0)), some (.inr (.inl 13)), some (.inr (.inl 14)), some (.inl n), some (.inl (z + 1)), some (.inl 1), some (.inl a), some (.inl b), some (.inl (onfS (facS n tb true a b))), some (.inl (onfS (facS n tb false a b))), some (.inl (-1))], [.inl 4, .inl b, .inl a, .inr (.inl 0)], mW (n, T, h, t, x) (.inl (0, 1, .inl g) :: .inl (2, 9, .inr f) :: J), 0, 0)) rfl ?_
      refine m_callVF [.inl a, .inl b, .inl 4] [] rfl rfl ⟨_, rfl, rfl⟩ rfl rfl (a_by4 (a := a) (b := b) hR (by omega) (by omega) (by omega) (by omega)) ?_
      have zt10 := onf_in (tb := tb) (r := false) (a := a) (b := b) hn
      show m_Sem X 60 (210, [some (.inr (.inl 0)), some (.inr (.inl 13)), some (.inr (.inl 14)), some (.inl n), some (.inl (z + 1)), some (.inl 1), some (.inl a), some (.inl b), some (.inl (onfS (facS n tb true a b))), some (.inl (onfS (facS n tb false a b))), some (.inl (-1))], [.inl (onfS (facS n tb false a b))], mW (n, T, h, t, x) (.inl (0, 1, .inl g) :: .inl (2, 9, .inr f) :: J), 0, 0) _
      refine m_run 1 (ps' := (212, [some (.inr (.inl 0)), some (.inr (.inl 13)), some (.inr (.inl 14)), some (.inl n), some (.inl (z + 1)), some (.inl 1), some (.inl a), some (.inl b), some (.inl (onfS (facS n tb true a b))), some (.inl (onfS (facS n tb false a b))), some (.inl (-1))], [.inl (onfS (facS n tb false a b)), .inl (onfS (facS n tb false a b))], mW (n, T, h, t, x) (.inl (0, 1, .inl g) :: .inl (2, 9, .inr f) :: J), 0, 0)) rfl ?_
      refine m_icmp rfl ⟨by omega, by omega⟩ ⟨by omega, by omega⟩ (fun (zc8 : ¬ (onfS (facS n tb false a b)) = (onfS (facS n tb false a b))) => absurd zc8 (by omega)) (fun (zc8 : ¬ ¬ (onfS (facS n tb false a b)) = (onfS (facS n tb false a b))) => ?_)
      replace zc8 : (onfS (facS n tb false a b)) = (onfS (facS n tb false a b)) := Decidable.not_not.mp zc8
      refine m_run 4 (ps' := (221, [some (.inr (.inl 0)), some (.inr (.inl 13)), some (.inr (.inl 14)), some (.inl n), some (.inl (z + 1)), some (.inl 1), some (.inl a), some (.inl b), some (.inl (onfS (facS n tb true a b))), some (.inl (onfS (facS n tb false a b))), some (.inl (-1))], [.inl 5, .inl b, .inl a, .inr (.inl 0)], mW (n, T, h, t, x) (.inl (0, 1, .inl g) :: .inl (2, 9, .inr f) :: J), 0, 0)) rfl ?_
      refine m_callVF [.inl a, .inl b, .inl 5] [] rfl rfl ⟨_, rfl, rfl⟩ rfl rfl (a_by5 (a := a) (b := b) hR (by omega) (by omega) (by omega) (by omega)) ?_
      show m_Sem X 60 (224, [some (.inr (.inl 0)), some (.inr (.inl 13)), some (.inr (.inl 14)), some (.inl n), some (.inl (z + 1)), some (.inl 1), some (.inl a), some (.inl b), some (.inl (onfS (facS n tb true a b))), some (.inl (onfS (facS n tb false a b))), some (.inl (-1))], [.inl (-1000001)], mW (n, T, h, t, x) (.inl (0, 1, .inl g) :: .inl (2, 9, .inr f) :: J), 0, 0) _
      refine m_run 1 (ps' := (226, [some (.inr (.inl 0)), some (.inr (.inl 13)), some (.inr (.inl 14)), some (.inl n), some (.inl (z + 1)), some (.inl 1), some (.inl a), some (.inl b), some (.inl (onfS (facS n tb true a b))), some (.inl (onfS (facS n tb false a b))), some (.inl (-1))], [.inl (-1000001), .inl (-1000001)], mW (n, T, h, t, x) (.inl (0, 1, .inl g) :: .inl (2, 9, .inr f) :: J), 0, 0)) rfl ?_
      refine m_icmp rfl ⟨by omega, by omega⟩ ⟨by omega, by omega⟩ (fun (zc9 : ¬ (-1000001) = (-1000001)) => absurd zc9 (by omega)) (fun (zc9 : ¬ ¬ (-1000001) = (-1000001)) => ?_)
      refine m_run 4 (ps' := (238, [some (.inr (.inl 0)), some (.inr (.inl 13)), some (.inr (.inl 14)), some (.inl n), some (.inl (z + 1)), some (.inl 1), some (.inl a), some (.inl b), some (.inl (onfS (facS n tb true a b))), some (.inl (onfS (facS n tb false a b))), some (.inl (-1))], [.inl 1], mW (n, T, h, t, x) (.inl (0, 1, .inl g) :: .inl (2, 9, .inr f) :: J), 0, 0)) rfl ?_
      refine m_if rfl ⟨by omega, by omega⟩ (fun (zc10 : 1 = 0) => absurd zc10 (by omega)) (fun (zc10 : ¬ 1 = 0) => ?_)
      refine m_run 5 (ps' := (248, [some (.inr (.inl 0)), some (.inr (.inl 13)), some (.inr (.inl 14)), some (.inl n), some (.inl (z + 1)), some (.inl 1), some (.inl a), some (.inl b), some (.inl (onfS (facS n tb true a b))), some (.inl (onfS (facS n tb false a b))), some (.inl (-1))], [.inl 1, .inl b, .inl a, .inr (.inl 0), .inr (.inl 0)], mW (n, T, h, t, x) (.inl (0, 1, .inl g) :: .inl (2, 9, .inr f) :: J), 0, 0)) rfl ?_
      refine m_callVF [.inl a, .inl b, .inl 1] [.inr (.inl 0)] rfl rfl ⟨_, rfl, rfl⟩ rfl rfl (a_by1 (a := a) (b := b) hR (by omega) (by omega) (by omega) (by omega)) ?_
      have zt11 := difS_in (n := n) (a := a) (b := b) hn (by omega) (by omega) (by omega) (by omega)
      have zt12 := dif_add (n := n) (a := a) (b := b) hn (by omega) (by omega) (by omega) (by omega)
      show m_Sem X 60 (251, [some (.inr (.inl 0)), some (.inr (.inl 13)), some (.inr (.inl 14)), some (.inl n), some (.inl (z + 1)), some (.inl 1), some (.inl a), some (.inl b), some (.inl (onfS (facS n tb true a b))), some (.inl (onfS (facS n tb false a b))), some (.inl (-1))], [.inl (difS n a b), .inr (.inl 0)], mW (n, T, h, t, x) (.inl (0, 1, .inl g) :: .inl (2, 9, .inr f) :: J), 0, 0) _
      refine m_run 2 (ps' := (254, [some (.inr (.inl 0)), some (.inr (.inl 13)), some (.inr (.inl 14)), some (.inl n), some (.inl (z + 1)), some (.inl 1), some (.inl a), some (.inl b), some (.inl (onfS (facS n tb true a b))), some (.inl (onfS (facS n tb false a b))), some (.inl (-1))], [.inl 0, .inl b, .inl (difS n a b), .inr (.inl 0)], mW (n, T, h, t, x) (.inl (0, 1, .inl g) :: .inl (2, 9, .inr f) :: J), 0, 0)) rfl ?_
      refine m_callVF [.inl (difS n a b), .inl b, .inl 0] [] rfl rfl ⟨_, rfl, rfl⟩ rfl rfl (a_by0 (a := (difS n a b)) (b := b) hR (by omega) (by omega) (by omega) (by omega)) ?_
      have zt13 := sumS_in (n := n) (a := (difS n a b)) (b := b) hn (by omega) (by omega) (by omega) (by omega)
      show m_Sem X 60 (257, [some (.inr (.inl 0)), some (.inr (.inl 13)), some (.inr (.inl 14)), some (.inl n), some (.inl (z + 1)), some (.inl 1), some (.inl a), some (.inl b), some (.inl (onfS (facS n tb true a b))), some (.inl (onfS (facS n tb false a b))), some (.inl (-1))], [.inl (sumS n (difS n a b) b)], mW (n, T, h, t, x) (.inl (0, 1, .inl g) :: .inl (2, 9, .inr f) :: J), 0, 0) _
      refine m_run 1 (ps' := (259, [some (.inr (.inl 0)), some (.inr (.inl 13)), some (.inr (.inl 14)), some (.inl n), some (.inl (z + 1)), some (.inl 1), some (.inl a), some (.inl b), some (.inl (onfS (facS n tb true a b))), some (.inl (onfS (facS n tb false a b))), some (.inl (-1))], [.inl a, .inl (sumS n (difS n a b) b)], mW (n, T, h, t, x) (.inl (0, 1, .inl g) :: .inl (2, 9, .inr f) :: J), 0, 0)) rfl ?_
      refine m_icmp rfl ⟨by omega, by omega⟩ ⟨by omega, by omega⟩ (fun (zc11 : ¬ (sumS n (difS n a b) b) = a) => absurd zc11 (by omega)) (fun (zc11 : ¬ ¬ (sumS n (difS n a b) b) = a) => ?_)
      replace zc11 : (sumS n (difS n a b) b) = a := Decidable.not_not.mp zc11
      refine m_run 5 (ps' := (27, [some (.inr (.inl 0)), some (.inr (.inl 13)), some (.inr (.inl 14)), some (.inl n), some (.inl (z + 1)), some (.inl 1), some (.inl a), some (.inl (b + 1)), some (.inl (onfS (facS n tb true a b))), some (.inl (onfS (facS n tb false a b))), some (.inl (-1))], [], mW (n, T, h, t, x) (.inl (0, 1, .inl g) :: .inl (2, 9, .inr f) :: J), 0, 0)) rfl ?_
      refine m_weak [some (.inr (.inl 0)), some (.inr (.inl 13)), some (.inr (.inl 14)), some (.inl n), some (.inl (z + 1)), some (.inl 1), some (.inl a), some (.inl (b + 1)), none, none, none] ⟨rfl, ⟨rfl, ⟨rfl, ⟨rfl, ⟨rfl, ⟨rfl, ⟨rfl, ⟨rfl, trivial⟩⟩⟩⟩⟩⟩⟩⟩ ?_
      refine ih _ ?_
      rw [← hu]
      simp only [zc2, if_true, if_false]
      omega
set_option maxHeartbeats 4000000 in
set_option maxRecDepth 100000 in
theorem a_soA {X : Nat × Nat × (Nat → Int32)} {n : Int} {T : Int → Int} {hc : Int} {hs hp : Int → Int} {sg : Int → Int} {x : XS} {g : Int → Int} {f : Nat → Int64} {J : mPW} {tb : Int → Int → Int} (hg : g 0 = n) (hL : repL n f tb) (hR : repC n T tb) : ∀ a : Int, 0 ≤ a → a ≤ n → ∀ (z : Int) (hu : z + sumF (fun a => sumF (fun b => if tb a b = 0 then 1 else 0) n.toNat 0) (n - a).toNat a = zeroS n tb), m_Sem X 60 (13, [some (.inr (.inl 0)), some (.inr (.inl 13)), some (.inr (.inl 14)), some (.inl n), some (.inl z), some (.inl 1), some (.inl a), none, none, none, none], [], mW (n, T, (hc, hs, hp), (0, sg), x) (.inl (0, 1, .inl g) :: .inl (2, 9, .inr f) :: J), 0, 0) (m_V 1 (mW (n, T, (hc, hs, hp), (0, sg), x) (.inl (0, 1, .inl g) :: .inl (2, 9, .inr f) :: J))) := by
  have hn := hL.1
  have hl := okN_lo hn
  have hq := sq_b hn
  refine m_down 0 n ?_ ?_
  · intro z hu
    rw [sum_end] at hu
    have hu : z = zeroS n tb := by omega
    have hz := zer_in (tb := tb) hn
    show m_Sem X 60 (13, [some (.inr (.inl 0)), some (.inr (.inl 13)), some (.inr (.inl 14)), some (.inl n), some (.inl z), some (.inl 1), some (.inl n), none, none, none, none], [], mW (n, T, (hc, hs, hp), (0, sg), x) (.inl (0, 1, .inl g) :: .inl (2, 9, .inr f) :: J), 0, 0) _
    refine m_run 2 (ps' := (16, [some (.inr (.inl 0)), some (.inr (.inl 13)), some (.inr (.inl 14)), some (.inl n), some (.inl z), some (.inl 1), some (.inl n), none, none, none, none], [.inl n, .inl n], mW (n, T, (hc, hs, hp), (0, sg), x) (.inl (0, 1, .inl g) :: .inl (2, 9, .inr f) :: J), 0, 0)) rfl ?_
    refine m_icmp rfl ⟨by omega, by omega⟩ ⟨by omega, by omega⟩ (fun (zc1 : n ≤ n) => ?_) (fun (zc1 : ¬ n ≤ n) => absurd zc1 (not_not_intro (by omega)))
    refine m_run 1 (ps' := (283, [some (.inr (.inl 0)), some (.inr (.inl 13)), some (.inr (.inl 14)), some (.inl n), some (.inl z), some (.inl 1), some (.inl n), none, none, none, none], [.inl 1], mW (n, T, (hc, hs, hp), (0, sg), x) (.inl (0, 1, .inl g) :: .inl (2, 9, .inr f) :: J), 0, 0)) rfl ?_
    refine m_if rfl ⟨by omega, by omega⟩ (fun (zc2 : 1 = 0) => absurd zc2 (by omega)) (fun (zc2 : ¬ 1 = 0) => ?_)
    refine m_run 4 (ps' := (290, [some (.inr (.inl 0)), some (.inr (.inl 13)), some (.inr (.inl 14)), some (.inl n), some (.inl z), some (.inl 1), some (.inl n), none, none, none, none], [.inl 0, .inl 0, .inl n, .inr (.inl 0)], mW (n, T, (hc, hs, hp), (0, sg), x) (.inl (0, 1, .inl g) :: .inl (2, 9, .inr f) :: J), 0, 0)) rfl ?_
    refine m_callVF [.inl n, .inl 0, .inl 0] [] rfl rfl ⟨_, rfl, rfl⟩ rfl rfl (a_byX (a := n) (b := 0) hR (by omega) (by omega) (by omega) (by omega) (by omega)) ?_
    show m_Sem X 60 (293, [some (.inr (.inl 0)), some (.inr (.inl 13)), some (.inr (.inl 14)), some (.inl n), some (.inl z), some (.inl 1), some (.inl n), none, none, none, none], [.inl (-1000001)], mW (n, T, (hc, hs, hp), (0, sg), x) (.inl (0, 1, .inl g) :: .inl (2, 9, .inr f) :: J), 0, 0) _
    refine m_run 1 (ps' := (295, [some (.inr (.inl 0)), some (.inr (.inl 13)), some (.inr (.inl 14)), some (.inl n), some (.inl z), some (.inl 1), some (.inl n), none, none, none, none], [.inl (-1000001), .inl (-1000001)], mW (n, T, (hc, hs, hp), (0, sg), x) (.inl (0, 1, .inl g) :: .inl (2, 9, .inr f) :: J), 0, 0)) rfl ?_
    refine m_icmp rfl ⟨by omega, by omega⟩ ⟨by omega, by omega⟩ (fun (zc3 : ¬ (-1000001) = (-1000001)) => absurd zc3 (by omega)) (fun (zc3 : ¬ ¬ (-1000001) = (-1000001)) => ?_)
    refine m_run 4 (ps' := (302, [some (.inr (.inl 0)), some (.inr (.inl 13)), some (.inr (.inl 14)), some (.inl n), some (.inl z), some (.inl 1), some (.inl n), none, none, none, none], [.inl 0, .inl (-1), .inl 0, .inr (.inl 0)], mW (n, T, (hc, hs, hp), (0, sg), x) (.inl (0, 1, .inl g) :: .inl (2, 9, .inr f) :: J), 0, 0)) rfl ?_
    refine m_callVF [.inl 0, .inl (-1), .inl 0] [] rfl rfl ⟨_, rfl, rfl⟩ rfl rfl (a_byX (a := 0) (b := (-1)) hR (by omega) (by omega) (by omega) (by omega) (by omega)) ?_
    show m_Sem X 60 (305, [some (.inr (.inl 0)), some (.inr (.inl 13)), some (.inr (.inl 14)), some (.inl n), some (.inl z), some (.inl 1), some (.inl n), none, none, none, none], [.inl (-1000001)], mW (n, T, (hc, hs, hp), (0, sg), x) (.inl (0, 1, .inl g) :: .inl (2, 9, .inr f) :: J), 0, 0) _
    refine m_run 1 (ps' := (307, [some (.inr (.inl 0)), some (.inr (.inl 13)), some (.inr (.inl 14)), some (.inl n), some (.inl z), some (.inl 1), some (.inl n), none, none, none, none], [.inl (-1000001), .inl (-1000001)], mW (n, T, (hc, hs, hp), (0, sg), x) (.inl (0, 1, .inl g) :: .inl (2, 9, .inr f) :: J), 0, 0)) rfl ?_
    refine m_icmp rfl ⟨by omega, by omega⟩ ⟨by omega, by omega⟩ (fun (zc4 : ¬ (-1000001) = (-1000001)) => absurd zc4 (by omega)) (fun (zc4 : ¬ ¬ (-1000001) = (-1000001)) => ?_)
    refine m_run 3 (ps' := (313, [some (.inr (.inl 0)), some (.inr (.inl 13)), some (.inr (.inl 14)), some (.inl n), some (.inl z), some (.inl 1), some (.inl n), none, none, none, none], [.inr (.inl 14), .inr (.inl 13), .inr (.inl 0)], mW (n, T, (hc, hs, hp), (0, sg), x) (.inl (0, 1, .inl g) :: .inl (2, 9, .inr f) :: J), 0, 0)) rfl ?_
    refine m_callSF [.inr (.inl 0), .inr (.inl 13), .inr (.inl 14)] [] rfl rfl rfl (a_are hg hL hR) ?_
    show m_Sem X 60 (316, [some (.inr (.inl 0)), some (.inr (.inl 13)), some (.inr (.inl 14)), some (.inl n), some (.inl z), some (.inl 1), some (.inl n), none, none, none, none], [.inl 1], mW (n, T, (hc, hs, hp), (0, sg), x) (.inl (0, 1, .inl g) :: .inl (2, 9, .inr f) :: J), 0, 0) _
    refine m_if rfl ⟨by omega, by omega⟩ (fun (zc5 : 1 = 0) => absurd zc5 (by omega)) (fun (zc5 : ¬ 1 = 0) => ?_)
    refine m_run 3 (ps' := (322, [some (.inr (.inl 0)), some (.inr (.inl 13)), some (.inr (.inl 14)), some (.inl n), some (.inl z), some (.inl 1), some (.inl n), none, none, none, none], [.inr (.inl 14), .inr (.inl 13), .inr (.inl 0)], mW (n, T, (hc, hs, hp), (0, sg), x) (.inl (0, 1, .inl g) :: .inl (2, 9, .inr f) :: J), 0, 0)) rfl ?_
    refine m_callSF [.inr (.inl 0), .inr (.inl 13), .inr (.inl 14)] [] rfl rfl rfl (a_els hg hL hR) ?_
    show m_Sem X 60 (325, [some (.inr (.inl 0)), some (.inr (.inl 13)), some (.inr (.inl 14)), some (.inl n), some (.inl z), some (.inl 1), some (.inl n), none, none, none, none], [.inl 1], mW (n, T, (hc, hs, hp), (0, sg), x) (.inl (0, 1, .inl g) :: .inl (2, 9, .inr f) :: J), 0, 0) _
    refine m_if rfl ⟨by omega, by omega⟩ (fun (zc6 : 1 = 0) => absurd zc6 (by omega)) (fun (zc6 : ¬ 1 = 0) => ?_)
    refine m_run 4 (ps' := (337, [some (.inr (.inl 0)), some (.inr (.inl 13)), some (.inr (.inl 14)), some (.inl n), some (.inl z), some (.inl 1), some (.inl n), none, none, none, none], [.inl 1], mW (n, T, (hc, hs, hp), (0, sg), x) (.inl (0, 1, .inl g) :: .inl (2, 9, .inr f) :: J), 0, 0)) rfl ?_
    refine m_if rfl ⟨by omega, by omega⟩ (fun (zc7 : 1 = 0) => absurd zc7 (by omega)) (fun (zc7 : ¬ 1 = 0) => ?_)
    refine m_run 2 (ps' := (342, [some (.inr (.inl 0)), some (.inr (.inl 13)), some (.inr (.inl 14)), some (.inl n), some (.inl z), some (.inl 1), some (.inl n), none, none, none, none], [.inl 0, .inr (.inl 0)], mW (n, T, (hc, hs, hp), (0, sg), x) (.inl (0, 1, .inl g) :: .inl (2, 9, .inr f) :: J), 0, 0)) rfl ?_
    refine m_callVF [.inl 0] [] rfl rfl ⟨_, rfl, rfl⟩ rfl rfl (a_cnt0 hR) ?_
    show m_Sem X 60 (345, [some (.inr (.inl 0)), some (.inr (.inl 13)), some (.inr (.inl 14)), some (.inl n), some (.inl z), some (.inl 1), some (.inl n), none, none, none, none], [.inl n], mW (n, T, (hc, hs, hp), (0, sg), x) (.inl (0, 1, .inl g) :: .inl (2, 9, .inr f) :: J), 0, 0) _
    refine m_run 1 (ps' := (346, [some (.inr (.inl 0)), some (.inr (.inl 13)), some (.inr (.inl 14)), some (.inl n), some (.inl z), some (.inl 1), some (.inl n), none, none, none, none], [.inl n, .inl n], mW (n, T, (hc, hs, hp), (0, sg), x) (.inl (0, 1, .inl g) :: .inl (2, 9, .inr f) :: J), 0, 0)) rfl ?_
    refine m_icmp rfl ⟨by omega, by omega⟩ ⟨by omega, by omega⟩ (fun (zc8 : ¬ n = n) => absurd zc8 (by omega)) (fun (zc8 : ¬ ¬ n = n) => ?_)
    replace zc8 : n = n := Decidable.not_not.mp zc8
    refine m_run 2 (ps' := (351, [some (.inr (.inl 0)), some (.inr (.inl 13)), some (.inr (.inl 14)), some (.inl n), some (.inl z), some (.inl 1), some (.inl n), none, none, none, none], [.inl 1, .inr (.inl 0)], mW (n, T, (hc, hs, hp), (0, sg), x) (.inl (0, 1, .inl g) :: .inl (2, 9, .inr f) :: J), 0, 0)) rfl ?_
    refine m_callVF [.inl 1] [] rfl rfl ⟨_, rfl, rfl⟩ rfl rfl (a_cnt1 hR) ?_
    have zt4 : NP n = n * n + n + 1 := rfl
    show m_Sem X 60 (354, [some (.inr (.inl 0)), some (.inr (.inl 13)), some (.inr (.inl 14)), some (.inl n), some (.inl z), some (.inl 1), some (.inl n), none, none, none, none], [.inl (NP n)], mW (n, T, (hc, hs, hp), (0, sg), x) (.inl (0, 1, .inl g) :: .inl (2, 9, .inr f) :: J), 0, 0) _
    refine m_run 7 (ps' := (361, [some (.inr (.inl 0)), some (.inr (.inl 13)), some (.inr (.inl 14)), some (.inl n), some (.inl z), some (.inl 1), some (.inl n), none, none, none, none], [.inl (((n * n) + n) + 1), .inl (NP n)], mW (n, T, (hc, hs, hp), (0, sg), x) (.inl (0, 1, .inl g) :: .inl (2, 9, .inr f) :: J), 0, 0)) rfl ?_
    refine m_icmp rfl ⟨by omega, by omega⟩ ⟨by omega, by omega⟩ (fun (zc9 : ¬ (NP n) = (((n * n) + n) + 1)) => absurd zc9 (by omega)) (fun (zc9 : ¬ ¬ (NP n) = (((n * n) + n) + 1)) => ?_)
    replace zc9 : (NP n) = (((n * n) + n) + 1) := Decidable.not_not.mp zc9
    refine m_run 2 (ps' := (366, [some (.inr (.inl 0)), some (.inr (.inl 13)), some (.inr (.inl 14)), some (.inl n), some (.inl z), some (.inl 1), some (.inl n), none, none, none, none], [.inl 2, .inr (.inl 0)], mW (n, T, (hc, hs, hp), (0, sg), x) (.inl (0, 1, .inl g) :: .inl (2, 9, .inr f) :: J), 0, 0)) rfl ?_
    refine m_callVF [.inl 2] [] rfl rfl ⟨_, rfl, rfl⟩ rfl rfl (a_cnt2 hR) ?_
    have zt8 := unl_in (tb := tb) hn
    show m_Sem X 60 (369, [some (.inr (.inl 0)), some (.inr (.inl 13)), some (.inr (.inl 14)), some (.inl n), some (.inl z), some (.inl 1), some (.inl n), none, none, none, none], [.inl (unlS n tb)], mW (n, T, (hc, hs, hp), (0, sg), x) (.inl (0, 1, .inl g) :: .inl (2, 9, .inr f) :: J), 0, 0) _
    refine m_run 2 (ps' := (371, [some (.inr (.inl 0)), some (.inr (.inl 13)), some (.inr (.inl 14)), some (.inl n), some (.inl z), some (.inl 1), some (.inl n), none, none, none, none], [.inr (.inl 14), .inr (.inl 13), .inl (unlS n tb)], mW (n, T, (hc, hs, hp), (0, sg), x) (.inl (0, 1, .inl g) :: .inl (2, 9, .inr f) :: J), 0, 0)) rfl ?_
    refine m_callSF [.inr (.inl 13), .inr (.inl 14)] [.inl (unlS n tb)] rfl rfl rfl (a_fld hg hL) ?_
    show m_Sem X 60 (374, [some (.inr (.inl 0)), some (.inr (.inl 13)), some (.inr (.inl 14)), some (.inl n), some (.inl z), some (.inl 1), some (.inl n), none, none, none, none], [.inl (unlS n tb), .inl (unlS n tb)], mW (n, T, (hc, hs, hp), (0, sg), x) (.inl (0, 1, .inl g) :: .inl (2, 9, .inr f) :: J), 0, 0) _
    refine m_icmp rfl ⟨by omega, by omega⟩ ⟨by omega, by omega⟩ (fun (zc10 : ¬ (unlS n tb) = (unlS n tb)) => absurd zc10 (by omega)) (fun (zc10 : ¬ ¬ (unlS n tb) = (unlS n tb)) => ?_)
    replace zc10 : (unlS n tb) = (unlS n tb) := Decidable.not_not.mp zc10
    refine m_run 2 (ps' := (379, [some (.inr (.inl 0)), some (.inr (.inl 13)), some (.inr (.inl 14)), some (.inl n), some (.inl z), some (.inl 1), some (.inl n), none, none, none, none], [.inl 3, .inr (.inl 0)], mW (n, T, (hc, hs, hp), (0, sg), x) (.inl (0, 1, .inl g) :: .inl (2, 9, .inr f) :: J), 0, 0)) rfl ?_
    refine m_callVF [.inl 3] [] rfl rfl ⟨_, rfl, rfl⟩ rfl rfl (a_cnt3 hR) ?_
    have zt12 := zer_in (tb := tb) hn
    show m_Sem X 60 (382, [some (.inr (.inl 0)), some (.inr (.inl 13)), some (.inr (.inl 14)), some (.inl n), some (.inl z), some (.inl 1), some (.inl n), none, none, none, none], [.inl (zeroS n tb)], mW (n, T, (hc, hs, hp), (0, sg), x) (.inl (0, 1, .inl g) :: .inl (2, 9, .inr f) :: J), 0, 0) _
    refine m_run 1 (ps' := (384, [some (.inr (.inl 0)), some (.inr (.inl 13)), some (.inr (.inl 14)), some (.inl n), some (.inl z), some (.inl 1), some (.inl n), none, none, none, none], [.inl z, .inl (zeroS n tb)], mW (n, T, (hc, hs, hp), (0, sg), x) (.inl (0, 1, .inl g) :: .inl (2, 9, .inr f) :: J), 0, 0)) rfl ?_
    refine m_icmp rfl ⟨by omega, by omega⟩ ⟨by omega, by omega⟩ (fun (zc11 : ¬ (zeroS n tb) = z) => absurd zc11 (by omega)) (fun (zc11 : ¬ ¬ (zeroS n tb) = z) => ?_)
    replace zc11 : (zeroS n tb) = z := Decidable.not_not.mp zc11
    refine m_run 2 (ps' := (389, [some (.inr (.inl 0)), some (.inr (.inl 13)), some (.inr (.inl 14)), some (.inl n), some (.inl z), some (.inl 1), some (.inl n), none, none, none, none], [.inl 5, .inr (.inl 0)], mW (n, T, (hc, hs, hp), (0, sg), x) (.inl (0, 1, .inl g) :: .inl (2, 9, .inr f) :: J), 0, 0)) rfl ?_
    refine m_callVF [.inl 5] [] rfl rfl ⟨_, rfl, rfl⟩ rfl rfl (a_cnt5 hR) ?_
    show m_Sem X 60 (392, [some (.inr (.inl 0)), some (.inr (.inl 13)), some (.inr (.inl 14)), some (.inl n), some (.inl z), some (.inl 1), some (.inl n), none, none, none, none], [.inl 0], mW (n, T, (hc, hs, hp), (0, sg), x) (.inl (0, 1, .inl g) :: .inl (2, 9, .inr f) :: J), 0, 0) _
    refine m_if rfl ⟨by omega, by omega⟩ (fun (zc12 : ¬ 0 = 0) => absurd zc12 (by omega)) (fun (zc12 : ¬ ¬ 0 = 0) => ?_)
    refine m_run 2 (ps' := (400, [some (.inr (.inl 0)), some (.inr (.inl 13)), some (.inr (.inl 14)), some (.inl n), some (.inl z), some (.inl 1), some (.inl n), none, none, none, none], [.inl 1], mW (n, T, (hc, hs, hp), (0, sg), x) (.inl (0, 1, .inl g) :: .inl (2, 9, .inr f) :: J), 0, 0)) rfl ?_
    exact m_ret1 rfl (Or.inr ⟨rfl, Or.inr rfl⟩) rfl (m_Vi rfl)
  · intro a hi1 hi2 ih z hu
    rw [sum_step hi2] at hu
    refine m_run 2 (ps' := (16, [some (.inr (.inl 0)), some (.inr (.inl 13)), some (.inr (.inl 14)), some (.inl n), some (.inl z), some (.inl 1), some (.inl a), none, none, none, none], [.inl n, .inl a], mW (n, T, (hc, hs, hp), (0, sg), x) (.inl (0, 1, .inl g) :: .inl (2, 9, .inr f) :: J), 0, 0)) rfl ?_
    refine m_icmp rfl ⟨by omega, by omega⟩ ⟨by omega, by omega⟩ (fun (zc1 : n ≤ a) => absurd zc1 (by omega)) (fun (zc1 : ¬ n ≤ a) => ?_)
    refine m_run 1 (ps' := (21, [some (.inr (.inl 0)), some (.inr (.inl 13)), some (.inr (.inl 14)), some (.inl n), some (.inl z), some (.inl 1), some (.inl a), none, none, none, none], [.inl 1], mW (n, T, (hc, hs, hp), (0, sg), x) (.inl (0, 1, .inl g) :: .inl (2, 9, .inr f) :: J), 0, 0)) rfl ?_
    refine m_if rfl ⟨by omega, by omega⟩ (fun (zc2 : 1 = 0) => absurd zc2 (by omega)) (fun (zc2 : ¬ 1 = 0) => ?_)
    refine m_run 2 (ps' := (27, [some (.inr (.inl 0)), some (.inr (.inl 13)), some (.inr (.inl 14)), some (.inl n), some (.inl z), some (.inl 1), some (.inl a), some (.inl 0), none, none, none], [], mW (n, T, (hc, hs, hp), (0, sg), x) (.inl (0, 1, .inl g) :: .inl (2, 9, .inr f) :: J), 0, 0)) rfl ?_
    refine m_weak [some (.inr (.inl 0)), some (.inr (.inl 13)), some (.inr (.inl 14)), some (.inl n), some (.inl z), some (.inl 1), some (.inl a), some (.inl 0), none, none, none] ⟨rfl, ⟨rfl, ⟨rfl, ⟨rfl, ⟨rfl, ⟨rfl, ⟨rfl, ⟨rfl, trivial⟩⟩⟩⟩⟩⟩⟩⟩ ?_
    exact a_soB (v := z + sumF (fun b => if tb a b = 0 then 1 else 0) n.toNat 0) hg hL hR hi1 hi2 (ih _ (by rw [← hu]; omega)) 0 (by omega) (by omega) z (by rw [z_sub])
set_option maxHeartbeats 4000000 in
set_option maxRecDepth 100000 in
theorem a_so {X : Nat × Nat × (Nat → Int32)} {n : Int} {T : Int → Int} {hc : Int} {hs hp : Int → Int} {sg : Int → Int} {x : XS} {g : Int → Int} {f : Nat → Int64} {J : mPW} {tb : Int → Int → Int} (hg : g 0 = n) (hL : repL n f tb) (hR : repC n T tb) : m_Run X 60 [.inr (.inl 0), .inr (.inl 13), .inr (.inl 14)] (mW (n, T, (hc, hs, hp), (0, sg), x) (.inl (0, 1, .inl g) :: .inl (2, 9, .inr f) :: J)) (m_V 1 (mW (n, T, (hc, hs, hp), (0, sg), x) (.inl (0, 1, .inl g) :: .inl (2, 9, .inr f) :: J))) := by
  have hn := hL.1
  have hl := okN_lo hn
  have hq := sq_b hn
  show m_Sem X 60 (0, [some (.inr (.inl 0)), some (.inr (.inl 13)), some (.inr (.inl 14)), none, none, none, none, none, none, none, none], [], mW (n, T, (hc, hs, hp), (0, sg), x) (.inl (0, 1, .inl g) :: .inl (2, 9, .inr f) :: J), 0, 0) _
  refine m_run 2 (ps' := (2, [some (.inr (.inl 0)), some (.inr (.inl 13)), some (.inr (.inl 14)), none, none, none, none, none, none, none, none], [.inl 0, .inr (.inl 13)], mW (n, T, (hc, hs, hp), (0, sg), x) (.inl (0, 1, .inl g) :: .inl (2, 9, .inr f) :: J), 0, 0)) rfl ?_
  refine m_iald rfl rfl (by omega) (by omega) (by decide) ?_
  show m_Sem X 60 (3, [some (.inr (.inl 0)), some (.inr (.inl 13)), some (.inr (.inl 14)), none, none, none, none, none, none, none, none], [.inl (g 0)], mW (n, T, (hc, hs, hp), (0, sg), x) (.inl (0, 1, .inl g) :: .inl (2, 9, .inr f) :: J), 0, 0) _
  rw [hg]
  refine m_run 7 (ps' := (13, [some (.inr (.inl 0)), some (.inr (.inl 13)), some (.inr (.inl 14)), some (.inl n), some (.inl 0), some (.inl 1), some (.inl 0), none, none, none, none], [], mW (n, T, (hc, hs, hp), (0, sg), x) (.inl (0, 1, .inl g) :: .inl (2, 9, .inr f) :: J), 0, 0)) rfl ?_
  refine m_weak [some (.inr (.inl 0)), some (.inr (.inl 13)), some (.inr (.inl 14)), some (.inl n), some (.inl 0), some (.inl 1), some (.inl 0), none, none, none, none] ⟨rfl, ⟨rfl, ⟨rfl, ⟨rfl, ⟨rfl, ⟨rfl, ⟨rfl, trivial⟩⟩⟩⟩⟩⟩⟩ ?_
  exact a_soA hg hL hR 0 (by omega) (by omega) 0 (by rw [z_sub, Int.zero_add]; rfl)
end
