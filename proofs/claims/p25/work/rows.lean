section
-- ===== PART A: goes FIRST, ahead of the names: the tables' words, and 'selects' of the private methods out of them =====
/-- a private method of a class that the tables say can be made, by its rows of tables_1 -/
def lw_okq (q : MethodName × Nat) : Prop := (q.1.cls ≠ "java/lang/invoke/MethodHandle" ∧ q.1.cls ≠ "java/lang/invoke/VarHandle") ∧ Cond.instantiable q.1.cls q.2 ∈ tables_1 ∧ Cond.privateMethod q.1 ∈ tables_1 ∧ Cond.instanceMethod q.1 ∈ tables_1
theorem lw_p0 : lw_okq (⟨"RingPlanes$History", "dropOldest", "()V"⟩, 3) := ⟨⟨by decide +kernel, by decide +kernel⟩, List.mem_of_getElem? (i := 60) (by decide +kernel), List.mem_of_getElem? (i := 141) (by decide +kernel), List.mem_of_getElem? (i := 142) (by decide +kernel)⟩
theorem lw_p1 : lw_okq (⟨"RingPlanes$Ring", "isSquare", "(I)Z"⟩, 2) := ⟨⟨by decide +kernel, by decide +kernel⟩, List.mem_of_getElem? (i := 25) (by decide +kernel), List.mem_of_getElem? (i := 214) (by decide +kernel), List.mem_of_getElem? (i := 215) (by decide +kernel)⟩
def lw_privs_1 : List (MethodName × Nat) := [(⟨"RingPlanes$History", "dropOldest", "()V"⟩, 3), (⟨"RingPlanes$Ring", "isSquare", "(I)Z"⟩, 2)]
theorem lw_r1 : ∀ q ∈ lw_privs_1, lw_okq q := List.forall_mem_cons.mpr ⟨lw_p0, List.forall_mem_cons.mpr ⟨lw_p1, fun _ h => absurd h List.not_mem_nil⟩⟩
def lw_privs : List (MethodName × Nat) := lw_privs_1
def lw_tbl : List Cond := k2_sels lw_privs ++ tables_1
theorem lw_privs_ok : ∀ q ∈ lw_privs, lw_okq q := lw_r1
/-- the streams that the claim lets the run draw from -/
abbrev lw_cs : List Choice := [Jvm.Choice.named "NaN.bits"]
theorem lw_bits : nanBits ∈ lw_cs := by first | decide | exact List.mem_cons_self | simp [lw_cs, nanBits]
/-! the classes: names, fields (as the claim prints them) -/
def RX0 : String := "RingPlanes$History"
def TX0 : u_T := fun k => match k with
  | 0 => ("RingPlanes$History", "sizes", "[I", true)
  | 1 => ("RingPlanes$History", "products", "[I", true)
  | _ => ("RingPlanes$History", "count", "I", false)
def tyX0 : Nat → FieldType := fun k => match k with
  | 0 => .array .int
  | 1 => .array .int
  | _ => .int
theorem nmX0 : ∀ a, a < 3 → ∀ b, b < 3 → a ≠ b → (TX0 a).2.1 ≠ (TX0 b).2.1 := by decide +kernel
theorem tyX0_ok : ∀ k, k < 3 → parseFieldDescriptor (TX0 k).2.2.1 = some (tyX0 k) := by decide +kernel
def RX1 : String := "RingPlanes$Laws"
def TX1 : u_T := fun k => match k with
  | _ => ("", "", "", false)
def tyX1 : Nat → FieldType := fun k => match k with
  | _ => .int
theorem nmX1 : ∀ a, a < 0 → ∀ b, b < 0 → a ≠ b → (TX1 a).2.1 ≠ (TX1 b).2.1 := by decide +kernel
theorem tyX1_ok : ∀ k, k < 0 → parseFieldDescriptor (TX1 k).2.2.1 = some (tyX1 k) := by decide +kernel
def RX2 : String := "RingPlanes$Mirrors"
def TX2 : u_T := fun k => match k with
  | 0 => ("RingPlanes$Mirrors", "rays", "[I", true)
  | 1 => ("RingPlanes$Mirrors", "feet", "[I", true)
  | 2 => ("RingPlanes$Mirrors", "images", "[I", true)
  | 3 => ("RingPlanes$Mirrors", "end", "I", false)
  | 4 => ("RingPlanes$Mirrors", "baseRay", "I", false)
  | _ => ("RingPlanes$Mirrors", "helper", "I", false)
def tyX2 : Nat → FieldType := fun k => match k with
  | 0 => .array .int
  | 1 => .array .int
  | 2 => .array .int
  | 3 => .int
  | 4 => .int
  | _ => .int
theorem nmX2 : ∀ a, a < 6 → ∀ b, b < 6 → a ≠ b → (TX2 a).2.1 ≠ (TX2 b).2.1 := by decide +kernel
theorem tyX2_ok : ∀ k, k < 6 → parseFieldDescriptor (TX2 k).2.2.1 = some (tyX2 k) := by decide +kernel
def RX3 : String := "RingPlanes$Plane"
def TX3 : u_T := fun k => match k with
  | _ => ("RingPlanes$Plane", "ring", "LRingPlanes$Ring;", true)
def tyX3 : Nat → FieldType := fun k => match k with
  | _ => .object "RingPlanes$Ring"
theorem nmX3 : ∀ a, a < 1 → ∀ b, b < 1 → a ≠ b → (TX3 a).2.1 ≠ (TX3 b).2.1 := by decide +kernel
theorem tyX3_ok : ∀ k, k < 1 → parseFieldDescriptor (TX3 k).2.2.1 = some (tyX3 k) := by decide +kernel
def RX4 : String := "RingPlanes$Ring"
def TX4 : u_T := fun k => match k with
  | 0 => ("RingPlanes$Ring", "size", "I", false)
  | _ => ("RingPlanes$Ring", "products", "[I", true)
def tyX4 : Nat → FieldType := fun k => match k with
  | 0 => .int
  | _ => .array .int
theorem nmX4 : ∀ a, a < 2 → ∀ b, b < 2 → a ≠ b → (TX4 a).2.1 ≠ (TX4 b).2.1 := by decide +kernel
theorem tyX4_ok : ∀ k, k < 2 → parseFieldDescriptor (TX4 k).2.2.1 = some (tyX4 k) := by decide +kernel
def RX5 : String := "RingPlanes$Text"
def TX5 : u_T := fun k => match k with
  | 0 => ("RingPlanes$Text", "signs", "[C", true)
  | _ => ("RingPlanes$Text", "length", "I", false)
def tyX5 : Nat → FieldType := fun k => match k with
  | 0 => .array .char
  | _ => .int
theorem nmX5 : ∀ a, a < 2 → ∀ b, b < 2 → a ≠ b → (TX5 a).2.1 ≠ (TX5 b).2.1 := by decide +kernel
theorem tyX5_ok : ∀ k, k < 2 → parseFieldDescriptor (TX5 k).2.2.1 = some (tyX5 k) := by decide +kernel
def RX6 : String := "RingPlanes"
def TX6 : u_T := fun k => match k with
  | 0 => ("RingPlanes", "plane", "LRingPlanes$Plane;", true)
  | 1 => ("RingPlanes", "ring", "LRingPlanes$Ring;", true)
  | 2 => ("RingPlanes", "history", "LRingPlanes$History;", true)
  | 3 => ("RingPlanes", "text", "LRingPlanes$Text;", true)
  | _ => ("RingPlanes", "mirrors", "LRingPlanes$Mirrors;", true)
def tyX6 : Nat → FieldType := fun k => match k with
  | 0 => .object "RingPlanes$Plane"
  | 1 => .object "RingPlanes$Ring"
  | 2 => .object "RingPlanes$History"
  | 3 => .object "RingPlanes$Text"
  | _ => .object "RingPlanes$Mirrors"
theorem nmX6 : ∀ a, a < 5 → ∀ b, b < 5 → a ≠ b → (TX6 a).2.1 ≠ (TX6 b).2.1 := by decide +kernel
theorem tyX6_ok : ∀ k, k < 5 → parseFieldDescriptor (TX6 k).2.2.1 = some (tyX6 k) := by decide +kernel
def RX7 : String := "RingPlanesModel"
def TX7 : u_T := fun k => match k with
  | _ => ("", "", "", false)
def tyX7 : Nat → FieldType := fun k => match k with
  | _ => .int
theorem nmX7 : ∀ a, a < 0 → ∀ b, b < 0 → a ≠ b → (TX7 a).2.1 ≠ (TX7 b).2.1 := by decide +kernel
theorem tyX7_ok : ∀ k, k < 0 → parseFieldDescriptor (TX7 k).2.2.1 = some (tyX7 k) := by decide +kernel
def RJ6 : String := "java/lang/Integer"
def RJ10 : String := "java/lang/System"
def RL : String := "RingPlanesLaw"
abbrev vwCl : List vw_C := [(RX0, TX0, 3), (RX2, TX2, 6), (RX3, TX3, 1), (RX4, TX4, 2), (RX5, TX5, 2), (RX6, TX6, 5)]
def m_cn : List String := [RX0, RX1, RX2, RX3, RX4, RX5, RX6, RX7, RJ6, RJ10, RL]
abbrev MT : Type := MethodName × ByteArray × Nat × Option FieldType × Room × Nat × Nat × Nat
abbrev BE : Type := Nat × Instr × Nat × Nat × Int
def t_0 : MT := (⟨RL, "law", "([I)Z"⟩, code, 7, ret, room_1, 0, 1, 10)
def t_1 : MT := (⟨RX0, "<init>", "()V"⟩, prog_2_method_1_code, 1, none, { frames := 1, cells := 2, slots := 328, locals := 12 }, 2, 0, 0)
def t_2 : MT := (⟨RX0, "keep", "(LRingPlanes$Ring;)V"⟩, prog_2_method_2_code, 2, none, { frames := 2, cells := 0, slots := 0, locals := 47 }, 1, 1, 0)
def t_3 : MT := (⟨RX0, "dropOldest", "()V"⟩, prog_2_method_4_code, 2, none, { frames := 1, cells := 0, slots := 0, locals := 26 }, 1, 0, 0)
def t_4 : MT := (⟨RX1, "witness", "(LRingPlanes$Ring;I)I"⟩, prog_3_method_2_code, 7, (some .int), { frames := 4, cells := 0, slots := 0, locals := 97 }, 0, 2, 1)
def t_5 : MT := (⟨RX1, "witnessElement", "(II)I"⟩, prog_3_method_3_code, 2, (some .int), { frames := 0, cells := 0, slots := 0, locals := 0 }, 0, 2, 1)
def t_6 : MT := (⟨RX1, "holdsAt", "(LRingPlanes$Ring;IIII)Z"⟩, prog_3_method_4_code, 5, (some .boolean), { frames := 3, cells := 0, slots := 0, locals := 73 }, 0, 5, 1)
def t_7 : MT := (⟨RX1, "isIn", "(LRingPlanes$Ring;II)Z"⟩, prog_3_method_5_code, 6, (some .boolean), { frames := 5, cells := 0, slots := 0, locals := 121 }, 0, 3, 1)
def t_8 : MT := (⟨RX1, "fits", "(LRingPlanes$Ring;IIII)Z"⟩, prog_3_method_6_code, 5, (some .boolean), { frames := 4, cells := 0, slots := 0, locals := 97 }, 0, 5, 1)
def t_9 : MT := (⟨RX1, "differencesOnce", "(LRingPlanes$Ring;IIZ)I"⟩, prog_3_method_8_code, 8, (some .int), { frames := 2, cells := 0, slots := 0, locals := 46 }, 0, 4, 1)
def t_10 : MT := (⟨RX2, "<init>", "()V"⟩, prog_4_method_1_code, 1, none, { frames := 1, cells := 3, slots := 273, locals := 12 }, 2, 0, 2)
def t_11 : MT := (⟨RX3, "<init>", "()V"⟩, prog_5_method_1_code, 1, none, { frames := 3, cells := 2, slots := 83, locals := 69 }, 2, 0, 3)
def t_12 : MT := (⟨RX3, "points", "()I"⟩, prog_5_method_2_code, 1, (some .int), { frames := 0, cells := 0, slots := 0, locals := 0 }, 1, 0, 3)
def t_13 : MT := (⟨RX4, "<init>", "()V"⟩, prog_6_method_1_code, 1, none, { frames := 2, cells := 1, slots := 81, locals := 49 }, 2, 0, 4)
def t_14 : MT := (⟨RX4, "has", "(I)Z"⟩, prog_6_method_2_code, 2, (some .boolean), { frames := 0, cells := 0, slots := 0, locals := 0 }, 1, 1, 4)
def t_15 : MT := (⟨RX4, "sum", "(II)I"⟩, prog_6_method_3_code, 3, (some .int), { frames := 0, cells := 0, slots := 0, locals := 0 }, 1, 2, 4)
def t_16 : MT := (⟨RX4, "difference", "(II)I"⟩, prog_6_method_4_code, 3, (some .int), { frames := 0, cells := 0, slots := 0, locals := 0 }, 1, 2, 4)
def t_17 : MT := (⟨RX4, "times", "(II)I"⟩, prog_6_method_5_code, 4, (some .int), { frames := 0, cells := 0, slots := 0, locals := 0 }, 1, 2, 4)
def t_18 : MT := (⟨RX4, "timesOnSide", "(IIZ)I"⟩, prog_6_method_6_code, 4, (some .int), { frames := 1, cells := 0, slots := 0, locals := 23 }, 1, 3, 4)
def t_19 : MT := (⟨RX4, "lowestFactor", "(IIZ)I"⟩, prog_6_method_7_code, 5, (some .int), { frames := 2, cells := 0, slots := 0, locals := 46 }, 1, 3, 4)
def t_20 : MT := (⟨RX4, "setProduct", "(III)I"⟩, prog_6_method_8_code, 5, (some .int), { frames := 0, cells := 0, slots := 0, locals := 0 }, 1, 3, 4)
def t_21 : MT := (⟨RX4, "becomeField", "(I)V"⟩, prog_6_method_9_code, 4, none, { frames := 1, cells := 0, slots := 0, locals := 26 }, 1, 1, 4)
def t_22 : MT := (⟨RX4, "becomeTwisted", "()I"⟩, prog_6_method_10_code, 6, (some .int), { frames := 2, cells := 0, slots := 0, locals := 48 }, 1, 0, 4)
def t_23 : MT := (⟨RX4, "changeSides", "()I"⟩, prog_6_method_11_code, 5, (some .int), { frames := 1, cells := 0, slots := 0, locals := 24 }, 1, 0, 4)
def t_24 : MT := (⟨RX4, "productsUnlikeField", "()I"⟩, prog_6_method_12_code, 4, (some .int), { frames := 1, cells := 0, slots := 0, locals := 26 }, 1, 0, 4)
def t_25 : MT := (⟨RX4, "zeroProducts", "()I"⟩, prog_6_method_13_code, 4, (some .int), { frames := 1, cells := 0, slots := 0, locals := 23 }, 1, 0, 4)
def t_26 : MT := (⟨RX4, "isSquare", "(I)Z"⟩, prog_6_method_14_code, 3, (some .boolean), { frames := 1, cells := 0, slots := 0, locals := 26 }, 1, 1, 4)
def t_27 : MT := (⟨RX4, "fieldProduct", "(III)I"⟩, prog_6_method_15_code, 7, (some .int), { frames := 0, cells := 0, slots := 0, locals := 0 }, 0, 3, 4)
def t_28 : MT := (⟨RX5, "<init>", "()V"⟩, prog_7_method_1_code, 1, none, { frames := 1, cells := 1, slots := 60, locals := 12 }, 2, 0, 5)
def t_29 : MT := (⟨RX6, "<init>", "()V"⟩, prog_1_method_1_code, 1, none, { frames := 4, cells := 12, slots := 756, locals := 89 }, 2, 0, 6)
def t_30 : MT := (⟨RX6, "field", "(I)I"⟩, prog_1_method_2_code, 3, (some .int), { frames := 3, cells := 0, slots := 0, locals := 68 }, 1, 1, 6)
def t_31 : MT := (⟨RX6, "twist", "()I"⟩, prog_1_method_3_code, 1, (some .int), { frames := 3, cells := 0, slots := 0, locals := 73 }, 1, 0, 6)
def t_32 : MT := (⟨RX6, "product", "(III)I"⟩, prog_1_method_4_code, 5, (some .int), { frames := 3, cells := 0, slots := 0, locals := 68 }, 1, 3, 6)
def t_33 : MT := (⟨RX6, "exchange", "()I"⟩, prog_1_method_5_code, 1, (some .int), { frames := 3, cells := 0, slots := 0, locals := 68 }, 1, 0, 6)
def t_34 : MT := (⟨RX6, "by", "(III)I"⟩, prog_1_method_6_code, 4, (some .int), { frames := 3, cells := 0, slots := 0, locals := 70 }, 1, 3, 6)
def t_35 : MT := (⟨RX6, "law", "(II)I"⟩, prog_1_method_7_code, 4, (some .int), { frames := 5, cells := 0, slots := 0, locals := 123 }, 1, 2, 6)
def t_36 : MT := (⟨RX6, "elements", "(I)I"⟩, prog_1_method_8_code, 4, (some .int), { frames := 6, cells := 0, slots := 0, locals := 146 }, 1, 1, 6)
def t_37 : MT := (⟨RX6, "share", "()I"⟩, prog_1_method_17_code, 3, (some .int), { frames := 5, cells := 0, slots := 0, locals := 123 }, 1, 0, 6)
def t_38 : MT := (⟨RX6, "count", "(I)I"⟩, prog_1_method_18_code, 2, (some .int), { frames := 2, cells := 0, slots := 0, locals := 49 }, 1, 1, 6)
def t_39 : MT := (⟨RX6, "isFieldSize", "(I)Z"⟩, prog_1_method_24_code, 1, (some .boolean), { frames := 0, cells := 0, slots := 0, locals := 0 }, 0, 1, 6)
def t_40 : MT := (⟨RX6, "orNotFound", "(I)I"⟩, prog_1_method_26_code, 1, (some .int), { frames := 0, cells := 0, slots := 0, locals := 0 }, 0, 1, 6)
def t_41 : MT := (⟨RX6, "bitsOf", "(F)I"⟩, prog_1_method_27_code, 4, (some .int), { frames := 0, cells := 0, slots := 0, locals := 0 }, 0, 1, 6)
def t_42 : MT := (⟨RJ6, "bitCount", "(I)I"⟩, prog_10_method_49_code, 1, (some .int), { frames := 0, cells := 0, slots := 0, locals := 0 }, 0, 1, 8)
def t_43 : MT := (⟨RL, "cell", "([II)I"⟩, method_2_code, 2, (some .int), { frames := 0, cells := 0, slots := 0, locals := 0 }, 0, 2, 10)
def t_44 : MT := (⟨RL, "low", "(II)I"⟩, method_3_code, 2, (some .int), { frames := 0, cells := 0, slots := 0, locals := 0 }, 0, 2, 10)
def t_45 : MT := (⟨RL, "add", "([III)I"⟩, method_4_code, 4, (some .int), { frames := 0, cells := 0, slots := 0, locals := 0 }, 0, 3, 10)
def t_46 : MT := (⟨RL, "minus", "([III)I"⟩, method_5_code, 4, (some .int), { frames := 0, cells := 0, slots := 0, locals := 0 }, 0, 3, 10)
def t_47 : MT := (⟨RL, "of", "([JII)I"⟩, method_6_code, 3, (some .int), { frames := 0, cells := 0, slots := 0, locals := 0 }, 0, 3, 10)
def t_48 : MT := (⟨RL, "put", "([JIII)V"⟩, method_7_code, 4, none, { frames := 0, cells := 0, slots := 0, locals := 0 }, 0, 4, 10)
def t_49 : MT := (⟨RL, "plain", "([III)I"⟩, method_8_code, 5, (some .int), { frames := 0, cells := 0, slots := 0, locals := 0 }, 0, 3, 10)
def t_50 : MT := (⟨RL, "fields", "([I[J)I"⟩, method_9_code, 5, (some .int), { frames := 1, cells := 0, slots := 0, locals := 24 }, 0, 2, 10)
def t_51 : MT := (⟨RL, "begins", "([I[JI)V"⟩, method_10_code, 5, none, { frames := 1, cells := 0, slots := 0, locals := 24 }, 0, 3, 10)
def t_52 : MT := (⟨RL, "size", "(I)I"⟩, method_11_code, 1, (some .int), { frames := 0, cells := 0, slots := 0, locals := 0 }, 0, 1, 10)
def t_53 : MT := (⟨RL, "acts", "(LRingPlanes;[I[JI)Z"⟩, method_12_code, 13, (some .boolean), { frames := 4, cells := 0, slots := 0, locals := 93 }, 0, 4, 10)
def t_54 : MT := (⟨RL, "eighths", "(I)I"⟩, method_13_code, 3, (some .int), { frames := 0, cells := 0, slots := 0, locals := 0 }, 0, 1, 10)
def t_55 : MT := (⟨RL, "unlike", "([I[JIIZ)Z"⟩, method_14_code, 8, (some .boolean), { frames := 1, cells := 0, slots := 0, locals := 23 }, 0, 5, 10)
def t_56 : MT := (⟨RL, "holds", "([I[JIIII)Z"⟩, method_15_code, 6, (some .boolean), { frames := 2, cells := 0, slots := 0, locals := 50 }, 0, 6, 10)
def t_57 : MT := (⟨RL, "witness", "([I[JI)I"⟩, method_16_code, 9, (some .int), { frames := 3, cells := 0, slots := 0, locals := 75 }, 0, 3, 10)
def t_58 : MT := (⟨RL, "areLaws", "(LRingPlanes;[I[J)Z"⟩, method_17_code, 7, (some .boolean), { frames := 6, cells := 0, slots := 0, locals := 146 }, 0, 3, 10)
def t_59 : MT := (⟨RL, "areElements", "(LRingPlanes;[I[J)Z"⟩, method_18_code, 13, (some .boolean), { frames := 7, cells := 0, slots := 0, locals := 169 }, 0, 3, 10)
def t_60 : MT := (⟨RL, "isSo", "(LRingPlanes;[I[J)Z"⟩, method_19_code, 11, (some .boolean), { frames := 8, cells := 0, slots := 0, locals := 201 }, 0, 3, 10)
def t_61 : MT := (⟨RL, "acts", "(LRingPlanes;[I[JI)Z"⟩, method_12_code, 13, (some .boolean), { frames := 4, cells := 1, slots := 9, locals := 93 }, 0, 4, 10)
def m_tab : List MT := [t_0, t_1, t_2, t_3, t_4, t_5, t_6, t_7, t_8, t_9, t_10, t_11, t_12, t_13, t_14, t_15, t_16, t_17, t_18, t_19, t_20, t_21, t_22, t_23, t_24, t_25, t_26, t_27, t_28, t_29, t_30, t_31, t_32, t_33, t_34, t_35, t_36, t_37, t_38, t_39, t_40, t_41, t_42, t_43, t_44, t_45, t_46, t_47, t_48, t_49, t_50, t_51, t_52, t_53, t_54, t_55, t_56, t_57, t_58, t_59, t_60, t_61]
def m_get (mi : Nat) : MT := m_tab.getD mi t_0
def m_y (mi : Nat) : MethodName := (m_get mi).1
def m_cd (mi : Nat) : ByteArray := (m_get mi).2.1
def m_ml (mi : Nat) : Nat := (m_get mi).2.2.1
def m_ret (mi : Nat) : Option FieldType := (m_get mi).2.2.2.1
def m_rm (mi : Nat) : Room := (m_get mi).2.2.2.2.1
def m_kind (mi : Nat) : Nat := (m_get mi).2.2.2.2.2.1
def m_np (mi : Nat) : Nat := (m_get mi).2.2.2.2.2.2.1
def m_on (mi : Nat) : Nat := (m_get mi).2.2.2.2.2.2.2
def m_own (mi : Nat) : String := m_cn.getD (m_on mi) ""
def bd_0 : List BE := [(0, .new 41, 5, 0, 0), (3, .dup, 0, 0, 0), (4, .invokespecial 107, 29, 0, 0), (7, .astore_n 1, 0, 0, 0), (8, .iconst 1, 0, 0, 0), (9, .newarray .int, 0, 0, 0), (11, .astore_n 2, 0, 0, 0), (12, .bipush 9, 0, 0, 9), (14, .newarray .long, 2, 0, 0), (16, .astore_n 3, 0, 0, 0), (17, .aload_n 2, 0, 0, 0), (18, .aload_n 3, 0, 0, 0), (19, .iconst 3, 0, 0, 0), (20, .invokestatic 36, 51, 0, 0), (23, .aload_n 1, 0, 0, 0), (24, .aload_n 2, 0, 0, 0), (25, .aload_n 3, 0, 0, 0), (26, .invokestatic 108, 60, 0, 0), (29, .istore 4, 0, 0, 0), (31, .bipush 8, 0, 0, 8), (33, .aload_n 0, 0, 0, 0), (34, .iconst 0, 0, 0, 0), (35, .invokestatic 111, 43, 0, 0), (38, .bipush 30, 0, 0, 30), (40, .invokestatic 28, 44, 0, 0), (43, .iadd, 0, 0, 0), (44, .istore 5, 0, 0, 0), (46, .iconst 0, 0, 0, 0), (47, .istore 6, 0, 0, 0), (49, .iload 6, 0, 0, 0), (51, .iload 5, 0, 0, 0), (53, .if_icmp .ge 54, 107, 0, 0), (56, .iload 4, 0, 0, 0), (58, .ifCond .eq 49, 107, 0, 0), (61, .aload_n 1, 0, 0, 0), (62, .aload_n 2, 0, 0, 0), (63, .aload_n 3, 0, 0, 0), (64, .aload_n 0, 0, 0, 0), (65, .iconst 1, 0, 0, 0), (66, .iload 6, 0, 0, 0), (68, .iadd, 0, 0, 0), (69, .invokestatic 111, 43, 0, 0), (72, .sipush 7919, 0, 0, 7919), (75, .iload 6, 0, 0, 0), (77, .imul, 0, 0, 0), (78, .ixor, 0, 0, 0), (79, .invokestatic 115, 53, 0, 0), (82, .ifCond .eq 16, 98, 0, 0), (85, .aload_n 1, 0, 0, 0), (86, .aload_n 2, 0, 0, 0), (87, .aload_n 3, 0, 0, 0), (88, .invokestatic 108, 60, 0, 0), (91, .ifCond .eq 7, 98, 0, 0), (94, .iconst 1, 0, 0, 0), (95, .goto 4, 99, 0, 0), (98, .iconst 0, 0, 0, 0), (99, .istore 4, 0, 0, 0), (101, .iinc 6 1, 0, 0, 0), (104, .goto (-55), 49, 0, 0), (107, .iload 4, 0, 0, 0), (109, .ifCond .eq 42, 151, 0, 0), (112, .aload_n 1, 0, 0, 0), (113, .bipush 6, 0, 0, 6), (115, .invokevirtual 100, 38, 0, 0), (118, .ldc 86, 0, 0, (-1000001)), (120, .if_icmp .ne 31, 151, 0, 0), (123, .aload_n 1, 0, 0, 0), (124, .bipush 6, 0, 0, 6), (126, .invokevirtual 40, 30, 0, 0), (129, .ldc 86, 0, 0, (-1000001)), (131, .if_icmp .ne 20, 151, 0, 0), (134, .aload_n 1, 0, 0, 0), (135, .bipush 9, 0, 0, 9), (137, .iconst 0, 0, 0, 0), (138, .iconst 0, 0, 0, 0), (139, .invokevirtual 53, 32, 0, 0), (142, .ldc 86, 0, 0, (-1000001)), (144, .if_icmp .ne 7, 151, 0, 0), (147, .iconst 1, 0, 0, 0), (148, .goto 4, 152, 0, 0), (151, .iconst 0, 0, 0, 0), (152, .ireturn, 0, 0, 0)]
def bd_1 : List BE := [(0, .aload_n 0, 0, 0, 0), (1, .invokespecial 3, 1000, 0, 0), (4, .aload_n 0, 0, 0, 0), (5, .iconst 4, 0, 0, 0), (6, .newarray .int, 0, 0, 0), (8, .putfield 9, 0, 0, 1), (11, .aload_n 0, 0, 0, 0), (12, .sipush 324, 0, 0, 324), (15, .newarray .int, 0, 0, 0), (17, .putfield 15, 0, 1, 1), (20, .return_, 0, 0, 0)]
def bd_2 : List BE := [(0, .aload_n 0, 0, 0, 0), (1, .getfield 18, 0, 2, 0), (4, .iconst 4, 0, 0, 0), (5, .if_icmp .lt 7, 12, 0, 0), (8, .aload_n 0, 0, 0, 0), (9, .invokevirtual 22, 3, 0, 0), (12, .aload_n 0, 0, 0, 0), (13, .getfield 18, 0, 2, 0), (16, .ifCond .lt 55, 71, 0, 0), (19, .aload_n 0, 0, 0, 0), (20, .getfield 18, 0, 2, 0), (23, .iconst 4, 0, 0, 0), (24, .if_icmp .ge 47, 71, 0, 0), (27, .aload_n 0, 0, 0, 0), (28, .getfield 9, 0, 0, 0), (31, .aload_n 0, 0, 0, 0), (32, .getfield 18, 0, 2, 0), (35, .aload_n 1, 0, 0, 0), (36, .getfield 25, 3, 0, 0), (39, .iastore, 0, 0, 0), (40, .aload_n 1, 0, 0, 0), (41, .getfield 30, 3, 1, 0), (44, .iconst 0, 0, 0, 0), (45, .aload_n 0, 0, 0, 0), (46, .getfield 15, 0, 1, 0), (49, .aload_n 0, 0, 0, 0), (50, .getfield 18, 0, 2, 0), (53, .bipush 81, 0, 0, 81), (55, .imul, 0, 0, 0), (56, .bipush 81, 0, 0, 81), (58, .invokestatic 31, 1001, 0, 0), (61, .aload_n 0, 0, 0, 0), (62, .dup, 0, 0, 0), (63, .getfield 18, 0, 2, 0), (66, .iconst 1, 0, 0, 0), (67, .iadd, 0, 0, 0), (68, .putfield 18, 0, 2, 0), (71, .return_, 0, 0, 0)]
def bd_3 : List BE := [(0, .iconst 3, 0, 0, 0), (1, .istore_n 1, 0, 0, 0), (2, .aload_n 0, 0, 0, 0), (3, .getfield 9, 0, 0, 0), (6, .iconst 1, 0, 0, 0), (7, .aload_n 0, 0, 0, 0), (8, .getfield 9, 0, 0, 0), (11, .iconst 0, 0, 0, 0), (12, .iload_n 1, 0, 0, 0), (13, .invokestatic 31, 1001, 0, 0), (16, .aload_n 0, 0, 0, 0), (17, .getfield 15, 0, 1, 0), (20, .bipush 81, 0, 0, 81), (22, .aload_n 0, 0, 0, 0), (23, .getfield 15, 0, 1, 0), (26, .iconst 0, 0, 0, 0), (27, .iload_n 1, 0, 0, 0), (28, .bipush 81, 0, 0, 81), (30, .imul, 0, 0, 0), (31, .invokestatic 31, 1001, 0, 0), (34, .aload_n 0, 0, 0, 0), (35, .iload_n 1, 0, 0, 0), (36, .putfield 18, 0, 2, 0), (39, .return_, 0, 0, 0)]
def bd_4 : List BE := [(0, .iload_n 1, 0, 0, 0), (1, .iconst 1, 0, 0, 0), (2, .if_icmp .le 10, 12, 0, 0), (5, .aload_n 0, 0, 0, 0), (6, .getfield 9, 3, 0, 0), (9, .goto 4, 13, 0, 0), (12, .iconst 1, 0, 0, 0), (13, .istore_n 2, 0, 0, 0), (14, .iload_n 1, 0, 0, 0), (15, .iconst 1, 0, 0, 0), (16, .if_icmp .le 15, 31, 0, 0), (19, .iload_n 1, 0, 0, 0), (20, .iconst 5, 0, 0, 0), (21, .if_icmp .ge 10, 31, 0, 0), (24, .aload_n 0, 0, 0, 0), (25, .getfield 9, 3, 0, 0), (28, .goto 4, 32, 0, 0), (31, .iconst 1, 0, 0, 0), (32, .istore_n 3, 0, 0, 0), (33, .iconst 0, 0, 0, 0), (34, .istore 4, 0, 0, 0), (36, .iload 4, 0, 0, 0), (38, .aload_n 0, 0, 0, 0), (39, .getfield 9, 3, 0, 0), (42, .if_icmp .ge 68, 110, 0, 0), (45, .iconst 0, 0, 0, 0), (46, .istore 5, 0, 0, 0), (48, .iload 5, 0, 0, 0), (50, .iload_n 2, 0, 0, 0), (51, .if_icmp .ge 53, 104, 0, 0), (54, .iconst 0, 0, 0, 0), (55, .istore 6, 0, 0, 0), (57, .iload 6, 0, 0, 0), (59, .iload_n 3, 0, 0, 0), (60, .if_icmp .ge 38, 98, 0, 0), (63, .aload_n 0, 0, 0, 0), (64, .iload_n 1, 0, 0, 0), (65, .iload 4, 0, 0, 0), (67, .iload 5, 0, 0, 0), (69, .iload 6, 0, 0, 0), (71, .invokestatic 15, 6, 0, 0), (74, .ifCond .ne 18, 92, 0, 0), (77, .bipush 81, 0, 0, 81), (79, .iload 4, 0, 0, 0), (81, .imul, 0, 0, 0), (82, .bipush 9, 0, 0, 9), (84, .iload 5, 0, 0, 0), (86, .imul, 0, 0, 0), (87, .iadd, 0, 0, 0), (88, .iload 6, 0, 0, 0), (90, .iadd, 0, 0, 0), (91, .ireturn, 0, 0, 0), (92, .iinc 6 1, 0, 0, 0), (95, .goto (-38), 57, 0, 0), (98, .iinc 5 1, 0, 0, 0), (101, .goto (-53), 48, 0, 0), (104, .iinc 4 1, 0, 0, 0), (107, .goto (-71), 36, 0, 0), (110, .iconst (-1), 0, 0, 0), (111, .ireturn, 0, 0, 0)]
def bd_5 : List BE := [(0, .iload_n 1, 0, 0, 0), (1, .iconst 1, 0, 0, 0), (2, .if_icmp .ne 8, 10, 0, 0), (5, .iload_n 0, 0, 0, 0), (6, .bipush 81, 0, 0, 81), (8, .idiv, 0, 0, 0), (9, .ireturn, 0, 0, 0), (10, .iload_n 1, 0, 0, 0), (11, .iconst 2, 0, 0, 0), (12, .if_icmp .ne 13, 25, 0, 0), (15, .iload_n 0, 0, 0, 0), (16, .bipush 9, 0, 0, 9), (18, .idiv, 0, 0, 0), (19, .bipush 9, 0, 0, 9), (21, .irem, 0, 0, 0), (22, .goto 7, 29, 0, 0), (25, .iload_n 0, 0, 0, 0), (26, .bipush 9, 0, 0, 9), (28, .irem, 0, 0, 0), (29, .ireturn, 0, 0, 0)]
def bd_6 : List BE := [(0, .iload_n 1, 0, 0, 0), (1, .tableswitch 220 0 5 #[39, 63, 89, 127, 166, 199], 0, 0, 0), (40, .aload_n 0, 0, 0, 0), (41, .iconst 0, 0, 0, 0), (42, .iload_n 2, 0, 0, 0), (43, .invokevirtual 21, 17, 0, 0), (46, .ifCond .ne 16, 62, 0, 0), (49, .aload_n 0, 0, 0, 0), (50, .iload_n 2, 0, 0, 0), (51, .iconst 0, 0, 0, 0), (52, .invokevirtual 21, 17, 0, 0), (55, .ifCond .ne 7, 62, 0, 0), (58, .iconst 1, 0, 0, 0), (59, .goto 4, 63, 0, 0), (62, .iconst 0, 0, 0, 0), (63, .ireturn, 0, 0, 0), (64, .aload_n 0, 0, 0, 0), (65, .iconst 1, 0, 0, 0), (66, .iload_n 2, 0, 0, 0), (67, .invokevirtual 21, 17, 0, 0), (70, .iload_n 2, 0, 0, 0), (71, .if_icmp .ne 17, 88, 0, 0), (74, .aload_n 0, 0, 0, 0), (75, .iload_n 2, 0, 0, 0), (76, .iconst 1, 0, 0, 0), (77, .invokevirtual 21, 17, 0, 0), (80, .iload_n 2, 0, 0, 0), (81, .if_icmp .ne 7, 88, 0, 0), (84, .iconst 1, 0, 0, 0), (85, .goto 4, 89, 0, 0), (88, .iconst 0, 0, 0, 0), (89, .ireturn, 0, 0, 0), (90, .aload_n 0, 0, 0, 0), (91, .iload_n 2, 0, 0, 0), (92, .aload_n 0, 0, 0, 0), (93, .iload_n 3, 0, 0, 0), (94, .iload 4, 0, 0, 0), (96, .invokevirtual 25, 15, 0, 0), (99, .invokevirtual 21, 17, 0, 0), (102, .aload_n 0, 0, 0, 0), (103, .aload_n 0, 0, 0, 0), (104, .iload_n 2, 0, 0, 0), (105, .iload_n 3, 0, 0, 0), (106, .invokevirtual 21, 17, 0, 0), (109, .aload_n 0, 0, 0, 0), (110, .iload_n 2, 0, 0, 0), (111, .iload 4, 0, 0, 0), (113, .invokevirtual 21, 17, 0, 0), (116, .invokevirtual 25, 15, 0, 0), (119, .if_icmp .ne 7, 126, 0, 0), (122, .iconst 1, 0, 0, 0), (123, .goto 4, 127, 0, 0), (126, .iconst 0, 0, 0, 0), (127, .ireturn, 0, 0, 0), (128, .aload_n 0, 0, 0, 0), (129, .aload_n 0, 0, 0, 0), (130, .iload_n 2, 0, 0, 0), (131, .iload_n 3, 0, 0, 0), (132, .invokevirtual 25, 15, 0, 0), (135, .iload 4, 0, 0, 0), (137, .invokevirtual 21, 17, 0, 0), (140, .aload_n 0, 0, 0, 0), (141, .aload_n 0, 0, 0, 0), (142, .iload_n 2, 0, 0, 0), (143, .iload 4, 0, 0, 0), (145, .invokevirtual 21, 17, 0, 0), (148, .aload_n 0, 0, 0, 0), (149, .iload_n 3, 0, 0, 0), (150, .iload 4, 0, 0, 0), (152, .invokevirtual 21, 17, 0, 0), (155, .invokevirtual 25, 15, 0, 0), (158, .if_icmp .ne 7, 165, 0, 0), (161, .iconst 1, 0, 0, 0), (162, .goto 4, 166, 0, 0), (165, .iconst 0, 0, 0, 0), (166, .ireturn, 0, 0, 0), (167, .aload_n 0, 0, 0, 0), (168, .aload_n 0, 0, 0, 0), (169, .iload_n 2, 0, 0, 0), (170, .iload_n 3, 0, 0, 0), (171, .invokevirtual 21, 17, 0, 0), (174, .iload 4, 0, 0, 0), (176, .invokevirtual 21, 17, 0, 0), (179, .aload_n 0, 0, 0, 0), (180, .iload_n 2, 0, 0, 0), (181, .aload_n 0, 0, 0, 0), (182, .iload_n 3, 0, 0, 0), (183, .iload 4, 0, 0, 0), (185, .invokevirtual 21, 17, 0, 0), (188, .invokevirtual 21, 17, 0, 0), (191, .if_icmp .ne 7, 198, 0, 0), (194, .iconst 1, 0, 0, 0), (195, .goto 4, 199, 0, 0), (198, .iconst 0, 0, 0, 0), (199, .ireturn, 0, 0, 0), (200, .aload_n 0, 0, 0, 0), (201, .iload_n 2, 0, 0, 0), (202, .iload_n 3, 0, 0, 0), (203, .invokevirtual 21, 17, 0, 0), (206, .aload_n 0, 0, 0, 0), (207, .iload_n 3, 0, 0, 0), (208, .iload_n 2, 0, 0, 0), (209, .invokevirtual 21, 17, 0, 0), (212, .if_icmp .ne 7, 219, 0, 0), (215, .iconst 1, 0, 0, 0), (216, .goto 4, 220, 0, 0), (219, .iconst 0, 0, 0, 0), (220, .ireturn, 0, 0, 0), (221, .iload_n 2, 0, 0, 0), (222, .iload_n 3, 0, 0, 0), (223, .if_icmp .eq 27, 250, 0, 0), (226, .aload_n 0, 0, 0, 0), (227, .iload_n 2, 0, 0, 0), (228, .iload_n 3, 0, 0, 0), (229, .iload_n 1, 0, 0, 0), (230, .bipush 6, 0, 0, 6), (232, .if_icmp .ne 7, 239, 0, 0), (235, .iconst 1, 0, 0, 0), (236, .goto 4, 240, 0, 0), (239, .iconst 0, 0, 0, 0), (240, .invokestatic 28, 9, 0, 0), (243, .aload_n 0, 0, 0, 0), (244, .getfield 9, 3, 0, 0), (247, .if_icmp .ne 7, 254, 0, 0), (250, .iconst 1, 0, 0, 0), (251, .goto 4, 255, 0, 0), (254, .iconst 0, 0, 0, 0), (255, .ireturn, 0, 0, 0)]
def bd_7 : List BE := [(0, .iload_n 1, 0, 0, 0), (1, .ifCond .ne 7, 8, 0, 0), (4, .iconst 1, 0, 0, 0), (5, .goto 7, 12, 0, 0), (8, .aload_n 0, 0, 0, 0), (9, .getfield 9, 3, 0, 0), (12, .istore_n 3, 0, 0, 0), (13, .iconst 0, 0, 0, 0), (14, .istore 4, 0, 0, 0), (16, .iload 4, 0, 0, 0), (18, .aload_n 0, 0, 0, 0), (19, .getfield 9, 3, 0, 0), (22, .if_icmp .ge 39, 61, 0, 0), (25, .iconst 0, 0, 0, 0), (26, .istore 5, 0, 0, 0), (28, .iload 5, 0, 0, 0), (30, .iload_n 3, 0, 0, 0), (31, .if_icmp .ge 24, 55, 0, 0), (34, .aload_n 0, 0, 0, 0), (35, .iload_n 1, 0, 0, 0), (36, .iload_n 2, 0, 0, 0), (37, .iload 4, 0, 0, 0), (39, .iload 5, 0, 0, 0), (41, .invokestatic 32, 8, 0, 0), (44, .ifCond .ne 5, 49, 0, 0), (47, .iconst 0, 0, 0, 0), (48, .ireturn, 0, 0, 0), (49, .iinc 5 1, 0, 0, 0), (52, .goto (-24), 28, 0, 0), (55, .iinc 4 1, 0, 0, 0), (58, .goto (-42), 16, 0, 0), (61, .iconst 1, 0, 0, 0), (62, .ireturn, 0, 0, 0)]
def bd_8 : List BE := [(0, .iload_n 1, 0, 0, 0), (1, .ifCond .ne 12, 13, 0, 0), (4, .aload_n 0, 0, 0, 0), (5, .iconst 5, 0, 0, 0), (6, .iload_n 2, 0, 0, 0), (7, .iload_n 3, 0, 0, 0), (8, .iconst 0, 0, 0, 0), (9, .invokestatic 15, 6, 0, 0), (12, .ireturn, 0, 0, 0), (13, .iload_n 1, 0, 0, 0), (14, .iconst 1, 0, 0, 0), (15, .if_icmp .ne 15, 30, 0, 0), (18, .aload_n 0, 0, 0, 0), (19, .iconst 3, 0, 0, 0), (20, .iload_n 3, 0, 0, 0), (21, .iload 4, 0, 0, 0), (23, .iload_n 2, 0, 0, 0), (24, .invokestatic 15, 6, 0, 0), (27, .goto 12, 39, 0, 0), (30, .aload_n 0, 0, 0, 0), (31, .iconst 4, 0, 0, 0), (32, .iload_n 2, 0, 0, 0), (33, .iload_n 3, 0, 0, 0), (34, .iload 4, 0, 0, 0), (36, .invokestatic 15, 6, 0, 0), (39, .ireturn, 0, 0, 0)]
def bd_9 : List BE := [(0, .iconst 0, 0, 0, 0), (1, .istore 4, 0, 0, 0), (3, .iconst 0, 0, 0, 0), (4, .istore 5, 0, 0, 0), (6, .iconst 0, 0, 0, 0), (7, .istore 6, 0, 0, 0), (9, .iload 6, 0, 0, 0), (11, .aload_n 0, 0, 0, 0), (12, .getfield 9, 3, 0, 0), (15, .if_icmp .ge 50, 65, 0, 0), (18, .iconst 1, 0, 0, 0), (19, .aload_n 0, 0, 0, 0), (20, .aload_n 0, 0, 0, 0), (21, .iload_n 1, 0, 0, 0), (22, .iload 6, 0, 0, 0), (24, .iload_n 3, 0, 0, 0), (25, .invokevirtual 35, 18, 0, 0), (28, .aload_n 0, 0, 0, 0), (29, .iload_n 2, 0, 0, 0), (30, .iload 6, 0, 0, 0), (32, .iload_n 3, 0, 0, 0), (33, .invokevirtual 35, 18, 0, 0), (36, .invokevirtual 39, 16, 0, 0), (39, .ishl, 0, 0, 0), (40, .istore 7, 0, 0, 0), (42, .iload 5, 0, 0, 0), (44, .iload 4, 0, 0, 0), (46, .iload 7, 0, 0, 0), (48, .iand, 0, 0, 0), (49, .ior, 0, 0, 0), (50, .istore 5, 0, 0, 0), (52, .iload 4, 0, 0, 0), (54, .iload 7, 0, 0, 0), (56, .ior, 0, 0, 0), (57, .istore 4, 0, 0, 0), (59, .iinc 6 1, 0, 0, 0), (62, .goto (-53), 9, 0, 0), (65, .iload 4, 0, 0, 0), (67, .iload 5, 0, 0, 0), (69, .iconst (-1), 0, 0, 0), (70, .ixor, 0, 0, 0), (71, .iand, 0, 0, 0), (72, .invokestatic 42, 42, 0, 0), (75, .ireturn, 0, 0, 0)]
def bd_10 : List BE := [(0, .aload_n 0, 0, 0, 0), (1, .invokespecial 3, 1000, 0, 0), (4, .aload_n 0, 0, 0, 0), (5, .bipush 91, 0, 0, 91), (7, .newarray .int, 0, 0, 0), (9, .putfield 9, 1, 0, 1), (12, .aload_n 0, 0, 0, 0), (13, .bipush 91, 0, 0, 91), (15, .newarray .int, 0, 0, 0), (17, .putfield 15, 1, 1, 1), (20, .aload_n 0, 0, 0, 0), (21, .bipush 91, 0, 0, 91), (23, .newarray .int, 0, 0, 0), (25, .putfield 18, 1, 2, 1), (28, .return_, 0, 0, 0)]
def bd_11 : List BE := [(0, .aload_n 0, 0, 0, 0), (1, .invokespecial 3, 1000, 0, 0), (4, .aload_n 0, 0, 0, 0), (5, .new 9, 3, 0, 0), (8, .dup, 0, 0, 0), (9, .invokespecial 11, 13, 0, 0), (12, .putfield 12, 2, 0, 1), (15, .return_, 0, 0, 0)]
def bd_12 : List BE := [(0, .aload_n 0, 0, 0, 0), (1, .getfield 12, 2, 0, 0), (4, .getfield 18, 3, 0, 0), (7, .aload_n 0, 0, 0, 0), (8, .getfield 12, 2, 0, 0), (11, .getfield 18, 3, 0, 0), (14, .imul, 0, 0, 0), (15, .aload_n 0, 0, 0, 0), (16, .getfield 12, 2, 0, 0), (19, .getfield 18, 3, 0, 0), (22, .iadd, 0, 0, 0), (23, .iconst 1, 0, 0, 0), (24, .iadd, 0, 0, 0), (25, .ireturn, 0, 0, 0)]
def bd_13 : List BE := [(0, .aload_n 0, 0, 0, 0), (1, .invokespecial 3, 1000, 0, 0), (4, .aload_n 0, 0, 0, 0), (5, .bipush 81, 0, 0, 81), (7, .newarray .int, 0, 0, 0), (9, .putfield 9, 3, 1, 1), (12, .aload_n 0, 0, 0, 0), (13, .iconst 3, 0, 0, 0), (14, .invokevirtual 15, 21, 0, 0), (17, .return_, 0, 0, 0)]
def bd_14 : List BE := [(0, .iload_n 1, 0, 0, 0), (1, .ifCond .lt 15, 16, 0, 0), (4, .iload_n 1, 0, 0, 0), (5, .aload_n 0, 0, 0, 0), (6, .getfield 19, 3, 0, 0), (9, .if_icmp .ge 7, 16, 0, 0), (12, .iconst 1, 0, 0, 0), (13, .goto 4, 17, 0, 0), (16, .iconst 0, 0, 0, 0), (17, .ireturn, 0, 0, 0)]
def bd_15 : List BE := [(0, .aload_n 0, 0, 0, 0), (1, .getfield 19, 3, 0, 0), (4, .iconst 4, 0, 0, 0), (5, .if_icmp .ne 7, 12, 0, 0), (8, .iload_n 1, 0, 0, 0), (9, .iload_n 2, 0, 0, 0), (10, .ixor, 0, 0, 0), (11, .ireturn, 0, 0, 0), (12, .aload_n 0, 0, 0, 0), (13, .getfield 19, 3, 0, 0), (16, .bipush 9, 0, 0, 9), (18, .if_icmp .ne 25, 43, 0, 0), (21, .iconst 3, 0, 0, 0), (22, .iload_n 1, 0, 0, 0), (23, .iconst 3, 0, 0, 0), (24, .idiv, 0, 0, 0), (25, .iload_n 2, 0, 0, 0), (26, .iconst 3, 0, 0, 0), (27, .idiv, 0, 0, 0), (28, .iadd, 0, 0, 0), (29, .iconst 3, 0, 0, 0), (30, .irem, 0, 0, 0), (31, .imul, 0, 0, 0), (32, .iload_n 1, 0, 0, 0), (33, .iconst 3, 0, 0, 0), (34, .irem, 0, 0, 0), (35, .iload_n 2, 0, 0, 0), (36, .iconst 3, 0, 0, 0), (37, .irem, 0, 0, 0), (38, .iadd, 0, 0, 0), (39, .iconst 3, 0, 0, 0), (40, .irem, 0, 0, 0), (41, .iadd, 0, 0, 0), (42, .ireturn, 0, 0, 0), (43, .iload_n 1, 0, 0, 0), (44, .iload_n 2, 0, 0, 0), (45, .iadd, 0, 0, 0), (46, .aload_n 0, 0, 0, 0), (47, .getfield 19, 3, 0, 0), (50, .if_icmp .ge 9, 59, 0, 0), (53, .iload_n 1, 0, 0, 0), (54, .iload_n 2, 0, 0, 0), (55, .iadd, 0, 0, 0), (56, .goto 11, 67, 0, 0), (59, .iload_n 1, 0, 0, 0), (60, .iload_n 2, 0, 0, 0), (61, .iadd, 0, 0, 0), (62, .aload_n 0, 0, 0, 0), (63, .getfield 19, 3, 0, 0), (66, .isub, 0, 0, 0), (67, .ireturn, 0, 0, 0)]
def bd_16 : List BE := [(0, .aload_n 0, 0, 0, 0), (1, .getfield 19, 3, 0, 0), (4, .iconst 4, 0, 0, 0), (5, .if_icmp .ne 7, 12, 0, 0), (8, .iload_n 1, 0, 0, 0), (9, .iload_n 2, 0, 0, 0), (10, .ixor, 0, 0, 0), (11, .ireturn, 0, 0, 0), (12, .aload_n 0, 0, 0, 0), (13, .getfield 19, 3, 0, 0), (16, .bipush 9, 0, 0, 9), (18, .if_icmp .ne 29, 47, 0, 0), (21, .iconst 3, 0, 0, 0), (22, .iload_n 1, 0, 0, 0), (23, .iconst 3, 0, 0, 0), (24, .idiv, 0, 0, 0), (25, .iload_n 2, 0, 0, 0), (26, .iconst 3, 0, 0, 0), (27, .idiv, 0, 0, 0), (28, .isub, 0, 0, 0), (29, .iconst 3, 0, 0, 0), (30, .iadd, 0, 0, 0), (31, .iconst 3, 0, 0, 0), (32, .irem, 0, 0, 0), (33, .imul, 0, 0, 0), (34, .iload_n 1, 0, 0, 0), (35, .iconst 3, 0, 0, 0), (36, .irem, 0, 0, 0), (37, .iload_n 2, 0, 0, 0), (38, .iconst 3, 0, 0, 0), (39, .irem, 0, 0, 0), (40, .isub, 0, 0, 0), (41, .iconst 3, 0, 0, 0), (42, .iadd, 0, 0, 0), (43, .iconst 3, 0, 0, 0), (44, .irem, 0, 0, 0), (45, .iadd, 0, 0, 0), (46, .ireturn, 0, 0, 0), (47, .iload_n 1, 0, 0, 0), (48, .iload_n 2, 0, 0, 0), (49, .if_icmp .ge 14, 63, 0, 0), (52, .iload_n 1, 0, 0, 0), (53, .iload_n 2, 0, 0, 0), (54, .isub, 0, 0, 0), (55, .aload_n 0, 0, 0, 0), (56, .getfield 19, 3, 0, 0), (59, .iadd, 0, 0, 0), (60, .goto 6, 66, 0, 0), (63, .iload_n 1, 0, 0, 0), (64, .iload_n 2, 0, 0, 0), (65, .isub, 0, 0, 0), (66, .ireturn, 0, 0, 0)]
def bd_17 : List BE := [(0, .bipush 9, 0, 0, 9), (2, .iload_n 1, 0, 0, 0), (3, .imul, 0, 0, 0), (4, .iload_n 2, 0, 0, 0), (5, .iadd, 0, 0, 0), (6, .istore_n 3, 0, 0, 0), (7, .iload_n 3, 0, 0, 0), (8, .ifCond .lt 21, 29, 0, 0), (11, .iload_n 3, 0, 0, 0), (12, .aload_n 0, 0, 0, 0), (13, .getfield 9, 3, 1, 0), (16, .arraylength, 0, 0, 0), (17, .if_icmp .ge 12, 29, 0, 0), (20, .aload_n 0, 0, 0, 0), (21, .getfield 9, 3, 1, 0), (24, .iload_n 3, 0, 0, 0), (25, .iaload, 0, 0, 0), (26, .goto 4, 30, 0, 0), (29, .iconst 0, 0, 0, 0), (30, .ireturn, 0, 0, 0)]
def bd_18 : List BE := [(0, .iload_n 3, 0, 0, 0), (1, .ifCond .eq 12, 13, 0, 0), (4, .aload_n 0, 0, 0, 0), (5, .iload_n 1, 0, 0, 0), (6, .iload_n 2, 0, 0, 0), (7, .invokevirtual 23, 17, 0, 0), (10, .goto 9, 19, 0, 0), (13, .aload_n 0, 0, 0, 0), (14, .iload_n 2, 0, 0, 0), (15, .iload_n 1, 0, 0, 0), (16, .invokevirtual 23, 17, 0, 0), (19, .ireturn, 0, 0, 0)]
def bd_19 : List BE := [(0, .iconst 0, 0, 0, 0), (1, .istore 4, 0, 0, 0), (3, .iload 4, 0, 0, 0), (5, .aload_n 0, 0, 0, 0), (6, .getfield 19, 3, 0, 0), (9, .if_icmp .ge 24, 33, 0, 0), (12, .aload_n 0, 0, 0, 0), (13, .iload_n 1, 0, 0, 0), (14, .iload 4, 0, 0, 0), (16, .iload_n 3, 0, 0, 0), (17, .invokevirtual 27, 18, 0, 0), (20, .iload_n 2, 0, 0, 0), (21, .if_icmp .ne 6, 27, 0, 0), (24, .iload 4, 0, 0, 0), (26, .ireturn, 0, 0, 0), (27, .iinc 4 1, 0, 0, 0), (30, .goto (-27), 3, 0, 0), (33, .iconst (-1), 0, 0, 0), (34, .ireturn, 0, 0, 0)]
def bd_20 : List BE := [(0, .bipush 9, 0, 0, 9), (2, .iload_n 1, 0, 0, 0), (3, .imul, 0, 0, 0), (4, .iload_n 2, 0, 0, 0), (5, .iadd, 0, 0, 0), (6, .istore 4, 0, 0, 0), (8, .iload 4, 0, 0, 0), (10, .ifCond .lt 24, 34, 0, 0), (13, .iload 4, 0, 0, 0), (15, .aload_n 0, 0, 0, 0), (16, .getfield 9, 3, 1, 0), (19, .arraylength, 0, 0, 0), (20, .if_icmp .ge 14, 34, 0, 0), (23, .aload_n 0, 0, 0, 0), (24, .getfield 9, 3, 1, 0), (27, .iload 4, 0, 0, 0), (29, .iaload, 0, 0, 0), (30, .iload_n 3, 0, 0, 0), (31, .if_icmp .ne 5, 36, 0, 0), (34, .iconst 0, 0, 0, 0), (35, .ireturn, 0, 0, 0), (36, .aload_n 0, 0, 0, 0), (37, .getfield 9, 3, 1, 0), (40, .iload 4, 0, 0, 0), (42, .iload_n 3, 0, 0, 0), (43, .iastore, 0, 0, 0), (44, .iconst 1, 0, 0, 0), (45, .ireturn, 0, 0, 0)]
def bd_21 : List BE := [(0, .aload_n 0, 0, 0, 0), (1, .iload_n 1, 0, 0, 0), (2, .putfield 19, 3, 0, 0), (5, .iconst 0, 0, 0, 0), (6, .istore_n 2, 0, 0, 0), (7, .iload_n 2, 0, 0, 0), (8, .iload_n 1, 0, 0, 0), (9, .if_icmp .ge 35, 44, 0, 0), (12, .iconst 0, 0, 0, 0), (13, .istore_n 3, 0, 0, 0), (14, .iload_n 3, 0, 0, 0), (15, .iload_n 1, 0, 0, 0), (16, .if_icmp .ge 22, 38, 0, 0), (19, .aload_n 0, 0, 0, 0), (20, .iload_n 2, 0, 0, 0), (21, .iload_n 3, 0, 0, 0), (22, .iload_n 1, 0, 0, 0), (23, .iload_n 2, 0, 0, 0), (24, .iload_n 3, 0, 0, 0), (25, .invokestatic 31, 27, 0, 0), (28, .invokevirtual 35, 20, 0, 0), (31, .pop, 0, 0, 0), (32, .iinc 3 1, 0, 0, 0), (35, .goto (-21), 14, 0, 0), (38, .iinc 2 1, 0, 0, 0), (41, .goto (-34), 7, 0, 0), (44, .return_, 0, 0, 0)]
def bd_22 : List BE := [(0, .iconst 0, 0, 0, 0), (1, .istore_n 1, 0, 0, 0), (2, .iconst 0, 0, 0, 0), (3, .istore_n 2, 0, 0, 0), (4, .iload_n 2, 0, 0, 0), (5, .aload_n 0, 0, 0, 0), (6, .getfield 19, 3, 0, 0), (9, .if_icmp .ge 84, 93, 0, 0), (12, .aload_n 0, 0, 0, 0), (13, .iload_n 2, 0, 0, 0), (14, .invokevirtual 38, 26, 0, 0), (17, .istore_n 3, 0, 0, 0), (18, .iconst 0, 0, 0, 0), (19, .istore 4, 0, 0, 0), (21, .iload 4, 0, 0, 0), (23, .aload_n 0, 0, 0, 0), (24, .getfield 19, 3, 0, 0), (27, .if_icmp .ge 60, 87, 0, 0), (30, .aload_n 0, 0, 0, 0), (31, .getfield 19, 3, 0, 0), (34, .aload_n 0, 0, 0, 0), (35, .getfield 19, 3, 0, 0), (38, .iload 4, 0, 0, 0), (40, .iload 4, 0, 0, 0), (42, .invokestatic 31, 27, 0, 0), (45, .iload 4, 0, 0, 0), (47, .invokestatic 31, 27, 0, 0), (50, .istore 5, 0, 0, 0), (52, .iload_n 1, 0, 0, 0), (53, .aload_n 0, 0, 0, 0), (54, .iload 4, 0, 0, 0), (56, .iload_n 2, 0, 0, 0), (57, .aload_n 0, 0, 0, 0), (58, .getfield 19, 3, 0, 0), (61, .iload_n 3, 0, 0, 0), (62, .ifCond .eq 8, 70, 0, 0), (65, .iload 4, 0, 0, 0), (67, .goto 5, 72, 0, 0), (70, .iload 5, 0, 0, 0), (72, .iload_n 2, 0, 0, 0), (73, .invokestatic 31, 27, 0, 0), (76, .invokevirtual 35, 20, 0, 0), (79, .iadd, 0, 0, 0), (80, .istore_n 1, 0, 0, 0), (81, .iinc 4 1, 0, 0, 0), (84, .goto (-63), 21, 0, 0), (87, .iinc 2 1, 0, 0, 0), (90, .goto (-86), 4, 0, 0), (93, .iload_n 1, 0, 0, 0), (94, .ireturn, 0, 0, 0)]
def bd_23 : List BE := [(0, .iconst 0, 0, 0, 0), (1, .istore_n 1, 0, 0, 0), (2, .iconst 1, 0, 0, 0), (3, .istore_n 2, 0, 0, 0), (4, .iload_n 2, 0, 0, 0), (5, .aload_n 0, 0, 0, 0), (6, .getfield 19, 3, 0, 0), (9, .if_icmp .ge 56, 65, 0, 0), (12, .iconst 0, 0, 0, 0), (13, .istore_n 3, 0, 0, 0), (14, .iload_n 3, 0, 0, 0), (15, .iload_n 2, 0, 0, 0), (16, .if_icmp .ge 43, 59, 0, 0), (19, .aload_n 0, 0, 0, 0), (20, .iload_n 2, 0, 0, 0), (21, .iload_n 3, 0, 0, 0), (22, .invokevirtual 23, 17, 0, 0), (25, .istore 4, 0, 0, 0), (27, .iload_n 1, 0, 0, 0), (28, .aload_n 0, 0, 0, 0), (29, .iload_n 2, 0, 0, 0), (30, .iload_n 3, 0, 0, 0), (31, .aload_n 0, 0, 0, 0), (32, .iload_n 3, 0, 0, 0), (33, .iload_n 2, 0, 0, 0), (34, .invokevirtual 23, 17, 0, 0), (37, .invokevirtual 35, 20, 0, 0), (40, .iadd, 0, 0, 0), (41, .istore_n 1, 0, 0, 0), (42, .iload_n 1, 0, 0, 0), (43, .aload_n 0, 0, 0, 0), (44, .iload_n 3, 0, 0, 0), (45, .iload_n 2, 0, 0, 0), (46, .iload 4, 0, 0, 0), (48, .invokevirtual 35, 20, 0, 0), (51, .iadd, 0, 0, 0), (52, .istore_n 1, 0, 0, 0), (53, .iinc 3 1, 0, 0, 0), (56, .goto (-42), 14, 0, 0), (59, .iinc 2 1, 0, 0, 0), (62, .goto (-58), 4, 0, 0), (65, .iload_n 1, 0, 0, 0), (66, .ireturn, 0, 0, 0)]
def bd_24 : List BE := [(0, .iconst 0, 0, 0, 0), (1, .istore_n 1, 0, 0, 0), (2, .iconst 0, 0, 0, 0), (3, .istore_n 2, 0, 0, 0), (4, .iload_n 2, 0, 0, 0), (5, .aload_n 0, 0, 0, 0), (6, .getfield 19, 3, 0, 0), (9, .if_icmp .ge 46, 55, 0, 0), (12, .iconst 0, 0, 0, 0), (13, .istore_n 3, 0, 0, 0), (14, .iload_n 3, 0, 0, 0), (15, .aload_n 0, 0, 0, 0), (16, .getfield 19, 3, 0, 0), (19, .if_icmp .ge 30, 49, 0, 0), (22, .aload_n 0, 0, 0, 0), (23, .iload_n 2, 0, 0, 0), (24, .iload_n 3, 0, 0, 0), (25, .invokevirtual 23, 17, 0, 0), (28, .aload_n 0, 0, 0, 0), (29, .getfield 19, 3, 0, 0), (32, .iload_n 2, 0, 0, 0), (33, .iload_n 3, 0, 0, 0), (34, .invokestatic 31, 27, 0, 0), (37, .if_icmp .eq 6, 43, 0, 0), (40, .iinc 1 1, 0, 0, 0), (43, .iinc 3 1, 0, 0, 0), (46, .goto (-32), 14, 0, 0), (49, .iinc 2 1, 0, 0, 0), (52, .goto (-48), 4, 0, 0), (55, .iload_n 1, 0, 0, 0), (56, .ireturn, 0, 0, 0)]
def bd_25 : List BE := [(0, .iconst 0, 0, 0, 0), (1, .istore_n 1, 0, 0, 0), (2, .iconst 0, 0, 0, 0), (3, .istore_n 2, 0, 0, 0), (4, .iload_n 2, 0, 0, 0), (5, .aload_n 0, 0, 0, 0), (6, .getfield 19, 3, 0, 0), (9, .if_icmp .ge 37, 46, 0, 0), (12, .iconst 0, 0, 0, 0), (13, .istore_n 3, 0, 0, 0), (14, .iload_n 3, 0, 0, 0), (15, .aload_n 0, 0, 0, 0), (16, .getfield 19, 3, 0, 0), (19, .if_icmp .ge 21, 40, 0, 0), (22, .aload_n 0, 0, 0, 0), (23, .iload_n 2, 0, 0, 0), (24, .iload_n 3, 0, 0, 0), (25, .invokevirtual 23, 17, 0, 0), (28, .ifCond .ne 6, 34, 0, 0), (31, .iinc 1 1, 0, 0, 0), (34, .iinc 3 1, 0, 0, 0), (37, .goto (-23), 14, 0, 0), (40, .iinc 2 1, 0, 0, 0), (43, .goto (-39), 4, 0, 0), (46, .iload_n 1, 0, 0, 0), (47, .ireturn, 0, 0, 0)]
def bd_26 : List BE := [(0, .iconst 0, 0, 0, 0), (1, .istore_n 2, 0, 0, 0), (2, .iload_n 2, 0, 0, 0), (3, .aload_n 0, 0, 0, 0), (4, .getfield 19, 3, 0, 0), (7, .if_icmp .ge 24, 31, 0, 0), (10, .aload_n 0, 0, 0, 0), (11, .getfield 19, 3, 0, 0), (14, .iload_n 2, 0, 0, 0), (15, .iload_n 2, 0, 0, 0), (16, .invokestatic 31, 27, 0, 0), (19, .iload_n 1, 0, 0, 0), (20, .if_icmp .ne 5, 25, 0, 0), (23, .iconst 1, 0, 0, 0), (24, .ireturn, 0, 0, 0), (25, .iinc 2 1, 0, 0, 0), (28, .goto (-26), 2, 0, 0), (31, .iconst 0, 0, 0, 0), (32, .ireturn, 0, 0, 0)]
def bd_27 : List BE := [(0, .iload_n 0, 0, 0, 0), (1, .iconst 4, 0, 0, 0), (2, .if_icmp .ne 25, 27, 0, 0), (5, .iload_n 1, 0, 0, 0), (6, .ifCond .eq 7, 13, 0, 0), (9, .iload_n 2, 0, 0, 0), (10, .ifCond .ne 7, 17, 0, 0), (13, .iconst 0, 0, 0, 0), (14, .goto 12, 26, 0, 0), (17, .iconst 1, 0, 0, 0), (18, .iload_n 1, 0, 0, 0), (19, .iload_n 2, 0, 0, 0), (20, .iadd, 0, 0, 0), (21, .iconst 2, 0, 0, 0), (22, .isub, 0, 0, 0), (23, .iconst 3, 0, 0, 0), (24, .irem, 0, 0, 0), (25, .iadd, 0, 0, 0), (26, .ireturn, 0, 0, 0), (27, .iload_n 0, 0, 0, 0), (28, .bipush 9, 0, 0, 9), (30, .if_icmp .ne 53, 83, 0, 0), (33, .iload_n 1, 0, 0, 0), (34, .iconst 3, 0, 0, 0), (35, .idiv, 0, 0, 0), (36, .istore_n 3, 0, 0, 0), (37, .iload_n 1, 0, 0, 0), (38, .iconst 3, 0, 0, 0), (39, .irem, 0, 0, 0), (40, .istore 4, 0, 0, 0), (42, .iload_n 2, 0, 0, 0), (43, .iconst 3, 0, 0, 0), (44, .idiv, 0, 0, 0), (45, .istore 5, 0, 0, 0), (47, .iload_n 2, 0, 0, 0), (48, .iconst 3, 0, 0, 0), (49, .irem, 0, 0, 0), (50, .istore 6, 0, 0, 0), (52, .iconst 3, 0, 0, 0), (53, .iload_n 3, 0, 0, 0), (54, .iload 6, 0, 0, 0), (56, .imul, 0, 0, 0), (57, .iload 4, 0, 0, 0), (59, .iload 5, 0, 0, 0), (61, .imul, 0, 0, 0), (62, .iadd, 0, 0, 0), (63, .iconst 3, 0, 0, 0), (64, .irem, 0, 0, 0), (65, .imul, 0, 0, 0), (66, .iload 4, 0, 0, 0), (68, .iload 6, 0, 0, 0), (70, .imul, 0, 0, 0), (71, .iload_n 3, 0, 0, 0), (72, .iload 5, 0, 0, 0), (74, .imul, 0, 0, 0), (75, .isub, 0, 0, 0), (76, .bipush 6, 0, 0, 6), (78, .iadd, 0, 0, 0), (79, .iconst 3, 0, 0, 0), (80, .irem, 0, 0, 0), (81, .iadd, 0, 0, 0), (82, .ireturn, 0, 0, 0), (83, .iload_n 0, 0, 0, 0), (84, .ifCond .le 11, 95, 0, 0), (87, .iload_n 1, 0, 0, 0), (88, .iload_n 2, 0, 0, 0), (89, .imul, 0, 0, 0), (90, .iload_n 0, 0, 0, 0), (91, .irem, 0, 0, 0), (92, .goto 4, 96, 0, 0), (95, .iconst 0, 0, 0, 0), (96, .ireturn, 0, 0, 0)]
def bd_28 : List BE := [(0, .aload_n 0, 0, 0, 0), (1, .invokespecial 3, 1000, 0, 0), (4, .aload_n 0, 0, 0, 0), (5, .bipush 60, 0, 0, 60), (7, .newarray .char, 1, 0, 0), (9, .putfield 9, 4, 0, 1), (12, .return_, 0, 0, 0)]
def bd_29 : List BE := [(0, .aload_n 0, 0, 0, 0), (1, .invokespecial 3, 1000, 0, 0), (4, .aload_n 0, 0, 0, 0), (5, .new 9, 2, 0, 0), (8, .dup, 0, 0, 0), (9, .invokespecial 11, 11, 0, 0), (12, .putfield 12, 5, 0, 1), (15, .aload_n 0, 0, 0, 0), (16, .aload_n 0, 0, 0, 0), (17, .getfield 12, 5, 0, 0), (20, .getfield 16, 2, 0, 0), (23, .putfield 20, 5, 1, 1), (26, .aload_n 0, 0, 0, 0), (27, .new 21, 0, 0, 0), (30, .dup, 0, 0, 0), (31, .invokespecial 23, 1, 0, 0), (34, .putfield 24, 5, 2, 1), (37, .aload_n 0, 0, 0, 0), (38, .new 28, 4, 0, 0), (41, .dup, 0, 0, 0), (42, .invokespecial 30, 28, 0, 0), (45, .putfield 31, 5, 3, 1), (48, .aload_n 0, 0, 0, 0), (49, .new 35, 1, 0, 0), (52, .dup, 0, 0, 0), (53, .invokespecial 37, 10, 0, 0), (56, .putfield 38, 5, 4, 1), (59, .return_, 0, 0, 0)]
def bd_30 : List BE := [(0, .iload_n 1, 0, 0, 0), (1, .invokestatic 42, 39, 0, 0), (4, .ifCond .ne 6, 10, 0, 0), (7, .ldc 46, 0, 0, (-1000001)), (9, .ireturn, 0, 0, 0), (10, .aload_n 0, 0, 0, 0), (11, .getfield 24, 5, 2, 0), (14, .aload_n 0, 0, 0, 0), (15, .getfield 20, 5, 1, 0), (18, .invokevirtual 47, 2, 0, 0), (21, .aload_n 0, 0, 0, 0), (22, .getfield 20, 5, 1, 0), (25, .getfield 51, 3, 0, 0), (28, .istore_n 2, 0, 0, 0), (29, .aload_n 0, 0, 0, 0), (30, .getfield 20, 5, 1, 0), (33, .iload_n 1, 0, 0, 0), (34, .invokevirtual 57, 21, 0, 0), (37, .iload_n 2, 0, 0, 0), (38, .ireturn, 0, 0, 0)]
def bd_31 : List BE := [(0, .aload_n 0, 0, 0, 0), (1, .getfield 20, 5, 1, 0), (4, .getfield 51, 3, 0, 0), (7, .bipush 9, 0, 0, 9), (9, .if_icmp .eq 6, 15, 0, 0), (12, .ldc 61, 0, 0, (-1000002)), (14, .ireturn, 0, 0, 0), (15, .aload_n 0, 0, 0, 0), (16, .getfield 24, 5, 2, 0), (19, .aload_n 0, 0, 0, 0), (20, .getfield 20, 5, 1, 0), (23, .invokevirtual 47, 2, 0, 0), (26, .aload_n 0, 0, 0, 0), (27, .getfield 20, 5, 1, 0), (30, .invokevirtual 62, 22, 0, 0), (33, .ireturn, 0, 0, 0)]
def bd_32 : List BE := [(0, .aload_n 0, 0, 0, 0), (1, .getfield 20, 5, 1, 0), (4, .iload_n 1, 0, 0, 0), (5, .invokevirtual 66, 14, 0, 0), (8, .ifCond .eq 25, 33, 0, 0), (11, .aload_n 0, 0, 0, 0), (12, .getfield 20, 5, 1, 0), (15, .iload_n 2, 0, 0, 0), (16, .invokevirtual 66, 14, 0, 0), (19, .ifCond .eq 14, 33, 0, 0), (22, .aload_n 0, 0, 0, 0), (23, .getfield 20, 5, 1, 0), (26, .iload_n 3, 0, 0, 0), (27, .invokevirtual 66, 14, 0, 0), (30, .ifCond .ne 6, 36, 0, 0), (33, .ldc 46, 0, 0, (-1000001)), (35, .ireturn, 0, 0, 0), (36, .aload_n 0, 0, 0, 0), (37, .getfield 24, 5, 2, 0), (40, .aload_n 0, 0, 0, 0), (41, .getfield 20, 5, 1, 0), (44, .invokevirtual 47, 2, 0, 0), (47, .aload_n 0, 0, 0, 0), (48, .getfield 20, 5, 1, 0), (51, .iload_n 1, 0, 0, 0), (52, .iload_n 2, 0, 0, 0), (53, .invokevirtual 69, 17, 0, 0), (56, .istore 4, 0, 0, 0), (58, .aload_n 0, 0, 0, 0), (59, .getfield 20, 5, 1, 0), (62, .iload_n 1, 0, 0, 0), (63, .iload_n 2, 0, 0, 0), (64, .iload_n 3, 0, 0, 0), (65, .invokevirtual 73, 20, 0, 0), (68, .pop, 0, 0, 0), (69, .iload 4, 0, 0, 0), (71, .ireturn, 0, 0, 0)]
def bd_33 : List BE := [(0, .aload_n 0, 0, 0, 0), (1, .getfield 24, 5, 2, 0), (4, .aload_n 0, 0, 0, 0), (5, .getfield 20, 5, 1, 0), (8, .invokevirtual 47, 2, 0, 0), (11, .aload_n 0, 0, 0, 0), (12, .getfield 20, 5, 1, 0), (15, .invokevirtual 77, 23, 0, 0), (18, .ireturn, 0, 0, 0)]
def bd_34 : List BE := [(0, .aload_n 0, 0, 0, 0), (1, .getfield 20, 5, 1, 0), (4, .iload_n 1, 0, 0, 0), (5, .invokevirtual 66, 14, 0, 0), (8, .ifCond .eq 14, 22, 0, 0), (11, .aload_n 0, 0, 0, 0), (12, .getfield 20, 5, 1, 0), (15, .iload_n 2, 0, 0, 0), (16, .invokevirtual 66, 14, 0, 0), (19, .ifCond .ne 6, 25, 0, 0), (22, .ldc 46, 0, 0, (-1000001)), (24, .ireturn, 0, 0, 0), (25, .iload_n 3, 0, 0, 0), (26, .tableswitch 92 0 4 #[34, 44, 54, 64, 78], 0, 0, 0), (60, .aload_n 0, 0, 0, 0), (61, .getfield 20, 5, 1, 0), (64, .iload_n 1, 0, 0, 0), (65, .iload_n 2, 0, 0, 0), (66, .invokevirtual 80, 15, 0, 0), (69, .ireturn, 0, 0, 0), (70, .aload_n 0, 0, 0, 0), (71, .getfield 20, 5, 1, 0), (74, .iload_n 1, 0, 0, 0), (75, .iload_n 2, 0, 0, 0), (76, .invokevirtual 83, 16, 0, 0), (79, .ireturn, 0, 0, 0), (80, .aload_n 0, 0, 0, 0), (81, .getfield 20, 5, 1, 0), (84, .iload_n 1, 0, 0, 0), (85, .iload_n 2, 0, 0, 0), (86, .invokevirtual 69, 17, 0, 0), (89, .ireturn, 0, 0, 0), (90, .aload_n 0, 0, 0, 0), (91, .getfield 20, 5, 1, 0), (94, .iload_n 1, 0, 0, 0), (95, .iload_n 2, 0, 0, 0), (96, .iconst 1, 0, 0, 0), (97, .invokevirtual 86, 19, 0, 0), (100, .invokestatic 90, 40, 0, 0), (103, .ireturn, 0, 0, 0), (104, .aload_n 0, 0, 0, 0), (105, .getfield 20, 5, 1, 0), (108, .iload_n 1, 0, 0, 0), (109, .iload_n 2, 0, 0, 0), (110, .iconst 0, 0, 0, 0), (111, .invokevirtual 86, 19, 0, 0), (114, .invokestatic 90, 40, 0, 0), (117, .ireturn, 0, 0, 0), (118, .ldc 46, 0, 0, (-1000001)), (120, .ireturn, 0, 0, 0)]
def bd_35 : List BE := [(0, .iload_n 1, 0, 0, 0), (1, .ifCond .lt 18, 19, 0, 0), (4, .iload_n 1, 0, 0, 0), (5, .bipush 8, 0, 0, 8), (7, .if_icmp .ge 12, 19, 0, 0), (10, .iload_n 2, 0, 0, 0), (11, .ifCond .lt 8, 19, 0, 0), (14, .iload_n 2, 0, 0, 0), (15, .iconst 3, 0, 0, 0), (16, .if_icmp .le 6, 22, 0, 0), (19, .ldc 46, 0, 0, (-1000001)), (21, .ireturn, 0, 0, 0), (22, .aload_n 0, 0, 0, 0), (23, .getfield 20, 5, 1, 0), (26, .iload_n 1, 0, 0, 0), (27, .invokestatic 94, 4, 0, 0), (30, .istore_n 3, 0, 0, 0), (31, .iload_n 2, 0, 0, 0), (32, .ifCond .ne 14, 46, 0, 0), (35, .iload_n 3, 0, 0, 0), (36, .iconst (-1), 0, 0, 0), (37, .if_icmp .ne 7, 44, 0, 0), (40, .iconst 1, 0, 0, 0), (41, .goto 4, 45, 0, 0), (44, .iconst 0, 0, 0, 0), (45, .ireturn, 0, 0, 0), (46, .iload_n 3, 0, 0, 0), (47, .iconst (-1), 0, 0, 0), (48, .if_icmp .ne 8, 56, 0, 0), (51, .ldc 100, 0, 0, (-1000004)), (53, .goto 8, 61, 0, 0), (56, .iload_n 3, 0, 0, 0), (57, .iload_n 2, 0, 0, 0), (58, .invokestatic 101, 5, 0, 0), (61, .ireturn, 0, 0, 0)]
def bd_36 : List BE := [(0, .iload_n 1, 0, 0, 0), (1, .ifCond .lt 8, 9, 0, 0), (4, .iload_n 1, 0, 0, 0), (5, .iconst 2, 0, 0, 0), (6, .if_icmp .le 6, 12, 0, 0), (9, .ldc 46, 0, 0, (-1000001)), (11, .ireturn, 0, 0, 0), (12, .iconst 0, 0, 0, 0), (13, .istore_n 2, 0, 0, 0), (14, .iconst 0, 0, 0, 0), (15, .istore_n 3, 0, 0, 0), (16, .iload_n 3, 0, 0, 0), (17, .aload_n 0, 0, 0, 0), (18, .getfield 20, 5, 1, 0), (21, .getfield 51, 3, 0, 0), (24, .if_icmp .ge 27, 51, 0, 0), (27, .aload_n 0, 0, 0, 0), (28, .getfield 20, 5, 1, 0), (31, .iload_n 1, 0, 0, 0), (32, .iload_n 3, 0, 0, 0), (33, .invokestatic 104, 7, 0, 0), (36, .ifCond .eq 9, 45, 0, 0), (39, .iload_n 2, 0, 0, 0), (40, .iconst 1, 0, 0, 0), (41, .iload_n 3, 0, 0, 0), (42, .ishl, 0, 0, 0), (43, .ior, 0, 0, 0), (44, .istore_n 2, 0, 0, 0), (45, .iinc 3 1, 0, 0, 0), (48, .goto (-32), 16, 0, 0), (51, .iload_n 2, 0, 0, 0), (52, .ireturn, 0, 0, 0)]
def bd_37 : List BE := [(0, .iconst 0, 0, 0, 0), (1, .istore_n 1, 0, 0, 0), (2, .iconst 0, 0, 0, 0), (3, .istore_n 2, 0, 0, 0), (4, .iload_n 2, 0, 0, 0), (5, .bipush 8, 0, 0, 8), (7, .if_icmp .ge 24, 31, 0, 0), (10, .aload_n 0, 0, 0, 0), (11, .getfield 20, 5, 1, 0), (14, .iload_n 2, 0, 0, 0), (15, .invokestatic 94, 4, 0, 0), (18, .iconst (-1), 0, 0, 0), (19, .if_icmp .ne 6, 25, 0, 0), (22, .iinc 1 1, 0, 0, 0), (25, .iinc 2 1, 0, 0, 0), (28, .goto (-24), 4, 0, 0), (31, .iload_n 1, 0, 0, 0), (32, .i2f, 0, 0, 0), (33, .ldc 147, 0, 1, 1090519040), (35, .fdiv, 0, 0, 0), (36, .invokestatic 148, 41, 0, 0), (39, .ireturn, 0, 0, 0)]
def bd_38 : List BE := [(0, .iload_n 1, 0, 0, 0), (1, .tableswitch 87 0 5 #[39, 47, 55, 63, 71, 79], 0, 0, 0), (40, .aload_n 0, 0, 0, 0), (41, .getfield 20, 5, 1, 0), (44, .getfield 51, 3, 0, 0), (47, .ireturn, 0, 0, 0), (48, .aload_n 0, 0, 0, 0), (49, .getfield 12, 5, 0, 0), (52, .invokevirtual 152, 12, 0, 0), (55, .ireturn, 0, 0, 0), (56, .aload_n 0, 0, 0, 0), (57, .getfield 20, 5, 1, 0), (60, .invokevirtual 155, 24, 0, 0), (63, .ireturn, 0, 0, 0), (64, .aload_n 0, 0, 0, 0), (65, .getfield 20, 5, 1, 0), (68, .invokevirtual 158, 25, 0, 0), (71, .ireturn, 0, 0, 0), (72, .aload_n 0, 0, 0, 0), (73, .getfield 24, 5, 2, 0), (76, .getfield 161, 0, 2, 0), (79, .ireturn, 0, 0, 0), (80, .aload_n 0, 0, 0, 0), (81, .getfield 31, 5, 3, 0), (84, .getfield 164, 4, 1, 0), (87, .ireturn, 0, 0, 0), (88, .ldc 46, 0, 0, (-1000001)), (90, .ireturn, 0, 0, 0)]
def bd_39 : List BE := [(0, .iload_n 0, 0, 0, 0), (1, .iconst 2, 0, 0, 0), (2, .if_icmp .eq 30, 32, 0, 0), (5, .iload_n 0, 0, 0, 0), (6, .iconst 3, 0, 0, 0), (7, .if_icmp .eq 25, 32, 0, 0), (10, .iload_n 0, 0, 0, 0), (11, .iconst 4, 0, 0, 0), (12, .if_icmp .eq 20, 32, 0, 0), (15, .iload_n 0, 0, 0, 0), (16, .iconst 5, 0, 0, 0), (17, .if_icmp .eq 15, 32, 0, 0), (20, .iload_n 0, 0, 0, 0), (21, .bipush 7, 0, 0, 7), (23, .if_icmp .eq 9, 32, 0, 0), (26, .iload_n 0, 0, 0, 0), (27, .bipush 9, 0, 0, 9), (29, .if_icmp .ne 7, 36, 0, 0), (32, .iconst 1, 0, 0, 0), (33, .goto 4, 37, 0, 0), (36, .iconst 0, 0, 0, 0), (37, .ireturn, 0, 0, 0)]
def bd_40 : List BE := [(0, .iload_n 0, 0, 0, 0), (1, .iconst (-1), 0, 0, 0), (2, .if_icmp .ne 8, 10, 0, 0), (5, .ldc 100, 0, 0, (-1000004)), (7, .goto 4, 11, 0, 0), (10, .iload_n 0, 0, 0, 0), (11, .ireturn, 0, 0, 0)]
def bd_41 : List BE := [(0, .fload_n 0, 0, 0, 0), (1, .fconst 0, 0, 0, 0), (2, .fcmp .g, 0, 0, 0), (3, .ifCond .gt 5, 8, 0, 0), (6, .iconst 0, 0, 0, 0), (7, .ireturn, 0, 0, 0), (8, .fload_n 0, 0, 0, 0), (9, .fstore_n 1, 0, 0, 0), (10, .bipush 127, 0, 0, 127), (12, .istore_n 2, 0, 0, 0), (13, .iconst 0, 0, 0, 0), (14, .istore_n 3, 0, 0, 0), (15, .iload_n 3, 0, 0, 0), (16, .bipush 126, 0, 0, 126), (18, .if_icmp .ge 22, 40, 0, 0), (21, .fload_n 1, 0, 0, 0), (22, .fconst 1, 0, 0, 0), (23, .fcmp .g, 0, 0, 0), (24, .ifCond .ge 16, 40, 0, 0), (27, .fload_n 1, 0, 0, 0), (28, .fconst 2, 0, 0, 0), (29, .fmul, 0, 0, 0), (30, .fstore_n 1, 0, 0, 0), (31, .iinc 2 (-1), 0, 0, 0), (34, .iinc 3 1, 0, 0, 0), (37, .goto (-22), 15, 0, 0), (40, .iload_n 2, 0, 0, 0), (41, .bipush 23, 0, 0, 23), (43, .ishl, 0, 0, 0), (44, .fload_n 1, 0, 0, 0), (45, .fconst 1, 0, 0, 0), (46, .fsub, 0, 0, 0), (47, .ldc 186, 0, 1, 1258291200), (49, .fmul, 0, 0, 0), (50, .f2i, 0, 0, 0), (51, .iadd, 0, 0, 0), (52, .ireturn, 0, 0, 0)]
def bd_42 : List BE := [(0, .iload_n 0, 0, 0, 0), (1, .iload_n 0, 0, 0, 0), (2, .iconst 1, 0, 0, 0), (3, .iushr, 0, 0, 0), (4, .ldc_w 265, 0, 0, 1431655765), (7, .iand, 0, 0, 0), (8, .isub, 0, 0, 0), (9, .istore_n 0, 0, 0, 0), (10, .iload_n 0, 0, 0, 0), (11, .ldc_w 266, 0, 0, 858993459), (14, .iand, 0, 0, 0), (15, .iload_n 0, 0, 0, 0), (16, .iconst 2, 0, 0, 0), (17, .iushr, 0, 0, 0), (18, .ldc_w 266, 0, 0, 858993459), (21, .iand, 0, 0, 0), (22, .iadd, 0, 0, 0), (23, .istore_n 0, 0, 0, 0), (24, .iload_n 0, 0, 0, 0), (25, .iload_n 0, 0, 0, 0), (26, .iconst 4, 0, 0, 0), (27, .iushr, 0, 0, 0), (28, .iadd, 0, 0, 0), (29, .ldc_w 267, 0, 0, 252645135), (32, .iand, 0, 0, 0), (33, .istore_n 0, 0, 0, 0), (34, .iload_n 0, 0, 0, 0), (35, .iload_n 0, 0, 0, 0), (36, .bipush 8, 0, 0, 8), (38, .iushr, 0, 0, 0), (39, .iadd, 0, 0, 0), (40, .istore_n 0, 0, 0, 0), (41, .iload_n 0, 0, 0, 0), (42, .iload_n 0, 0, 0, 0), (43, .bipush 16, 0, 0, 16), (45, .iushr, 0, 0, 0), (46, .iadd, 0, 0, 0), (47, .istore_n 0, 0, 0, 0), (48, .iload_n 0, 0, 0, 0), (49, .bipush 63, 0, 0, 63), (51, .iand, 0, 0, 0), (52, .ireturn, 0, 0, 0)]
def bd_43 : List BE := [(0, .iload_n 1, 0, 0, 0), (1, .aload_n 0, 0, 0, 0), (2, .arraylength, 0, 0, 0), (3, .if_icmp .ge 9, 12, 0, 0), (6, .aload_n 0, 0, 0, 0), (7, .iload_n 1, 0, 0, 0), (8, .iaload, 0, 0, 0), (9, .goto 9, 18, 0, 0), (12, .ldc 7, 0, 0, 40503), (14, .iload_n 1, 0, 0, 0), (15, .iconst 3, 0, 0, 0), (16, .iadd, 0, 0, 0), (17, .imul, 0, 0, 0), (18, .ireturn, 0, 0, 0)]
def bd_44 : List BE := [(0, .iload_n 0, 0, 0, 0), (1, .ldc 8, 0, 0, 2147483647), (3, .iand, 0, 0, 0), (4, .iload_n 1, 0, 0, 0), (5, .irem, 0, 0, 0), (6, .ireturn, 0, 0, 0)]
def bd_45 : List BE := [(0, .aload_n 0, 0, 0, 0), (1, .iconst 0, 0, 0, 0), (2, .iaload, 0, 0, 0), (3, .istore_n 3, 0, 0, 0), (4, .iload_n 3, 0, 0, 0), (5, .bipush 9, 0, 0, 9), (7, .if_icmp .ne 25, 32, 0, 0), (10, .iload_n 1, 0, 0, 0), (11, .iconst 3, 0, 0, 0), (12, .idiv, 0, 0, 0), (13, .iload_n 2, 0, 0, 0), (14, .iconst 3, 0, 0, 0), (15, .idiv, 0, 0, 0), (16, .iadd, 0, 0, 0), (17, .iconst 3, 0, 0, 0), (18, .irem, 0, 0, 0), (19, .iconst 3, 0, 0, 0), (20, .imul, 0, 0, 0), (21, .iload_n 1, 0, 0, 0), (22, .iconst 3, 0, 0, 0), (23, .irem, 0, 0, 0), (24, .iload_n 2, 0, 0, 0), (25, .iconst 3, 0, 0, 0), (26, .irem, 0, 0, 0), (27, .iadd, 0, 0, 0), (28, .iconst 3, 0, 0, 0), (29, .irem, 0, 0, 0), (30, .iadd, 0, 0, 0), (31, .ireturn, 0, 0, 0), (32, .iload_n 3, 0, 0, 0), (33, .iconst 4, 0, 0, 0), (34, .if_icmp .ne 9, 43, 0, 0), (37, .iload_n 1, 0, 0, 0), (38, .iload_n 2, 0, 0, 0), (39, .ixor, 0, 0, 0), (40, .goto 8, 48, 0, 0), (43, .iload_n 1, 0, 0, 0), (44, .iload_n 2, 0, 0, 0), (45, .iadd, 0, 0, 0), (46, .iload_n 3, 0, 0, 0), (47, .irem, 0, 0, 0), (48, .ireturn, 0, 0, 0)]
def bd_46 : List BE := [(0, .aload_n 0, 0, 0, 0), (1, .iconst 0, 0, 0, 0), (2, .iaload, 0, 0, 0), (3, .istore_n 3, 0, 0, 0), (4, .iload_n 3, 0, 0, 0), (5, .bipush 9, 0, 0, 9), (7, .if_icmp .ne 29, 36, 0, 0), (10, .iload_n 1, 0, 0, 0), (11, .iconst 3, 0, 0, 0), (12, .idiv, 0, 0, 0), (13, .iconst 3, 0, 0, 0), (14, .iadd, 0, 0, 0), (15, .iload_n 2, 0, 0, 0), (16, .iconst 3, 0, 0, 0), (17, .idiv, 0, 0, 0), (18, .isub, 0, 0, 0), (19, .iconst 3, 0, 0, 0), (20, .irem, 0, 0, 0), (21, .iconst 3, 0, 0, 0), (22, .imul, 0, 0, 0), (23, .iload_n 1, 0, 0, 0), (24, .iconst 3, 0, 0, 0), (25, .irem, 0, 0, 0), (26, .iconst 3, 0, 0, 0), (27, .iadd, 0, 0, 0), (28, .iload_n 2, 0, 0, 0), (29, .iconst 3, 0, 0, 0), (30, .irem, 0, 0, 0), (31, .isub, 0, 0, 0), (32, .iconst 3, 0, 0, 0), (33, .irem, 0, 0, 0), (34, .iadd, 0, 0, 0), (35, .ireturn, 0, 0, 0), (36, .iload_n 3, 0, 0, 0), (37, .iconst 4, 0, 0, 0), (38, .if_icmp .ne 9, 47, 0, 0), (41, .iload_n 1, 0, 0, 0), (42, .iload_n 2, 0, 0, 0), (43, .ixor, 0, 0, 0), (44, .goto 10, 54, 0, 0), (47, .iload_n 1, 0, 0, 0), (48, .iload_n 3, 0, 0, 0), (49, .iadd, 0, 0, 0), (50, .iload_n 2, 0, 0, 0), (51, .isub, 0, 0, 0), (52, .iload_n 3, 0, 0, 0), (53, .irem, 0, 0, 0), (54, .ireturn, 0, 0, 0)]
def bd_47 : List BE := [(0, .aload_n 0, 0, 0, 0), (1, .iload_n 1, 0, 0, 0), (2, .laload, 0, 0, 0), (3, .iconst 4, 0, 0, 0), (4, .iload_n 2, 0, 0, 0), (5, .imul, 0, 0, 0), (6, .lshr, 0, 0, 0), (7, .ldc2_w 9, 0, 0, 15), (10, .land, 0, 0, 0), (11, .l2i, 0, 0, 0), (12, .ireturn, 0, 0, 0)]
def bd_48 : List BE := [(0, .aload_n 0, 0, 0, 0), (1, .iload_n 1, 0, 0, 0), (2, .aload_n 0, 0, 0, 0), (3, .iload_n 1, 0, 0, 0), (4, .laload, 0, 0, 0), (5, .ldc2_w 9, 0, 0, 15), (8, .iconst 4, 0, 0, 0), (9, .iload_n 2, 0, 0, 0), (10, .imul, 0, 0, 0), (11, .lshl, 0, 0, 0), (12, .ldc2_w 11, 0, 0, (-1)), (15, .lxor, 0, 0, 0), (16, .land, 0, 0, 0), (17, .iload_n 3, 0, 0, 0), (18, .i2l, 0, 0, 0), (19, .iconst 4, 0, 0, 0), (20, .iload_n 2, 0, 0, 0), (21, .imul, 0, 0, 0), (22, .lshl, 0, 0, 0), (23, .lor, 0, 0, 0), (24, .lastore, 0, 0, 0), (25, .return_, 0, 0, 0)]
def bd_49 : List BE := [(0, .aload_n 0, 0, 0, 0), (1, .iconst 0, 0, 0, 0), (2, .iaload, 0, 0, 0), (3, .iconst 4, 0, 0, 0), (4, .if_icmp .ne 27, 31, 0, 0), (7, .iload_n 1, 0, 0, 0), (8, .ifCond .eq 7, 15, 0, 0), (11, .iload_n 2, 0, 0, 0), (12, .ifCond .ne 7, 19, 0, 0), (15, .iconst 0, 0, 0, 0), (16, .goto 14, 30, 0, 0), (19, .iload_n 1, 0, 0, 0), (20, .iconst 1, 0, 0, 0), (21, .isub, 0, 0, 0), (22, .iload_n 2, 0, 0, 0), (23, .iadd, 0, 0, 0), (24, .iconst 1, 0, 0, 0), (25, .isub, 0, 0, 0), (26, .iconst 3, 0, 0, 0), (27, .irem, 0, 0, 0), (28, .iconst 1, 0, 0, 0), (29, .iadd, 0, 0, 0), (30, .ireturn, 0, 0, 0), (31, .aload_n 0, 0, 0, 0), (32, .iconst 0, 0, 0, 0), (33, .iaload, 0, 0, 0), (34, .bipush 9, 0, 0, 9), (36, .if_icmp .ne 42, 78, 0, 0), (39, .iload_n 1, 0, 0, 0), (40, .iconst 3, 0, 0, 0), (41, .idiv, 0, 0, 0), (42, .iload_n 2, 0, 0, 0), (43, .imul, 0, 0, 0), (44, .iload_n 2, 0, 0, 0), (45, .iconst 3, 0, 0, 0), (46, .idiv, 0, 0, 0), (47, .iload_n 1, 0, 0, 0), (48, .imul, 0, 0, 0), (49, .iadd, 0, 0, 0), (50, .iconst 3, 0, 0, 0), (51, .irem, 0, 0, 0), (52, .istore_n 3, 0, 0, 0), (53, .iload_n 1, 0, 0, 0), (54, .iload_n 2, 0, 0, 0), (55, .imul, 0, 0, 0), (56, .bipush 6, 0, 0, 6), (58, .iadd, 0, 0, 0), (59, .iload_n 1, 0, 0, 0), (60, .iconst 3, 0, 0, 0), (61, .idiv, 0, 0, 0), (62, .iload_n 2, 0, 0, 0), (63, .iconst 3, 0, 0, 0), (64, .idiv, 0, 0, 0), (65, .imul, 0, 0, 0), (66, .isub, 0, 0, 0), (67, .iconst 3, 0, 0, 0), (68, .irem, 0, 0, 0), (69, .istore 4, 0, 0, 0), (71, .iconst 3, 0, 0, 0), (72, .iload_n 3, 0, 0, 0), (73, .imul, 0, 0, 0), (74, .iload 4, 0, 0, 0), (76, .iadd, 0, 0, 0), (77, .ireturn, 0, 0, 0), (78, .iload_n 1, 0, 0, 0), (79, .iload_n 2, 0, 0, 0), (80, .imul, 0, 0, 0), (81, .aload_n 0, 0, 0, 0), (82, .iconst 0, 0, 0, 0), (83, .iaload, 0, 0, 0), (84, .irem, 0, 0, 0), (85, .ireturn, 0, 0, 0)]
def bd_50 : List BE := [(0, .iconst 0, 0, 0, 0), (1, .istore_n 2, 0, 0, 0), (2, .iconst 0, 0, 0, 0), (3, .istore_n 3, 0, 0, 0), (4, .iload_n 3, 0, 0, 0), (5, .aload_n 0, 0, 0, 0), (6, .iconst 0, 0, 0, 0), (7, .iaload, 0, 0, 0), (8, .if_icmp .ge 51, 59, 0, 0), (11, .iconst 0, 0, 0, 0), (12, .istore 4, 0, 0, 0), (14, .iload 4, 0, 0, 0), (16, .aload_n 0, 0, 0, 0), (17, .iconst 0, 0, 0, 0), (18, .iaload, 0, 0, 0), (19, .if_icmp .ge 34, 53, 0, 0), (22, .iload_n 2, 0, 0, 0), (23, .aload_n 1, 0, 0, 0), (24, .iload_n 3, 0, 0, 0), (25, .iload 4, 0, 0, 0), (27, .invokestatic 13, 47, 0, 0), (30, .aload_n 0, 0, 0, 0), (31, .iload_n 3, 0, 0, 0), (32, .iload 4, 0, 0, 0), (34, .invokestatic 19, 49, 0, 0), (37, .if_icmp .ne 7, 44, 0, 0), (40, .iconst 0, 0, 0, 0), (41, .goto 4, 45, 0, 0), (44, .iconst 1, 0, 0, 0), (45, .iadd, 0, 0, 0), (46, .istore_n 2, 0, 0, 0), (47, .iinc 4 1, 0, 0, 0), (50, .goto (-36), 14, 0, 0), (53, .iinc 3 1, 0, 0, 0), (56, .goto (-52), 4, 0, 0), (59, .iload_n 2, 0, 0, 0), (60, .ireturn, 0, 0, 0)]
def bd_51 : List BE := [(0, .aload_n 0, 0, 0, 0), (1, .iconst 0, 0, 0, 0), (2, .iload_n 2, 0, 0, 0), (3, .iastore, 0, 0, 0), (4, .iconst 0, 0, 0, 0), (5, .istore_n 3, 0, 0, 0), (6, .iload_n 3, 0, 0, 0), (7, .iload_n 2, 0, 0, 0), (8, .if_icmp .ge 42, 50, 0, 0), (11, .aload_n 1, 0, 0, 0), (12, .iload_n 3, 0, 0, 0), (13, .lconst 0, 0, 0, 0), (14, .lastore, 0, 0, 0), (15, .iconst 0, 0, 0, 0), (16, .istore 4, 0, 0, 0), (18, .iload 4, 0, 0, 0), (20, .iload_n 2, 0, 0, 0), (21, .if_icmp .ge 23, 44, 0, 0), (24, .aload_n 1, 0, 0, 0), (25, .iload_n 3, 0, 0, 0), (26, .iload 4, 0, 0, 0), (28, .aload_n 0, 0, 0, 0), (29, .iload_n 3, 0, 0, 0), (30, .iload 4, 0, 0, 0), (32, .invokestatic 19, 49, 0, 0), (35, .invokestatic 23, 48, 0, 0), (38, .iinc 4 1, 0, 0, 0), (41, .goto (-23), 18, 0, 0), (44, .iinc 3 1, 0, 0, 0), (47, .goto (-41), 6, 0, 0), (50, .return_, 0, 0, 0)]
def bd_52 : List BE := [(0, .iload_n 0, 0, 0, 0), (1, .bipush 6, 0, 0, 6), (3, .irem, 0, 0, 0), (4, .ifCond .ne 7, 11, 0, 0), (7, .iconst 2, 0, 0, 0), (8, .goto 54, 62, 0, 0), (11, .iload_n 0, 0, 0, 0), (12, .bipush 6, 0, 0, 6), (14, .irem, 0, 0, 0), (15, .iconst 1, 0, 0, 0), (16, .if_icmp .ne 7, 23, 0, 0), (19, .iconst 3, 0, 0, 0), (20, .goto 42, 62, 0, 0), (23, .iload_n 0, 0, 0, 0), (24, .bipush 6, 0, 0, 6), (26, .irem, 0, 0, 0), (27, .iconst 2, 0, 0, 0), (28, .if_icmp .ne 7, 35, 0, 0), (31, .iconst 4, 0, 0, 0), (32, .goto 30, 62, 0, 0), (35, .iload_n 0, 0, 0, 0), (36, .bipush 6, 0, 0, 6), (38, .irem, 0, 0, 0), (39, .iconst 3, 0, 0, 0), (40, .if_icmp .ne 7, 47, 0, 0), (43, .iconst 5, 0, 0, 0), (44, .goto 18, 62, 0, 0), (47, .iload_n 0, 0, 0, 0), (48, .bipush 6, 0, 0, 6), (50, .irem, 0, 0, 0), (51, .iconst 4, 0, 0, 0), (52, .if_icmp .ne 8, 60, 0, 0), (55, .bipush 7, 0, 0, 7), (57, .goto 5, 62, 0, 0), (60, .bipush 9, 0, 0, 9), (62, .ireturn, 0, 0, 0)]
def bd_53 : List BE := [(0, .iload_n 3, 0, 0, 0), (1, .iconst 4, 0, 0, 0), (2, .ishr, 0, 0, 0), (3, .ldc 27, 0, 0, 10000000), (5, .invokestatic 28, 44, 0, 0), (8, .istore 4, 0, 0, 0), (10, .iload_n 3, 0, 0, 0), (11, .bipush 16, 0, 0, 16), (13, .invokestatic 28, 44, 0, 0), (16, .istore 5, 0, 0, 0), (18, .aload_n 1, 0, 0, 0), (19, .iconst 0, 0, 0, 0), (20, .iaload, 0, 0, 0), (21, .istore 6, 0, 0, 0), (23, .iload 5, 0, 0, 0), (25, .bipush 6, 0, 0, 6), (27, .if_icmp .ge 31, 58, 0, 0), (30, .aload_n 1, 0, 0, 0), (31, .aload_n 2, 0, 0, 0), (32, .iload 4, 0, 0, 0), (34, .invokestatic 32, 52, 0, 0), (37, .invokestatic 36, 51, 0, 0), (40, .aload_n 0, 0, 0, 0), (41, .aload_n 1, 0, 0, 0), (42, .iconst 0, 0, 0, 0), (43, .iaload, 0, 0, 0), (44, .invokevirtual 40, 30, 0, 0), (47, .iload 6, 0, 0, 0), (49, .if_icmp .ne 7, 56, 0, 0), (52, .iconst 1, 0, 0, 0), (53, .goto 4, 57, 0, 0), (56, .iconst 0, 0, 0, 0), (57, .ireturn, 0, 0, 0), (58, .iload 5, 0, 0, 0), (60, .bipush 9, 0, 0, 9), (62, .if_icmp .ge 184, 246, 0, 0), (65, .iload 6, 0, 0, 0), (67, .bipush 9, 0, 0, 9), (69, .if_icmp .eq 18, 87, 0, 0), (72, .aload_n 0, 0, 0, 0), (73, .invokevirtual 45, 31, 0, 0), (76, .ldc 49, 0, 0, (-1000002)), (78, .if_icmp .ne 7, 85, 0, 0), (81, .iconst 1, 0, 0, 0), (82, .goto 4, 86, 0, 0), (85, .iconst 0, 0, 0, 0), (86, .ireturn, 0, 0, 0), (87, .iconst 0, 0, 0, 0), (88, .istore 7, 0, 0, 0), (90, .iconst 0, 0, 0, 0), (91, .istore 8, 0, 0, 0), (93, .iconst 0, 0, 0, 0), (94, .istore 9, 0, 0, 0), (96, .iload 9, 0, 0, 0), (98, .bipush 9, 0, 0, 9), (100, .if_icmp .ge 24, 124, 0, 0), (103, .iload 8, 0, 0, 0), (105, .iconst 1, 0, 0, 0), (106, .aload_n 1, 0, 0, 0), (107, .iload 9, 0, 0, 0), (109, .iload 9, 0, 0, 0), (111, .invokestatic 19, 49, 0, 0), (114, .ishl, 0, 0, 0), (115, .ior, 0, 0, 0), (116, .istore 8, 0, 0, 0), (118, .iinc 9 1, 0, 0, 0), (121, .goto (-25), 96, 0, 0), (124, .iconst 0, 0, 0, 0), (125, .istore 9, 0, 0, 0), (127, .iload 9, 0, 0, 0), (129, .bipush 9, 0, 0, 9), (131, .if_icmp .ge 100, 231, 0, 0), (134, .aload_n 1, 0, 0, 0), (135, .iload 9, 0, 0, 0), (137, .aload_n 1, 0, 0, 0), (138, .iload 9, 0, 0, 0), (140, .iload 9, 0, 0, 0), (142, .invokestatic 19, 49, 0, 0), (145, .invokestatic 19, 49, 0, 0), (148, .istore 10, 0, 0, 0), (150, .iconst 0, 0, 0, 0), (151, .istore 11, 0, 0, 0), (153, .iload 11, 0, 0, 0), (155, .bipush 9, 0, 0, 9), (157, .if_icmp .ge 68, 225, 0, 0), (160, .aload_n 1, 0, 0, 0), (161, .iload 8, 0, 0, 0), (163, .iload 11, 0, 0, 0), (165, .ishr, 0, 0, 0), (166, .iconst 1, 0, 0, 0), (167, .iand, 0, 0, 0), (168, .iconst 1, 0, 0, 0), (169, .if_icmp .ne 8, 177, 0, 0), (172, .iload 9, 0, 0, 0), (174, .goto 5, 179, 0, 0), (177, .iload 10, 0, 0, 0), (179, .iload 11, 0, 0, 0), (181, .invokestatic 19, 49, 0, 0), (184, .istore 12, 0, 0, 0), (186, .iload 7, 0, 0, 0), (188, .iload 12, 0, 0, 0), (190, .aload_n 2, 0, 0, 0), (191, .iload 9, 0, 0, 0), (193, .iload 11, 0, 0, 0), (195, .invokestatic 13, 47, 0, 0), (198, .if_icmp .eq 7, 205, 0, 0), (201, .iconst 1, 0, 0, 0), (202, .goto 4, 206, 0, 0), (205, .iconst 0, 0, 0, 0), (206, .iadd, 0, 0, 0), (207, .istore 7, 0, 0, 0), (209, .aload_n 2, 0, 0, 0), (210, .iload 9, 0, 0, 0), (212, .iload 11, 0, 0, 0), (214, .iload 12, 0, 0, 0), (216, .invokestatic 23, 48, 0, 0), (219, .iinc 11 1, 0, 0, 0), (222, .goto (-69), 153, 0, 0), (225, .iinc 9 1, 0, 0, 0), (228, .goto (-101), 127, 0, 0), (231, .aload_n 0, 0, 0, 0), (232, .invokevirtual 45, 31, 0, 0), (235, .iload 7, 0, 0, 0), (237, .if_icmp .ne 7, 244, 0, 0), (240, .iconst 1, 0, 0, 0), (241, .goto 4, 245, 0, 0), (244, .iconst 0, 0, 0, 0), (245, .ireturn, 0, 0, 0), (246, .iload 5, 0, 0, 0), (248, .bipush 12, 0, 0, 12), (250, .if_icmp .ge 130, 380, 0, 0), (253, .iconst 0, 0, 0, 0), (254, .istore 7, 0, 0, 0), (256, .bipush 9, 0, 0, 9), (258, .newarray .long, 2, 0, 0), (260, .astore 8, 0, 0, 0), (262, .iconst 0, 0, 0, 0), (263, .istore 9, 0, 0, 0), (265, .iload 9, 0, 0, 0), (267, .iload 6, 0, 0, 0), (269, .if_icmp .ge 71, 340, 0, 0), (272, .iconst 0, 0, 0, 0), (273, .istore 10, 0, 0, 0), (275, .iload 10, 0, 0, 0), (277, .iload 6, 0, 0, 0), (279, .if_icmp .ge 55, 334, 0, 0), (282, .aload 8, 0, 0, 0), (284, .iload 9, 0, 0, 0), (286, .iload 10, 0, 0, 0), (288, .aload_n 2, 0, 0, 0), (289, .iload 10, 0, 0, 0), (291, .iload 9, 0, 0, 0), (293, .invokestatic 13, 47, 0, 0), (296, .invokestatic 23, 48, 0, 0), (299, .iload 7, 0, 0, 0), (301, .aload_n 2, 0, 0, 0), (302, .iload 9, 0, 0, 0), (304, .iload 10, 0, 0, 0), (306, .invokestatic 13, 47, 0, 0), (309, .aload_n 2, 0, 0, 0), (310, .iload 10, 0, 0, 0), (312, .iload 9, 0, 0, 0), (314, .invokestatic 13, 47, 0, 0), (317, .if_icmp .eq 7, 324, 0, 0), (320, .iconst 1, 0, 0, 0), (321, .goto 4, 325, 0, 0), (324, .iconst 0, 0, 0, 0), (325, .iadd, 0, 0, 0), (326, .istore 7, 0, 0, 0), (328, .iinc 10 1, 0, 0, 0), (331, .goto (-56), 275, 0, 0), (334, .iinc 9 1, 0, 0, 0), (337, .goto (-72), 265, 0, 0), (340, .iconst 0, 0, 0, 0), (341, .istore 9, 0, 0, 0), (343, .iload 9, 0, 0, 0), (345, .iload 6, 0, 0, 0), (347, .if_icmp .ge 18, 365, 0, 0), (350, .aload_n 2, 0, 0, 0), (351, .iload 9, 0, 0, 0), (353, .aload 8, 0, 0, 0), (355, .iload 9, 0, 0, 0), (357, .laload, 0, 0, 0), (358, .lastore, 0, 0, 0), (359, .iinc 9 1, 0, 0, 0), (362, .goto (-19), 343, 0, 0), (365, .aload_n 0, 0, 0, 0), (366, .invokevirtual 50, 33, 0, 0), (369, .iload 7, 0, 0, 0), (371, .if_icmp .ne 7, 378, 0, 0), (374, .iconst 1, 0, 0, 0), (375, .goto 4, 379, 0, 0), (378, .iconst 0, 0, 0, 0), (379, .ireturn, 0, 0, 0), (380, .iload 4, 0, 0, 0), (382, .iload 6, 0, 0, 0), (384, .irem, 0, 0, 0), (385, .istore 7, 0, 0, 0), (387, .iload 4, 0, 0, 0), (389, .bipush 9, 0, 0, 9), (391, .idiv, 0, 0, 0), (392, .iload 6, 0, 0, 0), (394, .irem, 0, 0, 0), (395, .istore 8, 0, 0, 0), (397, .aload_n 2, 0, 0, 0), (398, .iload 7, 0, 0, 0), (400, .iload 8, 0, 0, 0), (402, .invokestatic 13, 47, 0, 0), (405, .istore 9, 0, 0, 0), (407, .aload_n 2, 0, 0, 0), (408, .iload 7, 0, 0, 0), (410, .iload 8, 0, 0, 0), (412, .iload 4, 0, 0, 0), (414, .bipush 81, 0, 0, 81), (416, .idiv, 0, 0, 0), (417, .iload 6, 0, 0, 0), (419, .irem, 0, 0, 0), (420, .invokestatic 23, 48, 0, 0), (423, .aload_n 0, 0, 0, 0), (424, .iload 7, 0, 0, 0), (426, .iload 8, 0, 0, 0), (428, .iload 4, 0, 0, 0), (430, .bipush 81, 0, 0, 81), (432, .idiv, 0, 0, 0), (433, .iload 6, 0, 0, 0), (435, .irem, 0, 0, 0), (436, .invokevirtual 53, 32, 0, 0), (439, .iload 9, 0, 0, 0), (441, .if_icmp .ne 7, 448, 0, 0), (444, .iconst 1, 0, 0, 0), (445, .goto 4, 449, 0, 0), (448, .iconst 0, 0, 0, 0), (449, .ireturn, 0, 0, 0)]
def bd_54 : List BE := [(0, .iload_n 0, 0, 0, 0), (1, .ifCond .ne 7, 8, 0, 0), (4, .iconst 0, 0, 0, 0), (5, .goto 36, 41, 0, 0), (8, .iload_n 0, 0, 0, 0), (9, .iconst 2, 0, 0, 0), (10, .if_icmp .ge 8, 18, 0, 0), (13, .bipush 124, 0, 0, 124), (15, .goto 26, 41, 0, 0), (18, .iload_n 0, 0, 0, 0), (19, .iconst 4, 0, 0, 0), (20, .if_icmp .ge 8, 28, 0, 0), (23, .bipush 125, 0, 0, 125), (25, .goto 16, 41, 0, 0), (28, .iload_n 0, 0, 0, 0), (29, .bipush 8, 0, 0, 8), (31, .if_icmp .ge 8, 39, 0, 0), (34, .bipush 126, 0, 0, 126), (36, .goto 5, 41, 0, 0), (39, .bipush 127, 0, 0, 127), (41, .istore_n 1, 0, 0, 0), (42, .iload_n 0, 0, 0, 0), (43, .iconst 2, 0, 0, 0), (44, .if_icmp .ge 7, 51, 0, 0), (47, .iconst 1, 0, 0, 0), (48, .goto 24, 72, 0, 0), (51, .iload_n 0, 0, 0, 0), (52, .iconst 4, 0, 0, 0), (53, .if_icmp .ge 7, 60, 0, 0), (56, .iconst 2, 0, 0, 0), (57, .goto 15, 72, 0, 0), (60, .iload_n 0, 0, 0, 0), (61, .bipush 8, 0, 0, 8), (63, .if_icmp .ge 7, 70, 0, 0), (66, .iconst 4, 0, 0, 0), (67, .goto 5, 72, 0, 0), (70, .bipush 8, 0, 0, 8), (72, .istore_n 2, 0, 0, 0), (73, .iload_n 0, 0, 0, 0), (74, .ifCond .ne 7, 81, 0, 0), (77, .iconst 0, 0, 0, 0), (78, .goto 16, 94, 0, 0), (81, .iload_n 1, 0, 0, 0), (82, .bipush 23, 0, 0, 23), (84, .ishl, 0, 0, 0), (85, .iload_n 0, 0, 0, 0), (86, .iload_n 2, 0, 0, 0), (87, .isub, 0, 0, 0), (88, .ldc 57, 0, 0, 8388608), (90, .iload_n 2, 0, 0, 0), (91, .idiv, 0, 0, 0), (92, .imul, 0, 0, 0), (93, .iadd, 0, 0, 0), (94, .ireturn, 0, 0, 0)]
def bd_55 : List BE := [(0, .iconst 0, 0, 0, 0), (1, .istore 5, 0, 0, 0), (3, .iconst 0, 0, 0, 0), (4, .istore 6, 0, 0, 0), (6, .iconst 0, 0, 0, 0), (7, .istore 7, 0, 0, 0), (9, .iload 7, 0, 0, 0), (11, .aload_n 0, 0, 0, 0), (12, .iconst 0, 0, 0, 0), (13, .iaload, 0, 0, 0), (14, .if_icmp .ge 60, 74, 0, 0), (17, .iload 5, 0, 0, 0), (19, .iconst 1, 0, 0, 0), (20, .iload 4, 0, 0, 0), (22, .ifCond .eq 24, 46, 0, 0), (25, .aload_n 0, 0, 0, 0), (26, .aload_n 1, 0, 0, 0), (27, .iload_n 2, 0, 0, 0), (28, .iload 7, 0, 0, 0), (30, .invokestatic 13, 47, 0, 0), (33, .aload_n 1, 0, 0, 0), (34, .iload_n 3, 0, 0, 0), (35, .iload 7, 0, 0, 0), (37, .invokestatic 13, 47, 0, 0), (40, .invokestatic 58, 46, 0, 0), (43, .goto 21, 64, 0, 0), (46, .aload_n 0, 0, 0, 0), (47, .aload_n 1, 0, 0, 0), (48, .iload 7, 0, 0, 0), (50, .iload_n 2, 0, 0, 0), (51, .invokestatic 13, 47, 0, 0), (54, .aload_n 1, 0, 0, 0), (55, .iload 7, 0, 0, 0), (57, .iload_n 3, 0, 0, 0), (58, .invokestatic 13, 47, 0, 0), (61, .invokestatic 58, 46, 0, 0), (64, .ishl, 0, 0, 0), (65, .ior, 0, 0, 0), (66, .istore 5, 0, 0, 0), (68, .iinc 7 1, 0, 0, 0), (71, .goto (-62), 9, 0, 0), (74, .iconst 0, 0, 0, 0), (75, .istore 7, 0, 0, 0), (77, .iload 7, 0, 0, 0), (79, .bipush 9, 0, 0, 9), (81, .if_icmp .ge 21, 102, 0, 0), (84, .iload 6, 0, 0, 0), (86, .iload 5, 0, 0, 0), (88, .iload 7, 0, 0, 0), (90, .ishr, 0, 0, 0), (91, .iconst 1, 0, 0, 0), (92, .iand, 0, 0, 0), (93, .iadd, 0, 0, 0), (94, .istore 6, 0, 0, 0), (96, .iinc 7 1, 0, 0, 0), (99, .goto (-22), 77, 0, 0), (102, .iload 6, 0, 0, 0), (104, .aload_n 0, 0, 0, 0), (105, .iconst 0, 0, 0, 0), (106, .iaload, 0, 0, 0), (107, .if_icmp .ne 7, 114, 0, 0), (110, .iconst 1, 0, 0, 0), (111, .goto 4, 115, 0, 0), (114, .iconst 0, 0, 0, 0), (115, .ireturn, 0, 0, 0)]
def bd_56 : List BE := [(0, .iload_n 2, 0, 0, 0), (1, .ifCond .ne 25, 26, 0, 0), (4, .aload_n 1, 0, 0, 0), (5, .iconst 0, 0, 0, 0), (6, .iload_n 3, 0, 0, 0), (7, .invokestatic 13, 47, 0, 0), (10, .aload_n 1, 0, 0, 0), (11, .iload_n 3, 0, 0, 0), (12, .iconst 0, 0, 0, 0), (13, .invokestatic 13, 47, 0, 0), (16, .iadd, 0, 0, 0), (17, .ifCond .ne 7, 24, 0, 0), (20, .iconst 1, 0, 0, 0), (21, .goto 4, 25, 0, 0), (24, .iconst 0, 0, 0, 0), (25, .ireturn, 0, 0, 0), (26, .iload_n 2, 0, 0, 0), (27, .iconst 1, 0, 0, 0), (28, .if_icmp .ne 29, 57, 0, 0), (31, .aload_n 1, 0, 0, 0), (32, .iconst 1, 0, 0, 0), (33, .iload_n 3, 0, 0, 0), (34, .invokestatic 13, 47, 0, 0), (37, .iload_n 3, 0, 0, 0), (38, .if_icmp .ne 17, 55, 0, 0), (41, .aload_n 1, 0, 0, 0), (42, .iload_n 3, 0, 0, 0), (43, .iconst 1, 0, 0, 0), (44, .invokestatic 13, 47, 0, 0), (47, .iload_n 3, 0, 0, 0), (48, .if_icmp .ne 7, 55, 0, 0), (51, .iconst 1, 0, 0, 0), (52, .goto 4, 56, 0, 0), (55, .iconst 0, 0, 0, 0), (56, .ireturn, 0, 0, 0), (57, .iload_n 2, 0, 0, 0), (58, .iconst 2, 0, 0, 0), (59, .if_icmp .ne 43, 102, 0, 0), (62, .aload_n 0, 0, 0, 0), (63, .aload_n 1, 0, 0, 0), (64, .iload_n 3, 0, 0, 0), (65, .aload_n 0, 0, 0, 0), (66, .iload 4, 0, 0, 0), (68, .iload 5, 0, 0, 0), (70, .invokestatic 61, 45, 0, 0), (73, .invokestatic 13, 47, 0, 0), (76, .aload_n 1, 0, 0, 0), (77, .iload_n 3, 0, 0, 0), (78, .iload 4, 0, 0, 0), (80, .invokestatic 13, 47, 0, 0), (83, .invokestatic 58, 46, 0, 0), (86, .aload_n 1, 0, 0, 0), (87, .iload_n 3, 0, 0, 0), (88, .iload 5, 0, 0, 0), (90, .invokestatic 13, 47, 0, 0), (93, .if_icmp .ne 7, 100, 0, 0), (96, .iconst 1, 0, 0, 0), (97, .goto 4, 101, 0, 0), (100, .iconst 0, 0, 0, 0), (101, .ireturn, 0, 0, 0), (102, .iload_n 2, 0, 0, 0), (103, .iconst 3, 0, 0, 0), (104, .if_icmp .ne 44, 148, 0, 0), (107, .aload_n 0, 0, 0, 0), (108, .aload_n 1, 0, 0, 0), (109, .aload_n 0, 0, 0, 0), (110, .iload_n 3, 0, 0, 0), (111, .iload 4, 0, 0, 0), (113, .invokestatic 61, 45, 0, 0), (116, .iload 5, 0, 0, 0), (118, .invokestatic 13, 47, 0, 0), (121, .aload_n 1, 0, 0, 0), (122, .iload_n 3, 0, 0, 0), (123, .iload 5, 0, 0, 0), (125, .invokestatic 13, 47, 0, 0), (128, .invokestatic 58, 46, 0, 0), (131, .aload_n 1, 0, 0, 0), (132, .iload 4, 0, 0, 0), (134, .iload 5, 0, 0, 0), (136, .invokestatic 13, 47, 0, 0), (139, .if_icmp .ne 7, 146, 0, 0), (142, .iconst 1, 0, 0, 0), (143, .goto 4, 147, 0, 0), (146, .iconst 0, 0, 0, 0), (147, .ireturn, 0, 0, 0), (148, .iload_n 2, 0, 0, 0), (149, .iconst 4, 0, 0, 0), (150, .if_icmp .ne 38, 188, 0, 0), (153, .aload_n 1, 0, 0, 0), (154, .iload_n 3, 0, 0, 0), (155, .aload_n 1, 0, 0, 0), (156, .iload 4, 0, 0, 0), (158, .iload 5, 0, 0, 0), (160, .invokestatic 13, 47, 0, 0), (163, .invokestatic 13, 47, 0, 0), (166, .aload_n 1, 0, 0, 0), (167, .aload_n 1, 0, 0, 0), (168, .iload_n 3, 0, 0, 0), (169, .iload 4, 0, 0, 0), (171, .invokestatic 13, 47, 0, 0), (174, .iload 5, 0, 0, 0), (176, .invokestatic 13, 47, 0, 0), (179, .if_icmp .ne 7, 186, 0, 0), (182, .iconst 1, 0, 0, 0), (183, .goto 4, 187, 0, 0), (186, .iconst 0, 0, 0, 0), (187, .ireturn, 0, 0, 0), (188, .iload_n 2, 0, 0, 0), (189, .iconst 5, 0, 0, 0), (190, .if_icmp .ne 28, 218, 0, 0), (193, .aload_n 1, 0, 0, 0), (194, .iload_n 3, 0, 0, 0), (195, .iload 4, 0, 0, 0), (197, .invokestatic 13, 47, 0, 0), (200, .aload_n 1, 0, 0, 0), (201, .iload 4, 0, 0, 0), (203, .iload_n 3, 0, 0, 0), (204, .invokestatic 13, 47, 0, 0), (207, .if_icmp .ne 7, 214, 0, 0), (210, .iconst 1, 0, 0, 0), (211, .goto 40, 251, 0, 0), (214, .iconst 0, 0, 0, 0), (215, .goto 36, 251, 0, 0), (218, .iload_n 3, 0, 0, 0), (219, .iload 4, 0, 0, 0), (221, .if_icmp .eq 25, 246, 0, 0), (224, .aload_n 0, 0, 0, 0), (225, .aload_n 1, 0, 0, 0), (226, .iload_n 3, 0, 0, 0), (227, .iload 4, 0, 0, 0), (229, .iload_n 2, 0, 0, 0), (230, .bipush 6, 0, 0, 6), (232, .if_icmp .ne 7, 239, 0, 0), (235, .iconst 1, 0, 0, 0), (236, .goto 4, 240, 0, 0), (239, .iconst 0, 0, 0, 0), (240, .invokestatic 64, 55, 0, 0), (243, .ifCond .eq 7, 250, 0, 0), (246, .iconst 1, 0, 0, 0), (247, .goto 4, 251, 0, 0), (250, .iconst 0, 0, 0, 0), (251, .ireturn, 0, 0, 0)]
def bd_57 : List BE := [(0, .aload_n 0, 0, 0, 0), (1, .iconst 0, 0, 0, 0), (2, .iaload, 0, 0, 0), (3, .istore_n 3, 0, 0, 0), (4, .iconst 0, 0, 0, 0), (5, .istore 4, 0, 0, 0), (7, .iload 4, 0, 0, 0), (9, .iload_n 3, 0, 0, 0), (10, .iload_n 3, 0, 0, 0), (11, .imul, 0, 0, 0), (12, .iload_n 3, 0, 0, 0), (13, .imul, 0, 0, 0), (14, .if_icmp .ge 98, 112, 0, 0), (17, .iload 4, 0, 0, 0), (19, .iload_n 3, 0, 0, 0), (20, .idiv, 0, 0, 0), (21, .iload_n 3, 0, 0, 0), (22, .idiv, 0, 0, 0), (23, .istore 5, 0, 0, 0), (25, .iload 4, 0, 0, 0), (27, .iload_n 3, 0, 0, 0), (28, .idiv, 0, 0, 0), (29, .iload_n 3, 0, 0, 0), (30, .irem, 0, 0, 0), (31, .istore 6, 0, 0, 0), (33, .iload 4, 0, 0, 0), (35, .iload_n 3, 0, 0, 0), (36, .irem, 0, 0, 0), (37, .istore 7, 0, 0, 0), (39, .iload_n 2, 0, 0, 0), (40, .iconst 1, 0, 0, 0), (41, .if_icmp .gt 8, 49, 0, 0), (44, .iload 6, 0, 0, 0), (46, .ifCond .ne 22, 68, 0, 0), (49, .iload_n 2, 0, 0, 0), (50, .iconst 1, 0, 0, 0), (51, .if_icmp .le 8, 59, 0, 0), (54, .iload_n 2, 0, 0, 0), (55, .iconst 5, 0, 0, 0), (56, .if_icmp .lt 8, 64, 0, 0), (59, .iload 7, 0, 0, 0), (61, .ifCond .ne 7, 68, 0, 0), (64, .iconst 1, 0, 0, 0), (65, .goto 4, 69, 0, 0), (68, .iconst 0, 0, 0, 0), (69, .istore 8, 0, 0, 0), (71, .iload 8, 0, 0, 0), (73, .ifCond .eq 33, 106, 0, 0), (76, .aload_n 0, 0, 0, 0), (77, .aload_n 1, 0, 0, 0), (78, .iload_n 2, 0, 0, 0), (79, .iload 5, 0, 0, 0), (81, .iload 6, 0, 0, 0), (83, .iload 7, 0, 0, 0), (85, .invokestatic 68, 56, 0, 0), (88, .ifCond .ne 18, 106, 0, 0), (91, .bipush 100, 0, 0, 100), (93, .iload 5, 0, 0, 0), (95, .imul, 0, 0, 0), (96, .bipush 10, 0, 0, 10), (98, .iload 6, 0, 0, 0), (100, .imul, 0, 0, 0), (101, .iadd, 0, 0, 0), (102, .iload 7, 0, 0, 0), (104, .iadd, 0, 0, 0), (105, .ireturn, 0, 0, 0), (106, .iinc 4 1, 0, 0, 0), (109, .goto (-102), 7, 0, 0), (112, .iconst (-1), 0, 0, 0), (113, .ireturn, 0, 0, 0)]
def bd_58 : List BE := [(0, .iconst 0, 0, 0, 0), (1, .istore_n 3, 0, 0, 0), (2, .iconst 1, 0, 0, 0), (3, .istore 4, 0, 0, 0), (5, .iconst 0, 0, 0, 0), (6, .istore 5, 0, 0, 0), (8, .iload 5, 0, 0, 0), (10, .bipush 8, 0, 0, 8), (12, .if_icmp .ge 141, 153, 0, 0), (15, .iload 4, 0, 0, 0), (17, .ifCond .eq 136, 153, 0, 0), (20, .aload_n 1, 0, 0, 0), (21, .aload_n 2, 0, 0, 0), (22, .iload 5, 0, 0, 0), (24, .invokestatic 72, 57, 0, 0), (27, .istore 6, 0, 0, 0), (29, .iload_n 3, 0, 0, 0), (30, .iload 6, 0, 0, 0), (32, .ifCond .ge 7, 39, 0, 0), (35, .iconst 1, 0, 0, 0), (36, .goto 4, 40, 0, 0), (39, .iconst 0, 0, 0, 0), (40, .iadd, 0, 0, 0), (41, .istore_n 3, 0, 0, 0), (42, .aload_n 0, 0, 0, 0), (43, .iload 5, 0, 0, 0), (45, .iconst 0, 0, 0, 0), (46, .invokevirtual 76, 35, 0, 0), (49, .iload 6, 0, 0, 0), (51, .ifCond .ge 7, 58, 0, 0), (54, .iconst 1, 0, 0, 0), (55, .goto 4, 59, 0, 0), (58, .iconst 0, 0, 0, 0), (59, .if_icmp .ne 85, 144, 0, 0), (62, .aload_n 0, 0, 0, 0), (63, .iload 5, 0, 0, 0), (65, .iconst 1, 0, 0, 0), (66, .invokevirtual 76, 35, 0, 0), (69, .iload 6, 0, 0, 0), (71, .ifCond .ge 8, 79, 0, 0), (74, .ldc 79, 0, 0, (-1000004)), (76, .goto 8, 84, 0, 0), (79, .iload 6, 0, 0, 0), (81, .bipush 100, 0, 0, 100), (83, .idiv, 0, 0, 0), (84, .if_icmp .ne 60, 144, 0, 0), (87, .aload_n 0, 0, 0, 0), (88, .iload 5, 0, 0, 0), (90, .iconst 2, 0, 0, 0), (91, .invokevirtual 76, 35, 0, 0), (94, .iload 6, 0, 0, 0), (96, .ifCond .ge 8, 104, 0, 0), (99, .ldc 79, 0, 0, (-1000004)), (101, .goto 11, 112, 0, 0), (104, .iload 6, 0, 0, 0), (106, .bipush 10, 0, 0, 10), (108, .idiv, 0, 0, 0), (109, .bipush 10, 0, 0, 10), (111, .irem, 0, 0, 0), (112, .if_icmp .ne 32, 144, 0, 0), (115, .aload_n 0, 0, 0, 0), (116, .iload 5, 0, 0, 0), (118, .iconst 3, 0, 0, 0), (119, .invokevirtual 76, 35, 0, 0), (122, .iload 6, 0, 0, 0), (124, .ifCond .ge 8, 132, 0, 0), (127, .ldc 79, 0, 0, (-1000004)), (129, .goto 8, 137, 0, 0), (132, .iload 6, 0, 0, 0), (134, .bipush 10, 0, 0, 10), (136, .irem, 0, 0, 0), (137, .if_icmp .ne 7, 144, 0, 0), (140, .iconst 1, 0, 0, 0), (141, .goto 4, 145, 0, 0), (144, .iconst 0, 0, 0, 0), (145, .istore 4, 0, 0, 0), (147, .iinc 5 1, 0, 0, 0), (150, .goto (-142), 8, 0, 0), (153, .iload 4, 0, 0, 0), (155, .ifCond .eq 41, 196, 0, 0), (158, .aload_n 0, 0, 0, 0), (159, .invokevirtual 80, 37, 0, 0), (162, .iload_n 3, 0, 0, 0), (163, .invokestatic 83, 54, 0, 0), (166, .if_icmp .ne 30, 196, 0, 0), (169, .aload_n 0, 0, 0, 0), (170, .bipush 8, 0, 0, 8), (172, .iconst 0, 0, 0, 0), (173, .invokevirtual 76, 35, 0, 0), (176, .ldc 86, 0, 0, (-1000001)), (178, .if_icmp .ne 18, 196, 0, 0), (181, .aload_n 0, 0, 0, 0), (182, .iconst 0, 0, 0, 0), (183, .iconst 4, 0, 0, 0), (184, .invokevirtual 76, 35, 0, 0), (187, .ldc 86, 0, 0, (-1000001)), (189, .if_icmp .ne 7, 196, 0, 0), (192, .iconst 1, 0, 0, 0), (193, .goto 4, 197, 0, 0), (196, .iconst 0, 0, 0, 0), (197, .ireturn, 0, 0, 0)]
def bd_59 : List BE := [(0, .aload_n 1, 0, 0, 0), (1, .iconst 0, 0, 0, 0), (2, .iaload, 0, 0, 0), (3, .istore_n 3, 0, 0, 0), (4, .iconst 0, 0, 0, 0), (5, .istore 4, 0, 0, 0), (7, .iconst 0, 0, 0, 0), (8, .istore 5, 0, 0, 0), (10, .iconst 0, 0, 0, 0), (11, .istore 6, 0, 0, 0), (13, .iconst 0, 0, 0, 0), (14, .istore 7, 0, 0, 0), (16, .iload 7, 0, 0, 0), (18, .iload_n 3, 0, 0, 0), (19, .if_icmp .ge 182, 201, 0, 0), (22, .iconst 1, 0, 0, 0), (23, .istore 8, 0, 0, 0), (25, .iconst 1, 0, 0, 0), (26, .istore 9, 0, 0, 0), (28, .iconst 1, 0, 0, 0), (29, .istore 10, 0, 0, 0), (31, .iconst 0, 0, 0, 0), (32, .istore 11, 0, 0, 0), (34, .iload 11, 0, 0, 0), (36, .iload_n 3, 0, 0, 0), (37, .if_icmp .ge 104, 141, 0, 0), (40, .iload 8, 0, 0, 0), (42, .ifCond .eq 21, 63, 0, 0), (45, .aload_n 1, 0, 0, 0), (46, .aload_n 2, 0, 0, 0), (47, .iconst 5, 0, 0, 0), (48, .iload 7, 0, 0, 0), (50, .iload 11, 0, 0, 0), (52, .iconst 0, 0, 0, 0), (53, .invokestatic 68, 56, 0, 0), (56, .ifCond .eq 7, 63, 0, 0), (59, .iconst 1, 0, 0, 0), (60, .goto 4, 64, 0, 0), (63, .iconst 0, 0, 0, 0), (64, .istore 8, 0, 0, 0), (66, .iconst 0, 0, 0, 0), (67, .istore 12, 0, 0, 0), (69, .iload 12, 0, 0, 0), (71, .iload_n 3, 0, 0, 0), (72, .if_icmp .ge 63, 135, 0, 0), (75, .iload 9, 0, 0, 0), (77, .ifCond .eq 22, 99, 0, 0), (80, .aload_n 1, 0, 0, 0), (81, .aload_n 2, 0, 0, 0), (82, .iconst 3, 0, 0, 0), (83, .iload 11, 0, 0, 0), (85, .iload 12, 0, 0, 0), (87, .iload 7, 0, 0, 0), (89, .invokestatic 68, 56, 0, 0), (92, .ifCond .eq 7, 99, 0, 0), (95, .iconst 1, 0, 0, 0), (96, .goto 4, 100, 0, 0), (99, .iconst 0, 0, 0, 0), (100, .istore 9, 0, 0, 0), (102, .iload 10, 0, 0, 0), (104, .ifCond .eq 22, 126, 0, 0), (107, .aload_n 1, 0, 0, 0), (108, .aload_n 2, 0, 0, 0), (109, .iconst 4, 0, 0, 0), (110, .iload 7, 0, 0, 0), (112, .iload 11, 0, 0, 0), (114, .iload 12, 0, 0, 0), (116, .invokestatic 68, 56, 0, 0), (119, .ifCond .eq 7, 126, 0, 0), (122, .iconst 1, 0, 0, 0), (123, .goto 4, 127, 0, 0), (126, .iconst 0, 0, 0, 0), (127, .istore 10, 0, 0, 0), (129, .iinc 12 1, 0, 0, 0), (132, .goto (-63), 69, 0, 0), (135, .iinc 11 1, 0, 0, 0), (138, .goto (-104), 34, 0, 0), (141, .iload 4, 0, 0, 0), (143, .iload 8, 0, 0, 0), (145, .ifCond .eq 10, 155, 0, 0), (148, .iconst 1, 0, 0, 0), (149, .iload 7, 0, 0, 0), (151, .ishl, 0, 0, 0), (152, .goto 4, 156, 0, 0), (155, .iconst 0, 0, 0, 0), (156, .iadd, 0, 0, 0), (157, .istore 4, 0, 0, 0), (159, .iload 5, 0, 0, 0), (161, .iload 9, 0, 0, 0), (163, .ifCond .eq 10, 173, 0, 0), (166, .iconst 1, 0, 0, 0), (167, .iload 7, 0, 0, 0), (169, .ishl, 0, 0, 0), (170, .goto 4, 174, 0, 0), (173, .iconst 0, 0, 0, 0), (174, .iadd, 0, 0, 0), (175, .istore 5, 0, 0, 0), (177, .iload 6, 0, 0, 0), (179, .iload 10, 0, 0, 0), (181, .ifCond .eq 10, 191, 0, 0), (184, .iconst 1, 0, 0, 0), (185, .iload 7, 0, 0, 0), (187, .ishl, 0, 0, 0), (188, .goto 4, 192, 0, 0), (191, .iconst 0, 0, 0, 0), (192, .iadd, 0, 0, 0), (193, .istore 6, 0, 0, 0), (195, .iinc 7 1, 0, 0, 0), (198, .goto (-182), 16, 0, 0), (201, .aload_n 0, 0, 0, 0), (202, .iconst 0, 0, 0, 0), (203, .invokevirtual 87, 36, 0, 0), (206, .iload 4, 0, 0, 0), (208, .if_icmp .ne 37, 245, 0, 0), (211, .aload_n 0, 0, 0, 0), (212, .iconst 1, 0, 0, 0), (213, .invokevirtual 87, 36, 0, 0), (216, .iload 5, 0, 0, 0), (218, .if_icmp .ne 27, 245, 0, 0), (221, .aload_n 0, 0, 0, 0), (222, .iconst 2, 0, 0, 0), (223, .invokevirtual 87, 36, 0, 0), (226, .iload 6, 0, 0, 0), (228, .if_icmp .ne 17, 245, 0, 0), (231, .aload_n 0, 0, 0, 0), (232, .iconst 3, 0, 0, 0), (233, .invokevirtual 87, 36, 0, 0), (236, .ldc 86, 0, 0, (-1000001)), (238, .if_icmp .ne 7, 245, 0, 0), (241, .iconst 1, 0, 0, 0), (242, .goto 4, 246, 0, 0), (245, .iconst 0, 0, 0, 0), (246, .ireturn, 0, 0, 0)]
def bd_60 : List BE := [(0, .aload_n 1, 0, 0, 0), (1, .iconst 0, 0, 0, 0), (2, .iaload, 0, 0, 0), (3, .istore_n 3, 0, 0, 0), (4, .iconst 0, 0, 0, 0), (5, .istore 4, 0, 0, 0), (7, .iconst 1, 0, 0, 0), (8, .istore 5, 0, 0, 0), (10, .iconst 0, 0, 0, 0), (11, .istore 6, 0, 0, 0), (13, .iload 6, 0, 0, 0), (15, .iload_n 3, 0, 0, 0), (16, .if_icmp .ge 265, 281, 0, 0), (19, .iload 5, 0, 0, 0), (21, .ifCond .eq 260, 281, 0, 0), (24, .iconst 0, 0, 0, 0), (25, .istore 7, 0, 0, 0), (27, .iload 7, 0, 0, 0), (29, .iload_n 3, 0, 0, 0), (30, .if_icmp .ge 245, 275, 0, 0), (33, .iload 5, 0, 0, 0), (35, .ifCond .eq 240, 275, 0, 0), (38, .ldc 79, 0, 0, (-1000004)), (40, .istore 8, 0, 0, 0), (42, .ldc 79, 0, 0, (-1000004)), (44, .istore 9, 0, 0, 0), (46, .iload_n 3, 0, 0, 0), (47, .iconst 1, 0, 0, 0), (48, .isub, 0, 0, 0), (49, .istore 10, 0, 0, 0), (51, .iload 10, 0, 0, 0), (53, .ifCond .lt 53, 106, 0, 0), (56, .aload_n 2, 0, 0, 0), (57, .iload 6, 0, 0, 0), (59, .iload 10, 0, 0, 0), (61, .invokestatic 13, 47, 0, 0), (64, .iload 7, 0, 0, 0), (66, .if_icmp .ne 8, 74, 0, 0), (69, .iload 10, 0, 0, 0), (71, .goto 5, 76, 0, 0), (74, .iload 8, 0, 0, 0), (76, .istore 8, 0, 0, 0), (78, .aload_n 2, 0, 0, 0), (79, .iload 10, 0, 0, 0), (81, .iload 6, 0, 0, 0), (83, .invokestatic 13, 47, 0, 0), (86, .iload 7, 0, 0, 0), (88, .if_icmp .ne 8, 96, 0, 0), (91, .iload 10, 0, 0, 0), (93, .goto 5, 98, 0, 0), (96, .iload 9, 0, 0, 0), (98, .istore 9, 0, 0, 0), (100, .iinc 10 (-1), 0, 0, 0), (103, .goto (-52), 51, 0, 0), (106, .iload 4, 0, 0, 0), (108, .aload_n 2, 0, 0, 0), (109, .iload 6, 0, 0, 0), (111, .iload 7, 0, 0, 0), (113, .invokestatic 13, 47, 0, 0), (116, .ifCond .ne 7, 123, 0, 0), (119, .iconst 1, 0, 0, 0), (120, .goto 4, 124, 0, 0), (123, .iconst 0, 0, 0, 0), (124, .iadd, 0, 0, 0), (125, .istore 4, 0, 0, 0), (127, .aload_n 0, 0, 0, 0), (128, .iload 6, 0, 0, 0), (130, .iload 7, 0, 0, 0), (132, .iconst 0, 0, 0, 0), (133, .invokevirtual 90, 34, 0, 0), (136, .aload_n 1, 0, 0, 0), (137, .iload 6, 0, 0, 0), (139, .iload 7, 0, 0, 0), (141, .invokestatic 61, 45, 0, 0), (144, .if_icmp .ne 89, 233, 0, 0), (147, .aload_n 0, 0, 0, 0), (148, .iload 6, 0, 0, 0), (150, .iload 7, 0, 0, 0), (152, .iconst 1, 0, 0, 0), (153, .invokevirtual 90, 34, 0, 0), (156, .aload_n 1, 0, 0, 0), (157, .iload 6, 0, 0, 0), (159, .iload 7, 0, 0, 0), (161, .invokestatic 58, 46, 0, 0), (164, .if_icmp .ne 69, 233, 0, 0), (167, .aload_n 0, 0, 0, 0), (168, .iload 6, 0, 0, 0), (170, .iload 7, 0, 0, 0), (172, .iconst 2, 0, 0, 0), (173, .invokevirtual 90, 34, 0, 0), (176, .aload_n 2, 0, 0, 0), (177, .iload 6, 0, 0, 0), (179, .iload 7, 0, 0, 0), (181, .invokestatic 13, 47, 0, 0), (184, .if_icmp .ne 49, 233, 0, 0), (187, .aload_n 0, 0, 0, 0), (188, .iload 6, 0, 0, 0), (190, .iload 7, 0, 0, 0), (192, .iconst 3, 0, 0, 0), (193, .invokevirtual 90, 34, 0, 0), (196, .iload 8, 0, 0, 0), (198, .if_icmp .ne 35, 233, 0, 0), (201, .aload_n 0, 0, 0, 0), (202, .iload 6, 0, 0, 0), (204, .iload 7, 0, 0, 0), (206, .iconst 4, 0, 0, 0), (207, .invokevirtual 90, 34, 0, 0), (210, .iload 9, 0, 0, 0), (212, .if_icmp .ne 21, 233, 0, 0), (215, .aload_n 0, 0, 0, 0), (216, .iload 6, 0, 0, 0), (218, .iload 7, 0, 0, 0), (220, .iconst 5, 0, 0, 0), (221, .invokevirtual 90, 34, 0, 0), (224, .ldc 86, 0, 0, (-1000001)), (226, .if_icmp .ne 7, 233, 0, 0), (229, .iconst 1, 0, 0, 0), (230, .goto 4, 234, 0, 0), (233, .iconst 0, 0, 0, 0), (234, .istore 5, 0, 0, 0), (236, .iload 5, 0, 0, 0), (238, .ifCond .eq 28, 266, 0, 0), (241, .aload_n 0, 0, 0, 0), (242, .aload_n 0, 0, 0, 0), (243, .iload 6, 0, 0, 0), (245, .iload 7, 0, 0, 0), (247, .iconst 1, 0, 0, 0), (248, .invokevirtual 90, 34, 0, 0), (251, .iload 7, 0, 0, 0), (253, .iconst 0, 0, 0, 0), (254, .invokevirtual 90, 34, 0, 0), (257, .iload 6, 0, 0, 0), (259, .if_icmp .ne 7, 266, 0, 0), (262, .iconst 1, 0, 0, 0), (263, .goto 4, 267, 0, 0), (266, .iconst 0, 0, 0, 0), (267, .istore 5, 0, 0, 0), (269, .iinc 7 1, 0, 0, 0), (272, .goto (-245), 27, 0, 0), (275, .iinc 6 1, 0, 0, 0), (278, .goto (-265), 13, 0, 0), (281, .iload 5, 0, 0, 0), (283, .ifCond .eq 49, 332, 0, 0), (286, .aload_n 0, 0, 0, 0), (287, .iload_n 3, 0, 0, 0), (288, .iconst 0, 0, 0, 0), (289, .iconst 0, 0, 0, 0), (290, .invokevirtual 90, 34, 0, 0), (293, .ldc 86, 0, 0, (-1000001)), (295, .if_icmp .ne 37, 332, 0, 0), (298, .aload_n 0, 0, 0, 0), (299, .iconst 0, 0, 0, 0), (300, .iconst (-1), 0, 0, 0), (301, .iconst 0, 0, 0, 0), (302, .invokevirtual 90, 34, 0, 0), (305, .ldc 86, 0, 0, (-1000001)), (307, .if_icmp .ne 25, 332, 0, 0), (310, .aload_n 0, 0, 0, 0), (311, .aload_n 1, 0, 0, 0), (312, .aload_n 2, 0, 0, 0), (313, .invokestatic 93, 58, 0, 0), (316, .ifCond .eq 16, 332, 0, 0), (319, .aload_n 0, 0, 0, 0), (320, .aload_n 1, 0, 0, 0), (321, .aload_n 2, 0, 0, 0), (322, .invokestatic 97, 59, 0, 0), (325, .ifCond .eq 7, 332, 0, 0), (328, .iconst 1, 0, 0, 0), (329, .goto 4, 333, 0, 0), (332, .iconst 0, 0, 0, 0), (333, .istore 5, 0, 0, 0), (335, .iload 5, 0, 0, 0), (337, .ifCond .eq 62, 399, 0, 0), (340, .aload_n 0, 0, 0, 0), (341, .iconst 0, 0, 0, 0), (342, .invokevirtual 100, 38, 0, 0), (345, .iload_n 3, 0, 0, 0), (346, .if_icmp .ne 53, 399, 0, 0), (349, .aload_n 0, 0, 0, 0), (350, .iconst 1, 0, 0, 0), (351, .invokevirtual 100, 38, 0, 0), (354, .iload_n 3, 0, 0, 0), (355, .iload_n 3, 0, 0, 0), (356, .imul, 0, 0, 0), (357, .iload_n 3, 0, 0, 0), (358, .iadd, 0, 0, 0), (359, .iconst 1, 0, 0, 0), (360, .iadd, 0, 0, 0), (361, .if_icmp .ne 38, 399, 0, 0), (364, .aload_n 0, 0, 0, 0), (365, .iconst 2, 0, 0, 0), (366, .invokevirtual 100, 38, 0, 0), (369, .aload_n 1, 0, 0, 0), (370, .aload_n 2, 0, 0, 0), (371, .invokestatic 103, 50, 0, 0), (374, .if_icmp .ne 25, 399, 0, 0), (377, .aload_n 0, 0, 0, 0), (378, .iconst 3, 0, 0, 0), (379, .invokevirtual 100, 38, 0, 0), (382, .iload 4, 0, 0, 0), (384, .if_icmp .ne 15, 399, 0, 0), (387, .aload_n 0, 0, 0, 0), (388, .iconst 5, 0, 0, 0), (389, .invokevirtual 100, 38, 0, 0), (392, .ifCond .ne 7, 399, 0, 0), (395, .iconst 1, 0, 0, 0), (396, .goto 4, 400, 0, 0), (399, .iconst 0, 0, 0, 0), (400, .ireturn, 0, 0, 0)]
def bd_61 : List BE := [(0, .iload_n 3, 0, 0, 0), (1, .iconst 4, 0, 0, 0), (2, .ishr, 0, 0, 0), (3, .ldc 27, 0, 0, 10000000), (5, .invokestatic 28, 44, 0, 0), (8, .istore 4, 0, 0, 0), (10, .iload_n 3, 0, 0, 0), (11, .bipush 16, 0, 0, 16), (13, .invokestatic 28, 44, 0, 0), (16, .istore 5, 0, 0, 0), (18, .aload_n 1, 0, 0, 0), (19, .iconst 0, 0, 0, 0), (20, .iaload, 0, 0, 0), (21, .istore 6, 0, 0, 0), (23, .iload 5, 0, 0, 0), (25, .bipush 6, 0, 0, 6), (27, .if_icmp .ge 31, 58, 0, 0), (30, .aload_n 1, 0, 0, 0), (31, .aload_n 2, 0, 0, 0), (32, .iload 4, 0, 0, 0), (34, .invokestatic 32, 52, 0, 0), (37, .invokestatic 36, 51, 0, 0), (40, .aload_n 0, 0, 0, 0), (41, .aload_n 1, 0, 0, 0), (42, .iconst 0, 0, 0, 0), (43, .iaload, 0, 0, 0), (44, .invokevirtual 40, 30, 0, 0), (47, .iload 6, 0, 0, 0), (49, .if_icmp .ne 7, 56, 0, 0), (52, .iconst 1, 0, 0, 0), (53, .goto 4, 57, 0, 0), (56, .iconst 0, 0, 0, 0), (57, .ireturn, 0, 0, 0), (58, .iload 5, 0, 0, 0), (60, .bipush 9, 0, 0, 9), (62, .if_icmp .ge 184, 246, 0, 0), (65, .iload 6, 0, 0, 0), (67, .bipush 9, 0, 0, 9), (69, .if_icmp .eq 18, 87, 0, 0), (72, .aload_n 0, 0, 0, 0), (73, .invokevirtual 45, 31, 0, 0), (76, .ldc 49, 0, 0, (-1000002)), (78, .if_icmp .ne 7, 85, 0, 0), (81, .iconst 1, 0, 0, 0), (82, .goto 4, 86, 0, 0), (85, .iconst 0, 0, 0, 0), (86, .ireturn, 0, 0, 0), (87, .iconst 0, 0, 0, 0), (88, .istore 7, 0, 0, 0), (90, .iconst 0, 0, 0, 0), (91, .istore 8, 0, 0, 0), (93, .iconst 0, 0, 0, 0), (94, .istore 9, 0, 0, 0), (96, .iload 9, 0, 0, 0), (98, .bipush 9, 0, 0, 9), (100, .if_icmp .ge 24, 124, 0, 0), (103, .iload 8, 0, 0, 0), (105, .iconst 1, 0, 0, 0), (106, .aload_n 1, 0, 0, 0), (107, .iload 9, 0, 0, 0), (109, .iload 9, 0, 0, 0), (111, .invokestatic 19, 49, 0, 0), (114, .ishl, 0, 0, 0), (115, .ior, 0, 0, 0), (116, .istore 8, 0, 0, 0), (118, .iinc 9 1, 0, 0, 0), (121, .goto (-25), 96, 0, 0), (124, .iconst 0, 0, 0, 0), (125, .istore 9, 0, 0, 0), (127, .iload 9, 0, 0, 0), (129, .bipush 9, 0, 0, 9), (131, .if_icmp .ge 100, 231, 0, 0), (134, .aload_n 1, 0, 0, 0), (135, .iload 9, 0, 0, 0), (137, .aload_n 1, 0, 0, 0), (138, .iload 9, 0, 0, 0), (140, .iload 9, 0, 0, 0), (142, .invokestatic 19, 49, 0, 0), (145, .invokestatic 19, 49, 0, 0), (148, .istore 10, 0, 0, 0), (150, .iconst 0, 0, 0, 0), (151, .istore 11, 0, 0, 0), (153, .iload 11, 0, 0, 0), (155, .bipush 9, 0, 0, 9), (157, .if_icmp .ge 68, 225, 0, 0), (160, .aload_n 1, 0, 0, 0), (161, .iload 8, 0, 0, 0), (163, .iload 11, 0, 0, 0), (165, .ishr, 0, 0, 0), (166, .iconst 1, 0, 0, 0), (167, .iand, 0, 0, 0), (168, .iconst 1, 0, 0, 0), (169, .if_icmp .ne 8, 177, 0, 0), (172, .iload 9, 0, 0, 0), (174, .goto 5, 179, 0, 0), (177, .iload 10, 0, 0, 0), (179, .iload 11, 0, 0, 0), (181, .invokestatic 19, 49, 0, 0), (184, .istore 12, 0, 0, 0), (186, .iload 7, 0, 0, 0), (188, .iload 12, 0, 0, 0), (190, .aload_n 2, 0, 0, 0), (191, .iload 9, 0, 0, 0), (193, .iload 11, 0, 0, 0), (195, .invokestatic 13, 47, 0, 0), (198, .if_icmp .eq 7, 205, 0, 0), (201, .iconst 1, 0, 0, 0), (202, .goto 4, 206, 0, 0), (205, .iconst 0, 0, 0, 0), (206, .iadd, 0, 0, 0), (207, .istore 7, 0, 0, 0), (209, .aload_n 2, 0, 0, 0), (210, .iload 9, 0, 0, 0), (212, .iload 11, 0, 0, 0), (214, .iload 12, 0, 0, 0), (216, .invokestatic 23, 48, 0, 0), (219, .iinc 11 1, 0, 0, 0), (222, .goto (-69), 153, 0, 0), (225, .iinc 9 1, 0, 0, 0), (228, .goto (-101), 127, 0, 0), (231, .aload_n 0, 0, 0, 0), (232, .invokevirtual 45, 31, 0, 0), (235, .iload 7, 0, 0, 0), (237, .if_icmp .ne 7, 244, 0, 0), (240, .iconst 1, 0, 0, 0), (241, .goto 4, 245, 0, 0), (244, .iconst 0, 0, 0, 0), (245, .ireturn, 0, 0, 0), (246, .iload 5, 0, 0, 0), (248, .bipush 12, 0, 0, 12), (250, .if_icmp .ge 130, 380, 0, 0), (253, .iconst 0, 0, 0, 0), (254, .istore 7, 0, 0, 0), (256, .bipush 9, 0, 0, 9), (258, .newarray .long, 2, 0, 0), (260, .astore 8, 0, 0, 0), (262, .iconst 0, 0, 0, 0), (263, .istore 9, 0, 0, 0), (265, .iload 9, 0, 0, 0), (267, .iload 6, 0, 0, 0), (269, .if_icmp .ge 71, 340, 0, 0), (272, .iconst 0, 0, 0, 0), (273, .istore 10, 0, 0, 0), (275, .iload 10, 0, 0, 0), (277, .iload 6, 0, 0, 0), (279, .if_icmp .ge 55, 334, 0, 0), (282, .aload 8, 0, 0, 0), (284, .iload 9, 0, 0, 0), (286, .iload 10, 0, 0, 0), (288, .aload_n 2, 0, 0, 0), (289, .iload 10, 0, 0, 0), (291, .iload 9, 0, 0, 0), (293, .invokestatic 13, 47, 0, 0), (296, .invokestatic 23, 48, 0, 0), (299, .iload 7, 0, 0, 0), (301, .aload_n 2, 0, 0, 0), (302, .iload 9, 0, 0, 0), (304, .iload 10, 0, 0, 0), (306, .invokestatic 13, 47, 0, 0), (309, .aload_n 2, 0, 0, 0), (310, .iload 10, 0, 0, 0), (312, .iload 9, 0, 0, 0), (314, .invokestatic 13, 47, 0, 0), (317, .if_icmp .eq 7, 324, 0, 0), (320, .iconst 1, 0, 0, 0), (321, .goto 4, 325, 0, 0), (324, .iconst 0, 0, 0, 0), (325, .iadd, 0, 0, 0), (326, .istore 7, 0, 0, 0), (328, .iinc 10 1, 0, 0, 0), (331, .goto (-56), 275, 0, 0), (334, .iinc 9 1, 0, 0, 0), (337, .goto (-72), 265, 0, 0), (340, .iconst 0, 0, 0, 0), (341, .istore 9, 0, 0, 0), (343, .iload 9, 0, 0, 0), (345, .iload 6, 0, 0, 0), (347, .if_icmp .ge 18, 365, 0, 0), (350, .aload_n 2, 0, 0, 0), (351, .iload 9, 0, 0, 0), (353, .aload 8, 0, 0, 0), (355, .iload 9, 0, 0, 0), (357, .laload, 0, 0, 0), (358, .lastore, 0, 0, 0), (359, .iinc 9 1, 0, 0, 0), (362, .goto (-19), 343, 0, 0), (365, .aload_n 0, 0, 0, 0), (366, .invokevirtual 50, 33, 0, 0), (369, .iload 7, 0, 0, 0), (371, .if_icmp .ne 7, 378, 0, 0), (374, .iconst 1, 0, 0, 0), (375, .goto 4, 379, 0, 0), (378, .iconst 0, 0, 0, 0), (379, .ireturn, 0, 0, 0), (380, .iload 4, 0, 0, 0), (382, .iload 6, 0, 0, 0), (384, .irem, 0, 0, 0), (385, .istore 7, 0, 0, 0), (387, .iload 4, 0, 0, 0), (389, .bipush 9, 0, 0, 9), (391, .idiv, 0, 0, 0), (392, .iload 6, 0, 0, 0), (394, .irem, 0, 0, 0), (395, .istore 8, 0, 0, 0), (397, .aload_n 2, 0, 0, 0), (398, .iload 7, 0, 0, 0), (400, .iload 8, 0, 0, 0), (402, .invokestatic 13, 47, 0, 0), (405, .istore 9, 0, 0, 0), (407, .aload_n 2, 0, 0, 0), (408, .iload 7, 0, 0, 0), (410, .iload 8, 0, 0, 0), (412, .iload 4, 0, 0, 0), (414, .bipush 81, 0, 0, 81), (416, .idiv, 0, 0, 0), (417, .iload 6, 0, 0, 0), (419, .irem, 0, 0, 0), (420, .invokestatic 23, 48, 0, 0), (423, .aload_n 0, 0, 0, 0), (424, .iload 7, 0, 0, 0), (426, .iload 8, 0, 0, 0), (428, .iload 4, 0, 0, 0), (430, .bipush 81, 0, 0, 81), (432, .idiv, 0, 0, 0), (433, .iload 6, 0, 0, 0), (435, .irem, 0, 0, 0), (436, .invokevirtual 53, 32, 0, 0), (439, .iload 9, 0, 0, 0), (441, .if_icmp .ne 7, 448, 0, 0), (444, .iconst 1, 0, 0, 0), (445, .goto 4, 449, 0, 0), (448, .iconst 0, 0, 0, 0), (449, .ireturn, 0, 0, 0)]
def m_bodies : List (List BE) := [bd_0, bd_1, bd_2, bd_3, bd_4, bd_5, bd_6, bd_7, bd_8, bd_9, bd_10, bd_11, bd_12, bd_13, bd_14, bd_15, bd_16, bd_17, bd_18, bd_19, bd_20, bd_21, bd_22, bd_23, bd_24, bd_25, bd_26, bd_27, bd_28, bd_29, bd_30, bd_31, bd_32, bd_33, bd_34, bd_35, bd_36, bd_37, bd_38, bd_39, bd_40, bd_41, bd_42, bd_43, bd_44, bd_45, bd_46, bd_47, bd_48, bd_49, bd_50, bd_51, bd_52, bd_53, bd_54, bd_55, bd_56, bd_57, bd_58, bd_59, bd_60, bd_61]
def m_fetch (mi pc : Nat) : Option BE := (m_bodies.getD mi []).find? (fun e => e.1 == pc)
def m_flds : List (Nat × Nat × Nat × Nat) := [(0, 9, 0, 0), (0, 15, 0, 1), (0, 18, 0, 2), (0, 25, 3, 0), (0, 30, 3, 1), (1, 9, 3, 0), (2, 9, 1, 0), (2, 15, 1, 1), (2, 18, 1, 2), (3, 12, 2, 0), (3, 18, 3, 0), (4, 9, 3, 1), (4, 19, 3, 0), (5, 9, 4, 0), (6, 12, 5, 0), (6, 16, 2, 0), (6, 20, 5, 1), (6, 24, 5, 2), (6, 31, 5, 3), (6, 38, 5, 4), (6, 51, 3, 0), (6, 161, 0, 2), (6, 164, 4, 1)]
def m_mths : List (Nat × Nat × Nat) := [(10, 107, 29), (10, 36, 51), (10, 108, 60), (10, 111, 43), (10, 28, 44), (10, 115, 53), (10, 100, 38), (10, 40, 30), (10, 53, 32), (0, 3, 1000), (0, 22, 3), (0, 31, 1001), (1, 15, 6), (1, 21, 17), (1, 25, 15), (1, 28, 9), (1, 32, 8), (1, 35, 18), (1, 39, 16), (1, 42, 42), (2, 3, 1000), (3, 3, 1000), (3, 11, 13), (4, 3, 1000), (4, 15, 21), (4, 23, 17), (4, 27, 18), (4, 31, 27), (4, 35, 20), (4, 38, 26), (5, 3, 1000), (6, 3, 1000), (6, 11, 11), (6, 23, 1), (6, 30, 28), (6, 37, 10), (6, 42, 39), (6, 47, 2), (6, 57, 21), (6, 62, 22), (6, 66, 14), (6, 69, 17), (6, 73, 20), (6, 77, 23), (6, 80, 15), (6, 83, 16), (6, 86, 19), (6, 90, 40), (6, 94, 4), (6, 101, 5), (6, 104, 7), (6, 148, 41), (6, 152, 12), (6, 155, 24), (6, 158, 25), (10, 13, 47), (10, 19, 49), (10, 23, 48), (10, 32, 52), (10, 45, 31), (10, 50, 33), (10, 58, 46), (10, 61, 45), (10, 64, 55), (10, 68, 56), (10, 72, 57), (10, 76, 35), (10, 80, 37), (10, 83, 54), (10, 87, 36), (10, 90, 34), (10, 93, 58), (10, 97, 59), (10, 103, 50)]
def m_csts : List (Nat × Nat × Nat × Int) := [(10, 86, 0, -1000001), (6, 46, 0, -1000001), (6, 61, 0, -1000002), (6, 100, 0, -1000004), (6, 147, 1, 1090519040), (6, 186, 1, 1258291200), (8, 265, 0, 1431655765), (8, 266, 0, 858993459), (8, 267, 0, 252645135), (10, 7, 0, 40503), (10, 8, 0, 2147483647), (10, 27, 0, 10000000), (10, 49, 0, -1000002), (10, 57, 0, 8388608), (10, 79, 0, -1000004)]
def m_cstl : List (Nat × Nat × Int) := [(10, 9, 15), (10, 11, -1)]
def m_clss : List (Nat × Nat × Nat) := [(10, 41, 5), (3, 9, 3), (6, 9, 2), (6, 21, 0), (6, 28, 4), (6, 35, 1)]
def lw_g : List Cond := lw_tbl.filter goodWord
theorem m_in {w : Cond} (i : Nat) (h : lw_tbl[i]? = some w) (g : goodWord w = true) : w ∈ lw_g := List.mem_filter.mpr ⟨List.mem_of_getElem? h, g⟩
def m_fldw (q : Nat × Nat × Nat × Nat) : Prop := ∃ r : vw_C, vwCl[q.2.2.1]? = some r ∧ q.2.2.2 < r.2.2 ∧ Cond.fieldLink (m_cn.getD q.1 "") q.2.1 (r.2.1 q.2.2.2).1 (r.2.1 q.2.2.2).2.1 (r.2.1 q.2.2.2).2.2.1 ∈ lw_g
theorem m_fw0 : m_fldw (0, 9, 0, 0) := ⟨(RX0, TX0, 3), rfl, by decide, m_in 67 (by decide +kernel) (by decide +kernel)⟩
theorem m_fw1 : m_fldw (0, 15, 0, 1) := ⟨(RX0, TX0, 3), rfl, by decide, m_in 68 (by decide +kernel) (by decide +kernel)⟩
theorem m_fw2 : m_fldw (0, 18, 0, 2) := ⟨(RX0, TX0, 3), rfl, by decide, m_in 69 (by decide +kernel) (by decide +kernel)⟩
theorem m_fw3 : m_fldw (0, 25, 3, 0) := ⟨(RX4, TX4, 2), rfl, by decide, m_in 47 (by decide +kernel) (by decide +kernel)⟩
theorem m_fw4 : m_fldw (0, 30, 3, 1) := ⟨(RX4, TX4, 2), rfl, by decide, m_in 49 (by decide +kernel) (by decide +kernel)⟩
theorem m_fw5 : m_fldw (1, 9, 3, 0) := ⟨(RX4, TX4, 2), rfl, by decide, m_in 45 (by decide +kernel) (by decide +kernel)⟩
theorem m_fw6 : m_fldw (2, 9, 1, 0) := ⟨(RX2, TX2, 6), rfl, by decide, m_in 98 (by decide +kernel) (by decide +kernel)⟩
theorem m_fw7 : m_fldw (2, 15, 1, 1) := ⟨(RX2, TX2, 6), rfl, by decide, m_in 99 (by decide +kernel) (by decide +kernel)⟩
theorem m_fw8 : m_fldw (2, 18, 1, 2) := ⟨(RX2, TX2, 6), rfl, by decide, m_in 100 (by decide +kernel) (by decide +kernel)⟩
theorem m_fw9 : m_fldw (3, 12, 2, 0) := ⟨(RX3, TX3, 1), rfl, by decide, m_in 56 (by decide +kernel) (by decide +kernel)⟩
theorem m_fw10 : m_fldw (3, 18, 3, 0) := ⟨(RX4, TX4, 2), rfl, by decide, m_in 43 (by decide +kernel) (by decide +kernel)⟩
theorem m_fw11 : m_fldw (4, 9, 3, 1) := ⟨(RX4, TX4, 2), rfl, by decide, m_in 48 (by decide +kernel) (by decide +kernel)⟩
theorem m_fw12 : m_fldw (4, 19, 3, 0) := ⟨(RX4, TX4, 2), rfl, by decide, m_in 44 (by decide +kernel) (by decide +kernel)⟩
theorem m_fw13 : m_fldw (5, 9, 4, 0) := ⟨(RX5, TX5, 2), rfl, by decide, m_in 84 (by decide +kernel) (by decide +kernel)⟩
theorem m_fw14 : m_fldw (6, 12, 5, 0) := ⟨(RX6, TX6, 5), rfl, by decide, m_in 114 (by decide +kernel) (by decide +kernel)⟩
theorem m_fw15 : m_fldw (6, 16, 2, 0) := ⟨(RX3, TX3, 1), rfl, by decide, m_in 57 (by decide +kernel) (by decide +kernel)⟩
theorem m_fw16 : m_fldw (6, 20, 5, 1) := ⟨(RX6, TX6, 5), rfl, by decide, m_in 115 (by decide +kernel) (by decide +kernel)⟩
theorem m_fw17 : m_fldw (6, 24, 5, 2) := ⟨(RX6, TX6, 5), rfl, by decide, m_in 116 (by decide +kernel) (by decide +kernel)⟩
theorem m_fw18 : m_fldw (6, 31, 5, 3) := ⟨(RX6, TX6, 5), rfl, by decide, m_in 117 (by decide +kernel) (by decide +kernel)⟩
theorem m_fw19 : m_fldw (6, 38, 5, 4) := ⟨(RX6, TX6, 5), rfl, by decide, m_in 118 (by decide +kernel) (by decide +kernel)⟩
theorem m_fw20 : m_fldw (6, 51, 3, 0) := ⟨(RX4, TX4, 2), rfl, by decide, m_in 46 (by decide +kernel) (by decide +kernel)⟩
theorem m_fw21 : m_fldw (6, 161, 0, 2) := ⟨(RX0, TX0, 3), rfl, by decide, m_in 70 (by decide +kernel) (by decide +kernel)⟩
theorem m_fw22 : m_fldw (6, 164, 4, 1) := ⟨(RX5, TX5, 2), rfl, by decide, m_in 85 (by decide +kernel) (by decide +kernel)⟩
set_option maxRecDepth 100000 in
theorem m_flds_w : ∀ q ∈ m_flds, m_fldw q := List.forall_mem_cons.mpr ⟨m_fw0, List.forall_mem_cons.mpr ⟨m_fw1, List.forall_mem_cons.mpr ⟨m_fw2, List.forall_mem_cons.mpr ⟨m_fw3, List.forall_mem_cons.mpr ⟨m_fw4, List.forall_mem_cons.mpr ⟨m_fw5, List.forall_mem_cons.mpr ⟨m_fw6, List.forall_mem_cons.mpr ⟨m_fw7, List.forall_mem_cons.mpr ⟨m_fw8, List.forall_mem_cons.mpr ⟨m_fw9, List.forall_mem_cons.mpr ⟨m_fw10, List.forall_mem_cons.mpr ⟨m_fw11, List.forall_mem_cons.mpr ⟨m_fw12, List.forall_mem_cons.mpr ⟨m_fw13, List.forall_mem_cons.mpr ⟨m_fw14, List.forall_mem_cons.mpr ⟨m_fw15, List.forall_mem_cons.mpr ⟨m_fw16, List.forall_mem_cons.mpr ⟨m_fw17, List.forall_mem_cons.mpr ⟨m_fw18, List.forall_mem_cons.mpr ⟨m_fw19, List.forall_mem_cons.mpr ⟨m_fw20, List.forall_mem_cons.mpr ⟨m_fw21, List.forall_mem_cons.mpr ⟨m_fw22, fun _ h => absurd h List.not_mem_nil⟩⟩⟩⟩⟩⟩⟩⟩⟩⟩⟩⟩⟩⟩⟩⟩⟩⟩⟩⟩⟩⟩⟩
def m_spc (x : Nat) : MethodName := if x = 1000 then objectInit else if x = 1001 then arraycopyName else ⟨"java/lang/Float", "floatToRawIntBits", "(F)I"⟩
def m_yy (x : Nat) : MethodName := if x < 1000 then m_y x else m_spc x
def m_mthw (q : Nat × Nat × Nat) : Prop := Cond.methodLink (m_cn.getD q.1 "") q.2.1 (m_yy q.2.2) ∈ lw_g
theorem m_mw0 : m_mthw (10, 107, 29) := m_in 14 (by decide +kernel) (by decide +kernel)
theorem m_mw1 : m_mthw (10, 36, 51) := m_in 188 (by decide +kernel) (by decide +kernel)
theorem m_mw2 : m_mthw (10, 108, 60) := m_in 232 (by decide +kernel) (by decide +kernel)
theorem m_mw3 : m_mthw (10, 111, 43) := m_in 180 (by decide +kernel) (by decide +kernel)
theorem m_mw4 : m_mthw (10, 28, 44) := m_in 184 (by decide +kernel) (by decide +kernel)
theorem m_mw5 : m_mthw (10, 115, 53) := m_in 199 (by decide +kernel) (by decide +kernel)
theorem m_mw6 : m_mthw (10, 100, 38) := m_in 163 (by decide +kernel) (by decide +kernel)
theorem m_mw7 : m_mthw (10, 40, 30) := m_in 130 (by decide +kernel) (by decide +kernel)
theorem m_mw8 : m_mthw (10, 53, 32) := m_in 150 (by decide +kernel) (by decide +kernel)
theorem m_mw9 : m_mthw (0, 3, 1000) := m_in 66 (by decide +kernel) (by decide +kernel)
theorem m_mw10 : m_mthw (0, 22, 3) := m_in 142 (by decide +kernel) (by decide +kernel)
theorem m_mw11 : m_mthw (0, 31, 1001) := m_in 146 (by decide +kernel) (by decide +kernel)
theorem m_mw12 : m_mthw (1, 15, 6) := m_in 286 (by decide +kernel) (by decide +kernel)
theorem m_mw13 : m_mthw (1, 21, 17) := m_in 289 (by decide +kernel) (by decide +kernel)
theorem m_mw14 : m_mthw (1, 25, 15) := m_in 290 (by decide +kernel) (by decide +kernel)
theorem m_mw15 : m_mthw (1, 28, 9) := m_in 291 (by decide +kernel) (by decide +kernel)
theorem m_mw16 : m_mthw (1, 32, 8) := m_in 328 (by decide +kernel) (by decide +kernel)
theorem m_mw17 : m_mthw (1, 35, 18) := m_in 294 (by decide +kernel) (by decide +kernel)
theorem m_mw18 : m_mthw (1, 39, 16) := m_in 295 (by decide +kernel) (by decide +kernel)
theorem m_mw19 : m_mthw (1, 42, 42) := m_in 296 (by decide +kernel) (by decide +kernel)
theorem m_mw20 : m_mthw (2, 3, 1000) := m_in 97 (by decide +kernel) (by decide +kernel)
theorem m_mw21 : m_mthw (3, 3, 1000) := m_in 25 (by decide +kernel) (by decide +kernel)
theorem m_mw22 : m_mthw (3, 11, 13) := m_in 28 (by decide +kernel) (by decide +kernel)
theorem m_mw23 : m_mthw (4, 3, 1000) := m_in 31 (by decide +kernel) (by decide +kernel)
theorem m_mw24 : m_mthw (4, 15, 21) := m_in 32 (by decide +kernel) (by decide +kernel)
theorem m_mw25 : m_mthw (4, 23, 17) := m_in 175 (by decide +kernel) (by decide +kernel)
theorem m_mw26 : m_mthw (4, 27, 18) := m_in 252 (by decide +kernel) (by decide +kernel)
theorem m_mw27 : m_mthw (4, 31, 27) := m_in 36 (by decide +kernel) (by decide +kernel)
theorem m_mw28 : m_mthw (4, 35, 20) := m_in 39 (by decide +kernel) (by decide +kernel)
theorem m_mw29 : m_mthw (4, 38, 26) := m_in 215 (by decide +kernel) (by decide +kernel)
theorem m_mw30 : m_mthw (5, 3, 1000) := m_in 83 (by decide +kernel) (by decide +kernel)
theorem m_mw31 : m_mthw (6, 3, 1000) := m_in 17 (by decide +kernel) (by decide +kernel)
theorem m_mw32 : m_mthw (6, 11, 11) := m_in 22 (by decide +kernel) (by decide +kernel)
theorem m_mw33 : m_mthw (6, 23, 1) := m_in 63 (by decide +kernel) (by decide +kernel)
theorem m_mw34 : m_mthw (6, 30, 28) := m_in 80 (by decide +kernel) (by decide +kernel)
theorem m_mw35 : m_mthw (6, 37, 10) := m_in 94 (by decide +kernel) (by decide +kernel)
theorem m_mw36 : m_mthw (6, 42, 39) := m_in 134 (by decide +kernel) (by decide +kernel)
theorem m_mw37 : m_mthw (6, 47, 2) := m_in 138 (by decide +kernel) (by decide +kernel)
theorem m_mw38 : m_mthw (6, 57, 21) := m_in 149 (by decide +kernel) (by decide +kernel)
theorem m_mw39 : m_mthw (6, 62, 22) := m_in 211 (by decide +kernel) (by decide +kernel)
theorem m_mw40 : m_mthw (6, 66, 14) := m_in 154 (by decide +kernel) (by decide +kernel)
theorem m_mw41 : m_mthw (6, 69, 17) := m_in 158 (by decide +kernel) (by decide +kernel)
theorem m_mw42 : m_mthw (6, 73, 20) := m_in 162 (by decide +kernel) (by decide +kernel)
theorem m_mw43 : m_mthw (6, 77, 23) := m_in 227 (by decide +kernel) (by decide +kernel)
theorem m_mw44 : m_mthw (6, 80, 15) := m_in 240 (by decide +kernel) (by decide +kernel)
theorem m_mw45 : m_mthw (6, 83, 16) := m_in 244 (by decide +kernel) (by decide +kernel)
theorem m_mw46 : m_mthw (6, 86, 19) := m_in 248 (by decide +kernel) (by decide +kernel)
theorem m_mw47 : m_mthw (6, 90, 40) := m_in 256 (by decide +kernel) (by decide +kernel)
theorem m_mw48 : m_mthw (6, 94, 4) := m_in 283 (by decide +kernel) (by decide +kernel)
theorem m_mw49 : m_mthw (6, 101, 5) := m_in 302 (by decide +kernel) (by decide +kernel)
theorem m_mw50 : m_mthw (6, 104, 7) := m_in 325 (by decide +kernel) (by decide +kernel)
theorem m_mw51 : m_mthw (6, 148, 41) := m_in 310 (by decide +kernel) (by decide +kernel)
theorem m_mw52 : m_mthw (6, 152, 12) := m_in 167 (by decide +kernel) (by decide +kernel)
theorem m_mw53 : m_mthw (6, 155, 24) := m_in 171 (by decide +kernel) (by decide +kernel)
theorem m_mw54 : m_mthw (6, 158, 25) := m_in 176 (by decide +kernel) (by decide +kernel)
theorem m_mw55 : m_mthw (10, 13, 47) := m_in 220 (by decide +kernel) (by decide +kernel)
theorem m_mw56 : m_mthw (10, 19, 49) := m_in 191 (by decide +kernel) (by decide +kernel)
theorem m_mw57 : m_mthw (10, 23, 48) := m_in 194 (by decide +kernel) (by decide +kernel)
theorem m_mw58 : m_mthw (10, 32, 52) := m_in 203 (by decide +kernel) (by decide +kernel)
theorem m_mw59 : m_mthw (10, 45, 31) := m_in 206 (by decide +kernel) (by decide +kernel)
theorem m_mw60 : m_mthw (10, 50, 33) := m_in 223 (by decide +kernel) (by decide +kernel)
theorem m_mw61 : m_mthw (10, 58, 46) := m_in 263 (by decide +kernel) (by decide +kernel)
theorem m_mw62 : m_mthw (10, 61, 45) := m_in 260 (by decide +kernel) (by decide +kernel)
theorem m_mw63 : m_mthw (10, 64, 55) := m_in 276 (by decide +kernel) (by decide +kernel)
theorem m_mw64 : m_mthw (10, 68, 56) := m_in 273 (by decide +kernel) (by decide +kernel)
theorem m_mw65 : m_mthw (10, 72, 57) := m_in 270 (by decide +kernel) (by decide +kernel)
theorem m_mw66 : m_mthw (10, 76, 35) := m_in 279 (by decide +kernel) (by decide +kernel)
theorem m_mw67 : m_mthw (10, 80, 37) := m_in 305 (by decide +kernel) (by decide +kernel)
theorem m_mw68 : m_mthw (10, 83, 54) := m_in 314 (by decide +kernel) (by decide +kernel)
theorem m_mw69 : m_mthw (10, 87, 36) := m_in 321 (by decide +kernel) (by decide +kernel)
theorem m_mw70 : m_mthw (10, 90, 34) := m_in 236 (by decide +kernel) (by decide +kernel)
theorem m_mw71 : m_mthw (10, 93, 58) := m_in 267 (by decide +kernel) (by decide +kernel)
theorem m_mw72 : m_mthw (10, 97, 59) := m_in 318 (by decide +kernel) (by decide +kernel)
theorem m_mw73 : m_mthw (10, 103, 50) := m_in 331 (by decide +kernel) (by decide +kernel)
set_option maxRecDepth 100000 in
theorem m_mths_w : ∀ q ∈ m_mths, m_mthw q := List.forall_mem_cons.mpr ⟨m_mw0, List.forall_mem_cons.mpr ⟨m_mw1, List.forall_mem_cons.mpr ⟨m_mw2, List.forall_mem_cons.mpr ⟨m_mw3, List.forall_mem_cons.mpr ⟨m_mw4, List.forall_mem_cons.mpr ⟨m_mw5, List.forall_mem_cons.mpr ⟨m_mw6, List.forall_mem_cons.mpr ⟨m_mw7, List.forall_mem_cons.mpr ⟨m_mw8, List.forall_mem_cons.mpr ⟨m_mw9, List.forall_mem_cons.mpr ⟨m_mw10, List.forall_mem_cons.mpr ⟨m_mw11, List.forall_mem_cons.mpr ⟨m_mw12, List.forall_mem_cons.mpr ⟨m_mw13, List.forall_mem_cons.mpr ⟨m_mw14, List.forall_mem_cons.mpr ⟨m_mw15, List.forall_mem_cons.mpr ⟨m_mw16, List.forall_mem_cons.mpr ⟨m_mw17, List.forall_mem_cons.mpr ⟨m_mw18, List.forall_mem_cons.mpr ⟨m_mw19, List.forall_mem_cons.mpr ⟨m_mw20, List.forall_mem_cons.mpr ⟨m_mw21, List.forall_mem_cons.mpr ⟨m_mw22, List.forall_mem_cons.mpr ⟨m_mw23, List.forall_mem_cons.mpr ⟨m_mw24, List.forall_mem_cons.mpr ⟨m_mw25, List.forall_mem_cons.mpr ⟨m_mw26, List.forall_mem_cons.mpr ⟨m_mw27, List.forall_mem_cons.mpr ⟨m_mw28, List.forall_mem_cons.mpr ⟨m_mw29, List.forall_mem_cons.mpr ⟨m_mw30, List.forall_mem_cons.mpr ⟨m_mw31, List.forall_mem_cons.mpr ⟨m_mw32, List.forall_mem_cons.mpr ⟨m_mw33, List.forall_mem_cons.mpr ⟨m_mw34, List.forall_mem_cons.mpr ⟨m_mw35, List.forall_mem_cons.mpr ⟨m_mw36, List.forall_mem_cons.mpr ⟨m_mw37, List.forall_mem_cons.mpr ⟨m_mw38, List.forall_mem_cons.mpr ⟨m_mw39, List.forall_mem_cons.mpr ⟨m_mw40, List.forall_mem_cons.mpr ⟨m_mw41, List.forall_mem_cons.mpr ⟨m_mw42, List.forall_mem_cons.mpr ⟨m_mw43, List.forall_mem_cons.mpr ⟨m_mw44, List.forall_mem_cons.mpr ⟨m_mw45, List.forall_mem_cons.mpr ⟨m_mw46, List.forall_mem_cons.mpr ⟨m_mw47, List.forall_mem_cons.mpr ⟨m_mw48, List.forall_mem_cons.mpr ⟨m_mw49, List.forall_mem_cons.mpr ⟨m_mw50, List.forall_mem_cons.mpr ⟨m_mw51, List.forall_mem_cons.mpr ⟨m_mw52, List.forall_mem_cons.mpr ⟨m_mw53, List.forall_mem_cons.mpr ⟨m_mw54, List.forall_mem_cons.mpr ⟨m_mw55, List.forall_mem_cons.mpr ⟨m_mw56, List.forall_mem_cons.mpr ⟨m_mw57, List.forall_mem_cons.mpr ⟨m_mw58, List.forall_mem_cons.mpr ⟨m_mw59, List.forall_mem_cons.mpr ⟨m_mw60, List.forall_mem_cons.mpr ⟨m_mw61, List.forall_mem_cons.mpr ⟨m_mw62, List.forall_mem_cons.mpr ⟨m_mw63, List.forall_mem_cons.mpr ⟨m_mw64, List.forall_mem_cons.mpr ⟨m_mw65, List.forall_mem_cons.mpr ⟨m_mw66, List.forall_mem_cons.mpr ⟨m_mw67, List.forall_mem_cons.mpr ⟨m_mw68, List.forall_mem_cons.mpr ⟨m_mw69, List.forall_mem_cons.mpr ⟨m_mw70, List.forall_mem_cons.mpr ⟨m_mw71, List.forall_mem_cons.mpr ⟨m_mw72, List.forall_mem_cons.mpr ⟨m_mw73, fun _ h => absurd h List.not_mem_nil⟩⟩⟩⟩⟩⟩⟩⟩⟩⟩⟩⟩⟩⟩⟩⟩⟩⟩⟩⟩⟩⟩⟩⟩⟩⟩⟩⟩⟩⟩⟩⟩⟩⟩⟩⟩⟩⟩⟩⟩⟩⟩⟩⟩⟩⟩⟩⟩⟩⟩⟩⟩⟩⟩⟩⟩⟩⟩⟩⟩⟩⟩⟩⟩⟩⟩⟩⟩⟩⟩⟩⟩⟩⟩
def m_cstw (q : Nat × Nat × Nat × Int) : Prop := (q.2.2.1 = 0 → Cond.constant (m_cn.getD q.1 "") q.2.1 (Int32.ofInt q.2.2.2) ∈ lw_g) ∧ (¬ q.2.2.1 = 0 → Cond.constantFloat (m_cn.getD q.1 "") q.2.1 (UInt32.ofNat q.2.2.2.toNat) ∈ lw_g)
theorem m_cw0 : m_cstw (10, 86, 0, -1000001) := ⟨fun _ => m_in 266 (by decide +kernel) (by decide +kernel), fun h => absurd rfl h⟩
theorem m_cw1 : m_cstw (6, 46, 0, -1000001) := ⟨fun _ => m_in 137 (by decide +kernel) (by decide +kernel), fun h => absurd rfl h⟩
theorem m_cw2 : m_cstw (6, 61, 0, -1000002) := ⟨fun _ => m_in 210 (by decide +kernel) (by decide +kernel), fun h => absurd rfl h⟩
theorem m_cw3 : m_cstw (6, 100, 0, -1000004) := ⟨fun _ => m_in 259 (by decide +kernel) (by decide +kernel), fun h => absurd rfl h⟩
theorem m_cw4 : m_cstw (6, 147, 1, 1090519040) := ⟨fun h => absurd h (by decide), fun _ => m_in 309 (by decide +kernel) (by decide +kernel)⟩
theorem m_cw5 : m_cstw (6, 186, 1, 1258291200) := ⟨fun h => absurd h (by decide), fun _ => m_in 313 (by decide +kernel) (by decide +kernel)⟩
theorem m_cw6 : m_cstw (8, 265, 0, 1431655765) := ⟨fun _ => m_in 299 (by decide +kernel) (by decide +kernel), fun h => absurd rfl h⟩
theorem m_cw7 : m_cstw (8, 266, 0, 858993459) := ⟨fun _ => m_in 300 (by decide +kernel) (by decide +kernel), fun h => absurd rfl h⟩
theorem m_cw8 : m_cstw (8, 267, 0, 252645135) := ⟨fun _ => m_in 301 (by decide +kernel) (by decide +kernel), fun h => absurd rfl h⟩
theorem m_cw9 : m_cstw (10, 7, 0, 40503) := ⟨fun _ => m_in 183 (by decide +kernel) (by decide +kernel), fun h => absurd rfl h⟩
theorem m_cw10 : m_cstw (10, 8, 0, 2147483647) := ⟨fun _ => m_in 187 (by decide +kernel) (by decide +kernel), fun h => absurd rfl h⟩
theorem m_cw11 : m_cstw (10, 27, 0, 10000000) := ⟨fun _ => m_in 202 (by decide +kernel) (by decide +kernel), fun h => absurd rfl h⟩
theorem m_cw12 : m_cstw (10, 49, 0, -1000002) := ⟨fun _ => m_in 219 (by decide +kernel) (by decide +kernel), fun h => absurd rfl h⟩
theorem m_cw13 : m_cstw (10, 57, 0, 8388608) := ⟨fun _ => m_in 317 (by decide +kernel) (by decide +kernel), fun h => absurd rfl h⟩
theorem m_cw14 : m_cstw (10, 79, 0, -1000004) := ⟨fun _ => m_in 235 (by decide +kernel) (by decide +kernel), fun h => absurd rfl h⟩
set_option maxRecDepth 100000 in
theorem m_csts_w : ∀ q ∈ m_csts, m_cstw q := List.forall_mem_cons.mpr ⟨m_cw0, List.forall_mem_cons.mpr ⟨m_cw1, List.forall_mem_cons.mpr ⟨m_cw2, List.forall_mem_cons.mpr ⟨m_cw3, List.forall_mem_cons.mpr ⟨m_cw4, List.forall_mem_cons.mpr ⟨m_cw5, List.forall_mem_cons.mpr ⟨m_cw6, List.forall_mem_cons.mpr ⟨m_cw7, List.forall_mem_cons.mpr ⟨m_cw8, List.forall_mem_cons.mpr ⟨m_cw9, List.forall_mem_cons.mpr ⟨m_cw10, List.forall_mem_cons.mpr ⟨m_cw11, List.forall_mem_cons.mpr ⟨m_cw12, List.forall_mem_cons.mpr ⟨m_cw13, List.forall_mem_cons.mpr ⟨m_cw14, fun _ h => absurd h List.not_mem_nil⟩⟩⟩⟩⟩⟩⟩⟩⟩⟩⟩⟩⟩⟩⟩
def m_csllw (q : Nat × Nat × Int) : Prop := Cond.constantLong (m_cn.getD q.1 "") q.2.1 (Int64.ofInt q.2.2) ∈ lw_g
theorem m_kw0 : m_csllw (10, 9, 15) := m_in 197 (by decide +kernel) (by decide +kernel)
theorem m_kw1 : m_csllw (10, 11, -1) := m_in 198 (by decide +kernel) (by decide +kernel)
set_option maxRecDepth 100000 in
theorem m_cstl_w : ∀ q ∈ m_cstl, m_csllw q := List.forall_mem_cons.mpr ⟨m_kw0, List.forall_mem_cons.mpr ⟨m_kw1, fun _ h => absurd h List.not_mem_nil⟩⟩
def m_clsw (q : Nat × Nat × Nat) : Prop := ∃ r : vw_C, vwCl[q.2.2]? = some r ∧ Cond.classLink (m_cn.getD q.1 "") q.2.1 r.1 ∈ lw_g ∧ Cond.instantiable r.1 r.2.2 ∈ lw_g ∧ Cond.initialized r.1 ∈ lw_g
theorem m_lw0 : m_clsw (10, 41, 5) := ⟨(RX6, TX6, 5), rfl, m_in 12 (by decide +kernel) (by decide +kernel), m_in 13 (by decide +kernel) (by decide +kernel), m_in 3 (by decide +kernel) (by decide +kernel)⟩
theorem m_lw1 : m_clsw (3, 9, 3) := ⟨(RX4, TX4, 2), rfl, m_in 26 (by decide +kernel) (by decide +kernel), m_in 27 (by decide +kernel) (by decide +kernel), m_in 5 (by decide +kernel) (by decide +kernel)⟩
theorem m_lw2 : m_clsw (6, 9, 2) := ⟨(RX3, TX3, 1), rfl, m_in 20 (by decide +kernel) (by decide +kernel), m_in 21 (by decide +kernel) (by decide +kernel), m_in 4 (by decide +kernel) (by decide +kernel)⟩
theorem m_lw3 : m_clsw (6, 21, 0) := ⟨(RX0, TX0, 3), rfl, m_in 61 (by decide +kernel) (by decide +kernel), m_in 62 (by decide +kernel) (by decide +kernel), m_in 6 (by decide +kernel) (by decide +kernel)⟩
theorem m_lw4 : m_clsw (6, 28, 4) := ⟨(RX5, TX5, 2), rfl, m_in 78 (by decide +kernel) (by decide +kernel), m_in 79 (by decide +kernel) (by decide +kernel), m_in 7 (by decide +kernel) (by decide +kernel)⟩
theorem m_lw5 : m_clsw (6, 35, 1) := ⟨(RX2, TX2, 6), rfl, m_in 92 (by decide +kernel) (by decide +kernel), m_in 93 (by decide +kernel) (by decide +kernel), m_in 8 (by decide +kernel) (by decide +kernel)⟩
set_option maxRecDepth 100000 in
theorem m_clss_w : ∀ q ∈ m_clss, m_clsw q := List.forall_mem_cons.mpr ⟨m_lw0, List.forall_mem_cons.mpr ⟨m_lw1, List.forall_mem_cons.mpr ⟨m_lw2, List.forall_mem_cons.mpr ⟨m_lw3, List.forall_mem_cons.mpr ⟨m_lw4, List.forall_mem_cons.mpr ⟨m_lw5, fun _ h => absurd h List.not_mem_nil⟩⟩⟩⟩⟩⟩
def m_metw (mi : Nat) : Prop := Cond.code (m_y mi) (m_cd mi) (m_ml mi) (m_ret mi) ∈ lw_g ∧ Cond.initialized (m_y mi).cls ∈ lw_g ∧ (m_kind mi = 0 → Cond.static (m_y mi) ∈ lw_g) ∧ (¬ m_kind mi = 0 → Cond.instanceMethod (m_y mi) ∈ lw_g) ∧ (m_kind mi = 1 → Cond.selects (m_y mi).cls (m_y mi) (m_y mi) ∈ lw_g) ∧ (m_kind mi = 2 → (m_y mi).name = "<init>" ∧ m_ret mi = none) ∧ ((m_y mi).cls = m_own mi ∧ (m_y mi).cls ≠ "java/lang/invoke/MethodHandle" ∧ (m_y mi).cls ≠ "java/lang/invoke/VarHandle" ∧ (parseMethodDescriptor (m_y mi).desc).map (fun d => d.parameters.length) = some (m_np mi)) ∧ plainFor (m_y mi) = true
theorem m_tw1 : m_metw 1 := ⟨m_in 65 (by decide +kernel) (by decide +kernel), m_in 6 (by decide +kernel) (by decide +kernel), (fun h => absurd h (by decide)), (fun _ => m_in 64 (by decide +kernel) (by decide +kernel)), (fun h => absurd h (by decide)), (fun _ => ⟨rfl, rfl⟩), ⟨rfl, (by decide +kernel), (by decide +kernel), (by decide +kernel)⟩, (by decide +kernel)⟩
theorem m_tw2 : m_metw 2 := ⟨m_in 141 (by decide +kernel) (by decide +kernel), m_in 6 (by decide +kernel) (by decide +kernel), (fun h => absurd h (by decide)), (fun _ => m_in 139 (by decide +kernel) (by decide +kernel)), (fun _ => m_in 140 (by decide +kernel) (by decide +kernel)), (fun h => absurd h (by decide)), ⟨rfl, (by decide +kernel), (by decide +kernel), (by decide +kernel)⟩, (by decide +kernel)⟩
theorem m_tw3 : m_metw 3 := ⟨m_in 145 (by decide +kernel) (by decide +kernel), m_in 6 (by decide +kernel) (by decide +kernel), (fun h => absurd h (by decide)), (fun _ => m_in 144 (by decide +kernel) (by decide +kernel)), (fun _ => m_in 0 (by decide +kernel) (by decide +kernel)), (fun h => absurd h (by decide)), ⟨rfl, (by decide +kernel), (by decide +kernel), (by decide +kernel)⟩, (by decide +kernel)⟩
theorem m_tw4 : m_metw 4 := ⟨m_in 285 (by decide +kernel) (by decide +kernel), m_in 9 (by decide +kernel) (by decide +kernel), (fun _ => m_in 284 (by decide +kernel) (by decide +kernel)), (fun h => absurd rfl h), (fun h => absurd h (by decide)), (fun h => absurd h (by decide)), ⟨rfl, (by decide +kernel), (by decide +kernel), (by decide +kernel)⟩, (by decide +kernel)⟩
theorem m_tw5 : m_metw 5 := ⟨m_in 304 (by decide +kernel) (by decide +kernel), m_in 9 (by decide +kernel) (by decide +kernel), (fun _ => m_in 303 (by decide +kernel) (by decide +kernel)), (fun h => absurd rfl h), (fun h => absurd h (by decide)), (fun h => absurd h (by decide)), ⟨rfl, (by decide +kernel), (by decide +kernel), (by decide +kernel)⟩, (by decide +kernel)⟩
theorem m_tw6 : m_metw 6 := ⟨m_in 288 (by decide +kernel) (by decide +kernel), m_in 9 (by decide +kernel) (by decide +kernel), (fun _ => m_in 287 (by decide +kernel) (by decide +kernel)), (fun h => absurd rfl h), (fun h => absurd h (by decide)), (fun h => absurd h (by decide)), ⟨rfl, (by decide +kernel), (by decide +kernel), (by decide +kernel)⟩, (by decide +kernel)⟩
theorem m_tw7 : m_metw 7 := ⟨m_in 327 (by decide +kernel) (by decide +kernel), m_in 9 (by decide +kernel) (by decide +kernel), (fun _ => m_in 326 (by decide +kernel) (by decide +kernel)), (fun h => absurd rfl h), (fun h => absurd h (by decide)), (fun h => absurd h (by decide)), ⟨rfl, (by decide +kernel), (by decide +kernel), (by decide +kernel)⟩, (by decide +kernel)⟩
theorem m_tw8 : m_metw 8 := ⟨m_in 330 (by decide +kernel) (by decide +kernel), m_in 9 (by decide +kernel) (by decide +kernel), (fun _ => m_in 329 (by decide +kernel) (by decide +kernel)), (fun h => absurd rfl h), (fun h => absurd h (by decide)), (fun h => absurd h (by decide)), ⟨rfl, (by decide +kernel), (by decide +kernel), (by decide +kernel)⟩, (by decide +kernel)⟩
theorem m_tw9 : m_metw 9 := ⟨m_in 293 (by decide +kernel) (by decide +kernel), m_in 9 (by decide +kernel) (by decide +kernel), (fun _ => m_in 292 (by decide +kernel) (by decide +kernel)), (fun h => absurd rfl h), (fun h => absurd h (by decide)), (fun h => absurd h (by decide)), ⟨rfl, (by decide +kernel), (by decide +kernel), (by decide +kernel)⟩, (by decide +kernel)⟩
theorem m_tw10 : m_metw 10 := ⟨m_in 96 (by decide +kernel) (by decide +kernel), m_in 8 (by decide +kernel) (by decide +kernel), (fun h => absurd h (by decide)), (fun _ => m_in 95 (by decide +kernel) (by decide +kernel)), (fun h => absurd h (by decide)), (fun _ => ⟨rfl, rfl⟩), ⟨rfl, (by decide +kernel), (by decide +kernel), (by decide +kernel)⟩, (by decide +kernel)⟩
theorem m_tw11 : m_metw 11 := ⟨m_in 24 (by decide +kernel) (by decide +kernel), m_in 4 (by decide +kernel) (by decide +kernel), (fun h => absurd h (by decide)), (fun _ => m_in 23 (by decide +kernel) (by decide +kernel)), (fun h => absurd h (by decide)), (fun _ => ⟨rfl, rfl⟩), ⟨rfl, (by decide +kernel), (by decide +kernel), (by decide +kernel)⟩, (by decide +kernel)⟩
theorem m_tw12 : m_metw 12 := ⟨m_in 170 (by decide +kernel) (by decide +kernel), m_in 4 (by decide +kernel) (by decide +kernel), (fun h => absurd h (by decide)), (fun _ => m_in 168 (by decide +kernel) (by decide +kernel)), (fun _ => m_in 169 (by decide +kernel) (by decide +kernel)), (fun h => absurd h (by decide)), ⟨rfl, (by decide +kernel), (by decide +kernel), (by decide +kernel)⟩, (by decide +kernel)⟩
theorem m_tw13 : m_metw 13 := ⟨m_in 30 (by decide +kernel) (by decide +kernel), m_in 5 (by decide +kernel) (by decide +kernel), (fun h => absurd h (by decide)), (fun _ => m_in 29 (by decide +kernel) (by decide +kernel)), (fun h => absurd h (by decide)), (fun _ => ⟨rfl, rfl⟩), ⟨rfl, (by decide +kernel), (by decide +kernel), (by decide +kernel)⟩, (by decide +kernel)⟩
theorem m_tw14 : m_metw 14 := ⟨m_in 157 (by decide +kernel) (by decide +kernel), m_in 5 (by decide +kernel) (by decide +kernel), (fun h => absurd h (by decide)), (fun _ => m_in 155 (by decide +kernel) (by decide +kernel)), (fun _ => m_in 156 (by decide +kernel) (by decide +kernel)), (fun h => absurd h (by decide)), ⟨rfl, (by decide +kernel), (by decide +kernel), (by decide +kernel)⟩, (by decide +kernel)⟩
theorem m_tw15 : m_metw 15 := ⟨m_in 243 (by decide +kernel) (by decide +kernel), m_in 5 (by decide +kernel) (by decide +kernel), (fun h => absurd h (by decide)), (fun _ => m_in 241 (by decide +kernel) (by decide +kernel)), (fun _ => m_in 242 (by decide +kernel) (by decide +kernel)), (fun h => absurd h (by decide)), ⟨rfl, (by decide +kernel), (by decide +kernel), (by decide +kernel)⟩, (by decide +kernel)⟩
theorem m_tw16 : m_metw 16 := ⟨m_in 247 (by decide +kernel) (by decide +kernel), m_in 5 (by decide +kernel) (by decide +kernel), (fun h => absurd h (by decide)), (fun _ => m_in 245 (by decide +kernel) (by decide +kernel)), (fun _ => m_in 246 (by decide +kernel) (by decide +kernel)), (fun h => absurd h (by decide)), ⟨rfl, (by decide +kernel), (by decide +kernel), (by decide +kernel)⟩, (by decide +kernel)⟩
theorem m_tw17 : m_metw 17 := ⟨m_in 161 (by decide +kernel) (by decide +kernel), m_in 5 (by decide +kernel) (by decide +kernel), (fun h => absurd h (by decide)), (fun _ => m_in 159 (by decide +kernel) (by decide +kernel)), (fun _ => m_in 160 (by decide +kernel) (by decide +kernel)), (fun h => absurd h (by decide)), ⟨rfl, (by decide +kernel), (by decide +kernel), (by decide +kernel)⟩, (by decide +kernel)⟩
theorem m_tw18 : m_metw 18 := ⟨m_in 255 (by decide +kernel) (by decide +kernel), m_in 5 (by decide +kernel) (by decide +kernel), (fun h => absurd h (by decide)), (fun _ => m_in 253 (by decide +kernel) (by decide +kernel)), (fun _ => m_in 254 (by decide +kernel) (by decide +kernel)), (fun h => absurd h (by decide)), ⟨rfl, (by decide +kernel), (by decide +kernel), (by decide +kernel)⟩, (by decide +kernel)⟩
theorem m_tw19 : m_metw 19 := ⟨m_in 251 (by decide +kernel) (by decide +kernel), m_in 5 (by decide +kernel) (by decide +kernel), (fun h => absurd h (by decide)), (fun _ => m_in 249 (by decide +kernel) (by decide +kernel)), (fun _ => m_in 250 (by decide +kernel) (by decide +kernel)), (fun h => absurd h (by decide)), ⟨rfl, (by decide +kernel), (by decide +kernel), (by decide +kernel)⟩, (by decide +kernel)⟩
theorem m_tw20 : m_metw 20 := ⟨m_in 42 (by decide +kernel) (by decide +kernel), m_in 5 (by decide +kernel) (by decide +kernel), (fun h => absurd h (by decide)), (fun _ => m_in 40 (by decide +kernel) (by decide +kernel)), (fun _ => m_in 41 (by decide +kernel) (by decide +kernel)), (fun h => absurd h (by decide)), ⟨rfl, (by decide +kernel), (by decide +kernel), (by decide +kernel)⟩, (by decide +kernel)⟩
theorem m_tw21 : m_metw 21 := ⟨m_in 35 (by decide +kernel) (by decide +kernel), m_in 5 (by decide +kernel) (by decide +kernel), (fun h => absurd h (by decide)), (fun _ => m_in 33 (by decide +kernel) (by decide +kernel)), (fun _ => m_in 34 (by decide +kernel) (by decide +kernel)), (fun h => absurd h (by decide)), ⟨rfl, (by decide +kernel), (by decide +kernel), (by decide +kernel)⟩, (by decide +kernel)⟩
theorem m_tw22 : m_metw 22 := ⟨m_in 214 (by decide +kernel) (by decide +kernel), m_in 5 (by decide +kernel) (by decide +kernel), (fun h => absurd h (by decide)), (fun _ => m_in 212 (by decide +kernel) (by decide +kernel)), (fun _ => m_in 213 (by decide +kernel) (by decide +kernel)), (fun h => absurd h (by decide)), ⟨rfl, (by decide +kernel), (by decide +kernel), (by decide +kernel)⟩, (by decide +kernel)⟩
theorem m_tw23 : m_metw 23 := ⟨m_in 230 (by decide +kernel) (by decide +kernel), m_in 5 (by decide +kernel) (by decide +kernel), (fun h => absurd h (by decide)), (fun _ => m_in 228 (by decide +kernel) (by decide +kernel)), (fun _ => m_in 229 (by decide +kernel) (by decide +kernel)), (fun h => absurd h (by decide)), ⟨rfl, (by decide +kernel), (by decide +kernel), (by decide +kernel)⟩, (by decide +kernel)⟩
theorem m_tw24 : m_metw 24 := ⟨m_in 174 (by decide +kernel) (by decide +kernel), m_in 5 (by decide +kernel) (by decide +kernel), (fun h => absurd h (by decide)), (fun _ => m_in 172 (by decide +kernel) (by decide +kernel)), (fun _ => m_in 173 (by decide +kernel) (by decide +kernel)), (fun h => absurd h (by decide)), ⟨rfl, (by decide +kernel), (by decide +kernel), (by decide +kernel)⟩, (by decide +kernel)⟩
theorem m_tw25 : m_metw 25 := ⟨m_in 179 (by decide +kernel) (by decide +kernel), m_in 5 (by decide +kernel) (by decide +kernel), (fun h => absurd h (by decide)), (fun _ => m_in 177 (by decide +kernel) (by decide +kernel)), (fun _ => m_in 178 (by decide +kernel) (by decide +kernel)), (fun h => absurd h (by decide)), ⟨rfl, (by decide +kernel), (by decide +kernel), (by decide +kernel)⟩, (by decide +kernel)⟩
theorem m_tw26 : m_metw 26 := ⟨m_in 218 (by decide +kernel) (by decide +kernel), m_in 5 (by decide +kernel) (by decide +kernel), (fun h => absurd h (by decide)), (fun _ => m_in 217 (by decide +kernel) (by decide +kernel)), (fun _ => m_in 1 (by decide +kernel) (by decide +kernel)), (fun h => absurd h (by decide)), ⟨rfl, (by decide +kernel), (by decide +kernel), (by decide +kernel)⟩, (by decide +kernel)⟩
theorem m_tw27 : m_metw 27 := ⟨m_in 38 (by decide +kernel) (by decide +kernel), m_in 5 (by decide +kernel) (by decide +kernel), (fun _ => m_in 37 (by decide +kernel) (by decide +kernel)), (fun h => absurd rfl h), (fun h => absurd h (by decide)), (fun h => absurd h (by decide)), ⟨rfl, (by decide +kernel), (by decide +kernel), (by decide +kernel)⟩, (by decide +kernel)⟩
theorem m_tw28 : m_metw 28 := ⟨m_in 82 (by decide +kernel) (by decide +kernel), m_in 7 (by decide +kernel) (by decide +kernel), (fun h => absurd h (by decide)), (fun _ => m_in 81 (by decide +kernel) (by decide +kernel)), (fun h => absurd h (by decide)), (fun _ => ⟨rfl, rfl⟩), ⟨rfl, (by decide +kernel), (by decide +kernel), (by decide +kernel)⟩, (by decide +kernel)⟩
theorem m_tw29 : m_metw 29 := ⟨m_in 16 (by decide +kernel) (by decide +kernel), m_in 3 (by decide +kernel) (by decide +kernel), (fun h => absurd h (by decide)), (fun _ => m_in 15 (by decide +kernel) (by decide +kernel)), (fun h => absurd h (by decide)), (fun _ => ⟨rfl, rfl⟩), ⟨rfl, (by decide +kernel), (by decide +kernel), (by decide +kernel)⟩, (by decide +kernel)⟩
theorem m_tw30 : m_metw 30 := ⟨m_in 133 (by decide +kernel) (by decide +kernel), m_in 3 (by decide +kernel) (by decide +kernel), (fun h => absurd h (by decide)), (fun _ => m_in 131 (by decide +kernel) (by decide +kernel)), (fun _ => m_in 132 (by decide +kernel) (by decide +kernel)), (fun h => absurd h (by decide)), ⟨rfl, (by decide +kernel), (by decide +kernel), (by decide +kernel)⟩, (by decide +kernel)⟩
theorem m_tw31 : m_metw 31 := ⟨m_in 209 (by decide +kernel) (by decide +kernel), m_in 3 (by decide +kernel) (by decide +kernel), (fun h => absurd h (by decide)), (fun _ => m_in 207 (by decide +kernel) (by decide +kernel)), (fun _ => m_in 208 (by decide +kernel) (by decide +kernel)), (fun h => absurd h (by decide)), ⟨rfl, (by decide +kernel), (by decide +kernel), (by decide +kernel)⟩, (by decide +kernel)⟩
theorem m_tw32 : m_metw 32 := ⟨m_in 153 (by decide +kernel) (by decide +kernel), m_in 3 (by decide +kernel) (by decide +kernel), (fun h => absurd h (by decide)), (fun _ => m_in 151 (by decide +kernel) (by decide +kernel)), (fun _ => m_in 152 (by decide +kernel) (by decide +kernel)), (fun h => absurd h (by decide)), ⟨rfl, (by decide +kernel), (by decide +kernel), (by decide +kernel)⟩, (by decide +kernel)⟩
theorem m_tw33 : m_metw 33 := ⟨m_in 226 (by decide +kernel) (by decide +kernel), m_in 3 (by decide +kernel) (by decide +kernel), (fun h => absurd h (by decide)), (fun _ => m_in 224 (by decide +kernel) (by decide +kernel)), (fun _ => m_in 225 (by decide +kernel) (by decide +kernel)), (fun h => absurd h (by decide)), ⟨rfl, (by decide +kernel), (by decide +kernel), (by decide +kernel)⟩, (by decide +kernel)⟩
theorem m_tw34 : m_metw 34 := ⟨m_in 239 (by decide +kernel) (by decide +kernel), m_in 3 (by decide +kernel) (by decide +kernel), (fun h => absurd h (by decide)), (fun _ => m_in 237 (by decide +kernel) (by decide +kernel)), (fun _ => m_in 238 (by decide +kernel) (by decide +kernel)), (fun h => absurd h (by decide)), ⟨rfl, (by decide +kernel), (by decide +kernel), (by decide +kernel)⟩, (by decide +kernel)⟩
theorem m_tw35 : m_metw 35 := ⟨m_in 282 (by decide +kernel) (by decide +kernel), m_in 3 (by decide +kernel) (by decide +kernel), (fun h => absurd h (by decide)), (fun _ => m_in 280 (by decide +kernel) (by decide +kernel)), (fun _ => m_in 281 (by decide +kernel) (by decide +kernel)), (fun h => absurd h (by decide)), ⟨rfl, (by decide +kernel), (by decide +kernel), (by decide +kernel)⟩, (by decide +kernel)⟩
theorem m_tw36 : m_metw 36 := ⟨m_in 324 (by decide +kernel) (by decide +kernel), m_in 3 (by decide +kernel) (by decide +kernel), (fun h => absurd h (by decide)), (fun _ => m_in 322 (by decide +kernel) (by decide +kernel)), (fun _ => m_in 323 (by decide +kernel) (by decide +kernel)), (fun h => absurd h (by decide)), ⟨rfl, (by decide +kernel), (by decide +kernel), (by decide +kernel)⟩, (by decide +kernel)⟩
theorem m_tw37 : m_metw 37 := ⟨m_in 308 (by decide +kernel) (by decide +kernel), m_in 3 (by decide +kernel) (by decide +kernel), (fun h => absurd h (by decide)), (fun _ => m_in 306 (by decide +kernel) (by decide +kernel)), (fun _ => m_in 307 (by decide +kernel) (by decide +kernel)), (fun h => absurd h (by decide)), ⟨rfl, (by decide +kernel), (by decide +kernel), (by decide +kernel)⟩, (by decide +kernel)⟩
theorem m_tw38 : m_metw 38 := ⟨m_in 166 (by decide +kernel) (by decide +kernel), m_in 3 (by decide +kernel) (by decide +kernel), (fun h => absurd h (by decide)), (fun _ => m_in 164 (by decide +kernel) (by decide +kernel)), (fun _ => m_in 165 (by decide +kernel) (by decide +kernel)), (fun h => absurd h (by decide)), ⟨rfl, (by decide +kernel), (by decide +kernel), (by decide +kernel)⟩, (by decide +kernel)⟩
theorem m_tw39 : m_metw 39 := ⟨m_in 136 (by decide +kernel) (by decide +kernel), m_in 3 (by decide +kernel) (by decide +kernel), (fun _ => m_in 135 (by decide +kernel) (by decide +kernel)), (fun h => absurd rfl h), (fun h => absurd h (by decide)), (fun h => absurd h (by decide)), ⟨rfl, (by decide +kernel), (by decide +kernel), (by decide +kernel)⟩, (by decide +kernel)⟩
theorem m_tw40 : m_metw 40 := ⟨m_in 258 (by decide +kernel) (by decide +kernel), m_in 3 (by decide +kernel) (by decide +kernel), (fun _ => m_in 257 (by decide +kernel) (by decide +kernel)), (fun h => absurd rfl h), (fun h => absurd h (by decide)), (fun h => absurd h (by decide)), ⟨rfl, (by decide +kernel), (by decide +kernel), (by decide +kernel)⟩, (by decide +kernel)⟩
theorem m_tw41 : m_metw 41 := ⟨m_in 312 (by decide +kernel) (by decide +kernel), m_in 3 (by decide +kernel) (by decide +kernel), (fun _ => m_in 311 (by decide +kernel) (by decide +kernel)), (fun h => absurd rfl h), (fun h => absurd h (by decide)), (fun h => absurd h (by decide)), ⟨rfl, (by decide +kernel), (by decide +kernel), (by decide +kernel)⟩, (by decide +kernel)⟩
theorem m_tw42 : m_metw 42 := ⟨m_in 298 (by decide +kernel) (by decide +kernel), m_in 10 (by decide +kernel) (by decide +kernel), (fun _ => m_in 297 (by decide +kernel) (by decide +kernel)), (fun h => absurd rfl h), (fun h => absurd h (by decide)), (fun h => absurd h (by decide)), ⟨rfl, (by decide +kernel), (by decide +kernel), (by decide +kernel)⟩, (by decide +kernel)⟩
theorem m_tw43 : m_metw 43 := ⟨m_in 182 (by decide +kernel) (by decide +kernel), m_in 2 (by decide +kernel) (by decide +kernel), (fun _ => m_in 181 (by decide +kernel) (by decide +kernel)), (fun h => absurd rfl h), (fun h => absurd h (by decide)), (fun h => absurd h (by decide)), ⟨rfl, (by decide +kernel), (by decide +kernel), (by decide +kernel)⟩, (by decide +kernel)⟩
theorem m_tw44 : m_metw 44 := ⟨m_in 186 (by decide +kernel) (by decide +kernel), m_in 2 (by decide +kernel) (by decide +kernel), (fun _ => m_in 185 (by decide +kernel) (by decide +kernel)), (fun h => absurd rfl h), (fun h => absurd h (by decide)), (fun h => absurd h (by decide)), ⟨rfl, (by decide +kernel), (by decide +kernel), (by decide +kernel)⟩, (by decide +kernel)⟩
theorem m_tw45 : m_metw 45 := ⟨m_in 262 (by decide +kernel) (by decide +kernel), m_in 2 (by decide +kernel) (by decide +kernel), (fun _ => m_in 261 (by decide +kernel) (by decide +kernel)), (fun h => absurd rfl h), (fun h => absurd h (by decide)), (fun h => absurd h (by decide)), ⟨rfl, (by decide +kernel), (by decide +kernel), (by decide +kernel)⟩, (by decide +kernel)⟩
theorem m_tw46 : m_metw 46 := ⟨m_in 265 (by decide +kernel) (by decide +kernel), m_in 2 (by decide +kernel) (by decide +kernel), (fun _ => m_in 264 (by decide +kernel) (by decide +kernel)), (fun h => absurd rfl h), (fun h => absurd h (by decide)), (fun h => absurd h (by decide)), ⟨rfl, (by decide +kernel), (by decide +kernel), (by decide +kernel)⟩, (by decide +kernel)⟩
theorem m_tw47 : m_metw 47 := ⟨m_in 222 (by decide +kernel) (by decide +kernel), m_in 2 (by decide +kernel) (by decide +kernel), (fun _ => m_in 221 (by decide +kernel) (by decide +kernel)), (fun h => absurd rfl h), (fun h => absurd h (by decide)), (fun h => absurd h (by decide)), ⟨rfl, (by decide +kernel), (by decide +kernel), (by decide +kernel)⟩, (by decide +kernel)⟩
theorem m_tw48 : m_metw 48 := ⟨m_in 196 (by decide +kernel) (by decide +kernel), m_in 2 (by decide +kernel) (by decide +kernel), (fun _ => m_in 195 (by decide +kernel) (by decide +kernel)), (fun h => absurd rfl h), (fun h => absurd h (by decide)), (fun h => absurd h (by decide)), ⟨rfl, (by decide +kernel), (by decide +kernel), (by decide +kernel)⟩, (by decide +kernel)⟩
theorem m_tw49 : m_metw 49 := ⟨m_in 193 (by decide +kernel) (by decide +kernel), m_in 2 (by decide +kernel) (by decide +kernel), (fun _ => m_in 192 (by decide +kernel) (by decide +kernel)), (fun h => absurd rfl h), (fun h => absurd h (by decide)), (fun h => absurd h (by decide)), ⟨rfl, (by decide +kernel), (by decide +kernel), (by decide +kernel)⟩, (by decide +kernel)⟩
theorem m_tw50 : m_metw 50 := ⟨m_in 333 (by decide +kernel) (by decide +kernel), m_in 2 (by decide +kernel) (by decide +kernel), (fun _ => m_in 332 (by decide +kernel) (by decide +kernel)), (fun h => absurd rfl h), (fun h => absurd h (by decide)), (fun h => absurd h (by decide)), ⟨rfl, (by decide +kernel), (by decide +kernel), (by decide +kernel)⟩, (by decide +kernel)⟩
theorem m_tw51 : m_metw 51 := ⟨m_in 190 (by decide +kernel) (by decide +kernel), m_in 2 (by decide +kernel) (by decide +kernel), (fun _ => m_in 189 (by decide +kernel) (by decide +kernel)), (fun h => absurd rfl h), (fun h => absurd h (by decide)), (fun h => absurd h (by decide)), ⟨rfl, (by decide +kernel), (by decide +kernel), (by decide +kernel)⟩, (by decide +kernel)⟩
theorem m_tw52 : m_metw 52 := ⟨m_in 205 (by decide +kernel) (by decide +kernel), m_in 2 (by decide +kernel) (by decide +kernel), (fun _ => m_in 204 (by decide +kernel) (by decide +kernel)), (fun h => absurd rfl h), (fun h => absurd h (by decide)), (fun h => absurd h (by decide)), ⟨rfl, (by decide +kernel), (by decide +kernel), (by decide +kernel)⟩, (by decide +kernel)⟩
theorem m_tw53 : m_metw 53 := ⟨m_in 201 (by decide +kernel) (by decide +kernel), m_in 2 (by decide +kernel) (by decide +kernel), (fun _ => m_in 200 (by decide +kernel) (by decide +kernel)), (fun h => absurd rfl h), (fun h => absurd h (by decide)), (fun h => absurd h (by decide)), ⟨rfl, (by decide +kernel), (by decide +kernel), (by decide +kernel)⟩, (by decide +kernel)⟩
theorem m_tw54 : m_metw 54 := ⟨m_in 316 (by decide +kernel) (by decide +kernel), m_in 2 (by decide +kernel) (by decide +kernel), (fun _ => m_in 315 (by decide +kernel) (by decide +kernel)), (fun h => absurd rfl h), (fun h => absurd h (by decide)), (fun h => absurd h (by decide)), ⟨rfl, (by decide +kernel), (by decide +kernel), (by decide +kernel)⟩, (by decide +kernel)⟩
theorem m_tw55 : m_metw 55 := ⟨m_in 278 (by decide +kernel) (by decide +kernel), m_in 2 (by decide +kernel) (by decide +kernel), (fun _ => m_in 277 (by decide +kernel) (by decide +kernel)), (fun h => absurd rfl h), (fun h => absurd h (by decide)), (fun h => absurd h (by decide)), ⟨rfl, (by decide +kernel), (by decide +kernel), (by decide +kernel)⟩, (by decide +kernel)⟩
theorem m_tw56 : m_metw 56 := ⟨m_in 275 (by decide +kernel) (by decide +kernel), m_in 2 (by decide +kernel) (by decide +kernel), (fun _ => m_in 274 (by decide +kernel) (by decide +kernel)), (fun h => absurd rfl h), (fun h => absurd h (by decide)), (fun h => absurd h (by decide)), ⟨rfl, (by decide +kernel), (by decide +kernel), (by decide +kernel)⟩, (by decide +kernel)⟩
theorem m_tw57 : m_metw 57 := ⟨m_in 272 (by decide +kernel) (by decide +kernel), m_in 2 (by decide +kernel) (by decide +kernel), (fun _ => m_in 271 (by decide +kernel) (by decide +kernel)), (fun h => absurd rfl h), (fun h => absurd h (by decide)), (fun h => absurd h (by decide)), ⟨rfl, (by decide +kernel), (by decide +kernel), (by decide +kernel)⟩, (by decide +kernel)⟩
theorem m_tw58 : m_metw 58 := ⟨m_in 269 (by decide +kernel) (by decide +kernel), m_in 2 (by decide +kernel) (by decide +kernel), (fun _ => m_in 268 (by decide +kernel) (by decide +kernel)), (fun h => absurd rfl h), (fun h => absurd h (by decide)), (fun h => absurd h (by decide)), ⟨rfl, (by decide +kernel), (by decide +kernel), (by decide +kernel)⟩, (by decide +kernel)⟩
theorem m_tw59 : m_metw 59 := ⟨m_in 320 (by decide +kernel) (by decide +kernel), m_in 2 (by decide +kernel) (by decide +kernel), (fun _ => m_in 319 (by decide +kernel) (by decide +kernel)), (fun h => absurd rfl h), (fun h => absurd h (by decide)), (fun h => absurd h (by decide)), ⟨rfl, (by decide +kernel), (by decide +kernel), (by decide +kernel)⟩, (by decide +kernel)⟩
theorem m_tw60 : m_metw 60 := ⟨m_in 234 (by decide +kernel) (by decide +kernel), m_in 2 (by decide +kernel) (by decide +kernel), (fun _ => m_in 233 (by decide +kernel) (by decide +kernel)), (fun h => absurd rfl h), (fun h => absurd h (by decide)), (fun h => absurd h (by decide)), ⟨rfl, (by decide +kernel), (by decide +kernel), (by decide +kernel)⟩, (by decide +kernel)⟩
theorem m_tw61 : m_metw 61 := ⟨m_in 201 (by decide +kernel) (by decide +kernel), m_in 2 (by decide +kernel) (by decide +kernel), (fun _ => m_in 200 (by decide +kernel) (by decide +kernel)), (fun h => absurd rfl h), (fun h => absurd h (by decide)), (fun h => absurd h (by decide)), ⟨rfl, (by decide +kernel), (by decide +kernel), (by decide +kernel)⟩, (by decide +kernel)⟩
theorem m_met_w : ∀ mi, 0 < mi → mi < 62 → m_metw mi := by
  intro mi h0 h1
  match mi, h0, h1 with
  | 1, _, _ => exact m_tw1
  | 2, _, _ => exact m_tw2
  | 3, _, _ => exact m_tw3
  | 4, _, _ => exact m_tw4
  | 5, _, _ => exact m_tw5
  | 6, _, _ => exact m_tw6
  | 7, _, _ => exact m_tw7
  | 8, _, _ => exact m_tw8
  | 9, _, _ => exact m_tw9
  | 10, _, _ => exact m_tw10
  | 11, _, _ => exact m_tw11
  | 12, _, _ => exact m_tw12
  | 13, _, _ => exact m_tw13
  | 14, _, _ => exact m_tw14
  | 15, _, _ => exact m_tw15
  | 16, _, _ => exact m_tw16
  | 17, _, _ => exact m_tw17
  | 18, _, _ => exact m_tw18
  | 19, _, _ => exact m_tw19
  | 20, _, _ => exact m_tw20
  | 21, _, _ => exact m_tw21
  | 22, _, _ => exact m_tw22
  | 23, _, _ => exact m_tw23
  | 24, _, _ => exact m_tw24
  | 25, _, _ => exact m_tw25
  | 26, _, _ => exact m_tw26
  | 27, _, _ => exact m_tw27
  | 28, _, _ => exact m_tw28
  | 29, _, _ => exact m_tw29
  | 30, _, _ => exact m_tw30
  | 31, _, _ => exact m_tw31
  | 32, _, _ => exact m_tw32
  | 33, _, _ => exact m_tw33
  | 34, _, _ => exact m_tw34
  | 35, _, _ => exact m_tw35
  | 36, _, _ => exact m_tw36
  | 37, _, _ => exact m_tw37
  | 38, _, _ => exact m_tw38
  | 39, _, _ => exact m_tw39
  | 40, _, _ => exact m_tw40
  | 41, _, _ => exact m_tw41
  | 42, _, _ => exact m_tw42
  | 43, _, _ => exact m_tw43
  | 44, _, _ => exact m_tw44
  | 45, _, _ => exact m_tw45
  | 46, _, _ => exact m_tw46
  | 47, _, _ => exact m_tw47
  | 48, _, _ => exact m_tw48
  | 49, _, _ => exact m_tw49
  | 50, _, _ => exact m_tw50
  | 51, _, _ => exact m_tw51
  | 52, _, _ => exact m_tw52
  | 53, _, _ => exact m_tw53
  | 54, _, _ => exact m_tw54
  | 55, _, _ => exact m_tw55
  | 56, _, _ => exact m_tw56
  | 57, _, _ => exact m_tw57
  | 58, _, _ => exact m_tw58
  | 59, _, _ => exact m_tw59
  | 60, _, _ => exact m_tw60
  | 61, _, _ => exact m_tw61
  | n + 62, _, h => exact absurd h (by omega)
theorem m_arr_w : Cond.arrayClass .int ∈ lw_g ∧ Cond.arrayClass .char ∈ lw_g ∧ Cond.arrayClass .long ∈ lw_g := ⟨m_in 55 (by decide +kernel) (by decide +kernel), m_in 91 (by decide +kernel) (by decide +kernel), m_in 231 (by decide +kernel) (by decide +kernel)⟩
theorem m_acp_w : Cond.native arraycopyName ∈ lw_g ∧ Cond.static arraycopyName ∈ lw_g ∧ Cond.initialized "java/lang/System" ∈ lw_g := ⟨m_in 148 (by decide +kernel) (by decide +kernel), m_in 147 (by decide +kernel) (by decide +kernel), m_in 11 (by decide +kernel) (by decide +kernel)⟩
theorem m_obj_w : Cond.instanceMethod objectInit ∈ lw_g ∧ Cond.code objectInit ⟨#[0xb1]⟩ 1 none ∈ lw_g := ⟨m_in 18 (by decide +kernel) (by decide +kernel), m_in 19 (by decide +kernel) (by decide +kernel)⟩
theorem m_uw0 : ∀ w ∈ u_ws RX0 TX0 3, w ∈ lw_g := by
  have h : (u_ws RX0 TX0 3).all (fun w => decide (w ∈ lw_tbl) && goodWord w) = true := by decide +kernel
  intro w hw
  have h1 := List.all_eq_true.mp h w hw
  simp only [Bool.and_eq_true, decide_eq_true_eq] at h1
  exact List.mem_filter.mpr h1
theorem m_uw1 : ∀ w ∈ u_ws RX2 TX2 6, w ∈ lw_g := by
  have h : (u_ws RX2 TX2 6).all (fun w => decide (w ∈ lw_tbl) && goodWord w) = true := by decide +kernel
  intro w hw
  have h1 := List.all_eq_true.mp h w hw
  simp only [Bool.and_eq_true, decide_eq_true_eq] at h1
  exact List.mem_filter.mpr h1
theorem m_uw2 : ∀ w ∈ u_ws RX3 TX3 1, w ∈ lw_g := by
  have h : (u_ws RX3 TX3 1).all (fun w => decide (w ∈ lw_tbl) && goodWord w) = true := by decide +kernel
  intro w hw
  have h1 := List.all_eq_true.mp h w hw
  simp only [Bool.and_eq_true, decide_eq_true_eq] at h1
  exact List.mem_filter.mpr h1
theorem m_uw3 : ∀ w ∈ u_ws RX4 TX4 2, w ∈ lw_g := by
  have h : (u_ws RX4 TX4 2).all (fun w => decide (w ∈ lw_tbl) && goodWord w) = true := by decide +kernel
  intro w hw
  have h1 := List.all_eq_true.mp h w hw
  simp only [Bool.and_eq_true, decide_eq_true_eq] at h1
  exact List.mem_filter.mpr h1
theorem m_uw4 : ∀ w ∈ u_ws RX5 TX5 2, w ∈ lw_g := by
  have h : (u_ws RX5 TX5 2).all (fun w => decide (w ∈ lw_tbl) && goodWord w) = true := by decide +kernel
  intro w hw
  have h1 := List.all_eq_true.mp h w hw
  simp only [Bool.and_eq_true, decide_eq_true_eq] at h1
  exact List.mem_filter.mpr h1
theorem m_uw5 : ∀ w ∈ u_ws RX6 TX6 5, w ∈ lw_g := by
  have h : (u_ws RX6 TX6 5).all (fun w => decide (w ∈ lw_tbl) && goodWord w) = true := by decide +kernel
  intro w hw
  have h1 := List.all_eq_true.mp h w hw
  simp only [Bool.and_eq_true, decide_eq_true_eq] at h1
  exact List.mem_filter.mpr h1
end
section
/-! A pure picture of the machine: ints are whole numbers that stand for their class modulo 2^32, cells are numbered in the order in which they are made; a method's run is said by m_Sem: from this picture the method comes to its end with an answer and a world of which Q holds. -/
abbrev mPV : Type := Int ⊕ (Nat ⊕ Value)
abbrev mPC : Type := (Nat × Nat × ((Int → Int) ⊕ (Nat → Int64))) ⊕ (Nat × List mPV)
abbrev mPW : Type := List mPC
abbrev mPS : Type := Nat × List (Option mPV) × List mPV × mPW × Nat × Nat
def m_cv (N0 : Nat) : mPV → Value
  | .inl x => .int (Int32.ofInt x)
  | .inr (.inl k) => .ref (N0 + k)
  | .inr (.inr v) => v
def m_cc (N0 : Nat) (aI : Nat → ClassId) : mPC → va_E
  | .inl (t, n, .inl f) => .inl (aI t, n, .inl (fun j => Int32.ofInt (f (j : Int))))
  | .inl (t, n, .inr f) => .inl (aI t, n, .inr (.inl f))
  | .inr (ci, fs) => .inr (ci, fs.map (m_cv N0))
def m_cw (N0 : Nat) (aI : Nat → ClassId) : Nat → mPW → va_W
  | _, [] => []
  | k, c :: w => (N0 + k, m_cc N0 aI c) :: m_cw N0 aI (k + 1) w
def m_as (N0 : Nat) : Nat → List (Option mPV) → List (Nat × Value)
  | _, [] => []
  | k, none :: L => m_as N0 (k + 1) L
  | k, some v :: L => (k, m_cv N0 v) :: m_as N0 (k + 1) L
def m_cat : mPV → Nat
  | .inr (.inr v) => v.category
  | _ => 1
theorem m_cat_cv (N0 : Nat) (v : mPV) : (m_cv N0 v).category = m_cat v := by
  rcases v with x | k | v <;> rfl
def m_c2 : Option mPV → Bool
  | some v => m_cat v == 2
  | none => false
/-- a variable of one word is stored -/
def m_st : List (Option mPV) → Nat → mPV → List (Option mPV)
  | [], _, _ => []
  | _ :: L, 0, v => some v :: L
  | o :: L, i + 1, v => (bif (i == 0 && m_c2 o) then none else o) :: m_st L i v
/-- a variable of two words is stored -/
def m_st2 : List (Option mPV) → Nat → mPV → List (Option mPV)
  | [], _, _ => []
  | [o], _, _ => [o]
  | _ :: _ :: L, 0, v => some v :: none :: L
  | o :: o2 :: L, i + 1, v => (bif (i == 0 && m_c2 o) then none else o) :: m_st2 (o2 :: L) i v
def m_ent : List mPV → Nat → List (Option mPV)
  | [], n => List.replicate n none
  | v :: vs, n => bif m_cat v == 2 then some v :: none :: m_ent vs (n - 2) else some v :: m_ent vs (n - 1)
theorem m_as_le {N0 : Nat} : ∀ (L : List (Option mPV)) (k : Nat) (q : Nat × Value), q ∈ m_as N0 k L → k ≤ q.1
  | [], _, _, h => by cases h
  | none :: L, k, q, h => Nat.le_of_succ_le (m_as_le L (k + 1) q h)
  | some v :: L, k, q, h => by
    rcases List.mem_cons.mp h with rfl | h
    · exact Nat.le_refl _
    · exact Nat.le_of_succ_le (m_as_le L (k + 1) q h)
theorem m_st_len : ∀ (L : List (Option mPV)) (i : Nat) (v : mPV), (m_st L i v).length = L.length
  | [], _, _ => rfl
  | _ :: _, 0, _ => rfl
  | _ :: L, i + 1, v => by simp only [m_st, List.length_cons, m_st_len L i v]
theorem m_st2_len : ∀ (L : List (Option mPV)) (i : Nat) (v : mPV), (m_st2 L i v).length = L.length
  | [], _, _ => rfl
  | [_], 0, _ => rfl
  | [_], _ + 1, _ => rfl
  | _ :: _ :: _, 0, _ => rfl
  | _ :: o2 :: L, i + 1, v => by simp only [m_st2, List.length_cons, m_st2_len (o2 :: L) i v]
theorem m_as_cons {N0 : Nat} {k : Nat} {o : Option mPV} {L : List (Option mPV)} {q : Nat × Value} : q ∈ m_as N0 k (o :: L) ↔ (∃ v, o = some v ∧ q = (k, m_cv N0 v)) ∨ q ∈ m_as N0 (k + 1) L := by
  cases o with
  | none => simp [m_as]
  | some v => simp [m_as]
theorem m_kill {N0 k i : Nat} {o : Option mPV} {v : mPV} (h : (bif (i == 0 && m_c2 o) then none else o) = some v) : o = some v ∧ ¬ (k + 1 = k + (i + 1) ∧ (m_cv N0 v).category = 2) := by
  cases hb : (i == 0 && m_c2 o) with
  | true => rw [hb] at h; cases h
  | false =>
    rw [hb] at h
    have h : o = some v := h
    refine ⟨h, fun hc => ?_⟩
    subst h
    have h0 : i = 0 := by omega
    subst h0
    rw [m_cat_cv] at hc
    simp [m_c2, hc.2] at hb
theorem m_st_mem {N0 : Nat} : ∀ (L : List (Option mPV)) (k i : Nat) (v : mPV) (q : Nat × Value), q ∈ m_as N0 k (m_st L i v) → q = (k + i, m_cv N0 v) ∨ (q ∈ m_as N0 k L ∧ ¬ q.1 = k + i ∧ ¬ (q.1 + 1 = k + i ∧ q.2.category = 2))
  | [], _, _, _, _, h => by cases h
  | o :: L, k, 0, v, q, h => by
    rcases m_as_cons.mp h with ⟨v', h1, h2⟩ | h
    · cases h1
      exact Or.inl h2
    · have := m_as_le L (k + 1) q h
      exact Or.inr ⟨m_as_cons.mpr (Or.inr h), by omega, by omega⟩
  | o :: L, k, i + 1, v, q, h => by
    rcases m_as_cons.mp h with ⟨v', h1, rfl⟩ | h
    · obtain ⟨h2, h3⟩ := m_kill (N0 := N0) (k := k) h1
      exact Or.inr ⟨m_as_cons.mpr (Or.inl ⟨v', h2, rfl⟩), by show ¬ k = _; omega, h3⟩
    · rcases m_st_mem L (k + 1) i v q h with h | ⟨h1, h2, h3⟩
      · exact Or.inl (by rw [h]; congr 1; omega)
      · exact Or.inr ⟨m_as_cons.mpr (Or.inr h1), by omega, by rw [show k + (i + 1) = k + 1 + i by omega]; exact h3⟩
theorem m_st2_mem {N0 : Nat} : ∀ (L : List (Option mPV)) (k i : Nat) (v : mPV) (q : Nat × Value), i + 1 < L.length → q ∈ m_as N0 k (m_st2 L i v) → q = (k + i, m_cv N0 v) ∨ (q ∈ m_as N0 k L ∧ ¬ q.1 = k + i ∧ ¬ q.1 = k + i + 1 ∧ ¬ (q.1 + 1 = k + i ∧ q.2.category = 2))
  | [], _, _, _, _, hl, h => by cases h
  | [_], _, _, _, _, hl, h => absurd hl (by simp)
  | o :: o2 :: L, k, 0, v, q, hl, h => by
    rcases m_as_cons.mp h with ⟨v', h1, h2⟩ | h
    · cases h1
      exact Or.inl h2
    · rcases m_as_cons.mp h with ⟨v', h1, h2⟩ | h
      · cases h1
      · have := m_as_le L (k + 1 + 1) q h
        exact Or.inr ⟨m_as_cons.mpr (Or.inr (m_as_cons.mpr (Or.inr h))), by omega, by omega, by omega⟩
  | o :: o2 :: L, k, i + 1, v, q, hl, h => by
    rcases m_as_cons.mp h with ⟨v', h1, rfl⟩ | h
    · obtain ⟨h2, h3⟩ := m_kill (N0 := N0) (k := k) h1
      exact Or.inr ⟨m_as_cons.mpr (Or.inl ⟨v', h2, rfl⟩), by show ¬ k = _; omega, by show ¬ k = _; omega, h3⟩
    · rcases m_st2_mem (o2 :: L) (k + 1) i v q (by simp only [List.length_cons] at hl ⊢; omega) h with h | ⟨h1, h2, h3, h4⟩
      · exact Or.inl (by rw [h]; congr 1; omega)
      · exact Or.inr ⟨m_as_cons.mpr (Or.inr h1), by omega, by omega, by rw [show k + (i + 1) = k + 1 + i by omega]; exact h4⟩
theorem m_has_mono {ls : Array Slot} {n : Nat} {l l' : List (Nat × Value)} (h : lv_has ls n l) (hs : ∀ q ∈ l', q ∈ l) : lv_has ls n l' := ⟨h.1, h.2.1, fun q hq => h.2.2 q (hs q hq)⟩
theorem m_has_st {ls : Array Slot} {n N0 i : Nat} {L : List (Option mPV)} {v : mPV} {x : Value} (hx : m_cv N0 v = x) (h : lv_has ls n ((i, x) :: (m_as N0 0 L).filter (fun q => !(q.1 == i) && !(q.1 + 1 == i && q.2.category == 2)))) : lv_has ls n (m_as N0 0 (m_st L i v)) := by
  subst hx
  refine m_has_mono h (fun q hq => ?_)
  rcases m_st_mem L 0 i v q hq with h | ⟨h1, h2, h3⟩
  · rw [h, Nat.zero_add]; exact List.mem_cons_self
  · refine List.mem_cons_of_mem _ (List.mem_filter.mpr ⟨h1, ?_⟩)
    rw [Nat.zero_add] at h2 h3
    simp only [Bool.and_eq_true, Bool.not_eq_true', beq_eq_false_iff_ne, ne_eq, Bool.and_eq_false_iff]
    refine ⟨h2, ?_⟩
    by_cases hc : q.1 + 1 = i
    · exact Or.inr (fun hz => h3 ⟨hc, hz⟩)
    · exact Or.inl hc
theorem m_has_st2 {ls : Array Slot} {n N0 i : Nat} {L : List (Option mPV)} {v : mPV} {x : Value} (hx : m_cv N0 v = x) (hi : i + 1 < L.length) (h : lv_has ls n ((i, x) :: (m_as N0 0 L).filter (fun q => !(q.1 == i) && (!(q.1 == i + 1) && !(q.1 + 1 == i && q.2.category == 2))))) : lv_has ls n (m_as N0 0 (m_st2 L i v)) := by
  subst hx
  refine m_has_mono h (fun q hq => ?_)
  rcases m_st2_mem L 0 i v q hi hq with h | ⟨h1, h2, h3, h4⟩
  · rw [h, Nat.zero_add]; exact List.mem_cons_self
  · refine List.mem_cons_of_mem _ (List.mem_filter.mpr ⟨h1, ?_⟩)
    rw [Nat.zero_add] at h2 h3 h4
    simp only [Bool.and_eq_true, Bool.not_eq_true', beq_eq_false_iff_ne, ne_eq, Bool.and_eq_false_iff]
    refine ⟨h2, h3, ?_⟩
    by_cases hc : q.1 + 1 = i
    · exact Or.inr (fun hz => h4 ⟨hc, hz⟩)
    · exact Or.inl hc
theorem m_as_get {N0 : Nat} : ∀ (L : List (Option mPV)) (k i : Nat) (v : mPV), L[i]? = some (some v) → (k + i, m_cv N0 v) ∈ m_as N0 k L
  | [], _, _, _, h => by simp at h
  | o :: L, k, 0, v, h => by
    simp at h
    subst h
    exact List.mem_cons_self
  | o :: L, k, i + 1, v, h => by
    have := m_as_get (N0 := N0) L (k + 1) i v (by simpa using h)
    rw [show k + (i + 1) = k + 1 + i by omega]
    exact m_as_cons.mpr (Or.inr this)
theorem m_has_get {ls : Array Slot} {n N0 i : Nat} {L : List (Option mPV)} {v : mPV} (h : lv_has ls n (m_as N0 0 L)) (hv : L[i]? = some (some v)) : ls[i]? = some (.val (m_cv N0 v)) := by
  have := h.2.2 _ (m_as_get L 0 i v hv)
  rw [Nat.zero_add] at this
  exact this
theorem m_as_rep {N0 : Nat} : ∀ (n k : Nat), m_as N0 k (List.replicate n none) = []
  | 0, _ => rfl
  | n + 1, k => by rw [List.replicate_succ]; exact m_as_rep n (k + 1)
theorem m_ent_mem {N0 : Nat} : ∀ (vs : List mPV) (n k : Nat) (q : Nat × Value), q ∈ m_as N0 k (m_ent vs n) → q ∈ lv_args k (vs.map (m_cv N0))
  | [], n, k, q, h => by
    rw [m_ent, m_as_rep] at h
    cases h
  | v :: vs, n, k, q, h => by
    unfold m_ent at h
    show q ∈ lv_args k (m_cv N0 v :: vs.map (m_cv N0))
    unfold lv_args
    rw [m_cat_cv]
    cases hc : (m_cat v == 2) with
    | true =>
      rw [hc] at h
      rw [if_pos (by simpa using hc)]
      rcases m_as_cons.mp h with ⟨v', h1, rfl⟩ | h
      · cases h1
        exact List.mem_cons_self
      · rcases m_as_cons.mp h with ⟨v', h1, rfl⟩ | h
        · cases h1
        · exact List.mem_cons_of_mem _ (m_ent_mem vs (n - 2) (k + 2) q h)
    | false =>
      rw [hc] at h
      rw [if_neg (by simpa using hc)]
      rcases m_as_cons.mp h with ⟨v', h1, rfl⟩ | h
      · cases h1
        exact List.mem_cons_self
      · exact List.mem_cons_of_mem _ (m_ent_mem vs (n - 1) (k + 1) q h)
def m_words : List mPV → Nat
  | [] => 0
  | v :: vs => (bif m_cat v == 2 then 2 else 1) + m_words vs
theorem m_ent_len : ∀ (vs : List mPV) (n : Nat), m_words vs ≤ n → (m_ent vs n).length = n
  | [], n, _ => by rw [m_ent, List.length_replicate]
  | v :: vs, n, h => by
    unfold m_words at h
    unfold m_ent
    cases hc : (m_cat v == 2) with
    | true =>
      rw [hc] at h
      have h : 2 + m_words vs ≤ n := h
      show (m_ent vs (n - 2)).length + 1 + 1 = n
      rw [m_ent_len vs (n - 2) (by omega)]; omega
    | false =>
      rw [hc] at h
      have h : 1 + m_words vs ≤ n := h
      show (m_ent vs (n - 1)).length + 1 = n
      rw [m_ent_len vs (n - 1) (by omega)]; omega
theorem m_words_sl (N0 : Nat) : ∀ vs : List mPV, (lg_sl (vs.map (m_cv N0))).length = m_words vs
  | [] => rfl
  | v :: vs => by
    have ih := m_words_sl N0 vs
    unfold m_words
    rw [← ih]
    show ((m_cv N0 v :: vs.map (m_cv N0)).flatMap _).length = _
    rw [List.flatMap_cons, List.length_append]
    congr 1
    rw [m_cat_cv]
    cases hc : (m_cat v == 2) with
    | true => rw [if_pos (by simpa using hc)]; rfl
    | false => rw [if_neg (by simpa using hc)]; rfl
theorem m_entry {N0 n : Nat} (vs : List mPV) (h : m_words vs ≤ n) : ∃ ls : Array Slot, (∀ m : MethodId, entryFrame m (vs.map (m_cv N0)).toArray n = F0 m 0 ls []) ∧ lv_has ls n (m_as N0 0 (m_ent vs n)) := by
  refine ⟨_, fun m => lg_entry_eq m _ n, ?_⟩
  have h1 := lv_entry (vs.map (m_cv N0)) (n := n) (by rw [m_words_sl]; exact h)
  exact m_has_mono h1 (fun q hq => m_ent_mem vs n 0 q hq)
/-! the world -/
theorem m_cw_get {N0 : Nat} {aI : Nat → ClassId} : ∀ (w : mPW) (k i : Nat), (m_cw N0 aI k w)[i]? = (w[i]?).map (fun c => (N0 + (k + i), m_cc N0 aI c))
  | [], _, _ => by simp [m_cw]
  | c :: w, k, 0 => by simp [m_cw]
  | c :: w, k, i + 1 => by
    have := m_cw_get (N0 := N0) (aI := aI) w (k + 1) i
    simp only [m_cw, List.getElem?_cons_succ, this]
    rw [show k + 1 + i = k + (i + 1) by omega]
theorem m_cw_at {N0 : Nat} {aI : Nat → ClassId} {w : mPW} {i : Nat} {c : mPC} (h : w[i]? = some c) : (m_cw N0 aI 0 w)[i]? = some (N0 + i, m_cc N0 aI c) := by
  rw [m_cw_get, h, Nat.zero_add]; rfl
theorem m_cw_set {N0 : Nat} {aI : Nat → ClassId} : ∀ (w : mPW) (k i : Nat) (c : mPC), m_cw N0 aI k (w.set i c) = (m_cw N0 aI k w).set i (N0 + (k + i), m_cc N0 aI c)
  | [], _, _, _ => rfl
  | _ :: w, k, 0, c => rfl
  | _ :: w, k, i + 1, c => by
    simp only [List.set_cons_succ, m_cw, m_cw_set w (k + 1) i c]
    rw [show k + 1 + i = k + (i + 1) by omega]
theorem m_cw_app {N0 : Nat} {aI : Nat → ClassId} : ∀ (w : mPW) (k : Nat) (c : mPC), m_cw N0 aI k (w ++ [c]) = m_cw N0 aI k w ++ [(N0 + (k + w.length), m_cc N0 aI c)]
  | [], _, _ => rfl
  | _ :: w, k, c => by
    simp only [List.cons_append, m_cw, m_cw_app w (k + 1) c, List.length_cons]
    rw [show k + 1 + w.length = k + (w.length + 1) by omega]
theorem m_cw_D {N0 : Nat} {aI : Nat → ClassId} {w : mPW} : va_D (fun q => N0 ≤ q) (m_cw N0 aI 0 w) := by
  refine ⟨fun i j p q hi hj hpq => ?_, fun k q hk => ?_⟩
  · rw [m_cw_get] at hi hj
    obtain ⟨c, -, rfl⟩ := Option.map_eq_some_iff.mp hi
    obtain ⟨c', -, rfl⟩ := Option.map_eq_some_iff.mp hj
    have : N0 + (0 + i) = N0 + (0 + j) := hpq
    omega
  · rw [m_cw_get] at hk
    obtain ⟨c, -, rfl⟩ := Option.map_eq_some_iff.mp hk
    exact Nat.le_add_right _ _
end
section

theorem m_of_add (x y : Int) : Int32.ofInt (x + y) = Int32.ofInt x + Int32.ofInt y := Int32.toBitVec.inj (by simp [BitVec.ofInt_add])
theorem m_of_sub (x y : Int) : Int32.ofInt (x - y) = Int32.ofInt x - Int32.ofInt y := by
  have h := m_of_add (x - y) y
  rw [show x - y + y = x by omega] at h
  rw [h, Int32.add_sub_cancel]
theorem m_of_mul (x y : Int) : Int32.ofInt (x * y) = Int32.ofInt x * Int32.ofInt y := Int32.toBitVec.inj (by simp [BitVec.ofInt_mul])
/-- a whole number in the range of an int -/
def m_R (x : Int) : Prop := -2147483648 ≤ x ∧ x < 2147483648
theorem m_R_to {x : Int} (h : m_R x) : (Int32.ofInt x).toInt = x := Int32.toInt_ofInt_of_le (by have := h.1; omega) (by have := h.2; omega)
theorem m_R_32 (x : Int32) : m_R x.toInt := ⟨Int32.le_toInt x, Int32.toInt_lt x⟩
theorem m_R_nat {x : Int} (h : m_R x) : (Int32.ofInt x).toNatClampNeg = x.toNat := Int32.toNatClampNeg_ofInt_of_le (by have := h.1; omega) (by have := h.2; omega)
theorem m_R_eq {x y : Int} (hx : m_R x) (hy : m_R y) : Int32.ofInt x = Int32.ofInt y ↔ x = y := by rw [← Int32.toInt_inj, m_R_to hx, m_R_to hy]
theorem m_R_lt {x y : Int} (hx : m_R x) (hy : m_R y) : Int32.ofInt x < Int32.ofInt y ↔ x < y := by rw [Int32.lt_iff_toInt_lt, m_R_to hx, m_R_to hy]
theorem m_R_le {x y : Int} (hx : m_R x) (hy : m_R y) : Int32.ofInt x ≤ Int32.ofInt y ↔ x ≤ y := by rw [Int32.le_iff_toInt_le, m_R_to hx, m_R_to hy]
theorem m_R_0 : m_R 0 := ⟨by decide, by decide⟩
theorem m_R_div {x y : Int} (hx : 0 ≤ x) (hx' : x < 2147483648) (hy : 0 < y) (hy' : y < 2147483648) : Int32.ofInt (x / y) = Int32.ofInt x / Int32.ofInt y := by
  have h1 := m_R_to (x := x) ⟨by omega, hx'⟩
  have h2 := m_R_to (x := y) ⟨by omega, hy'⟩
  have h3 : Int32.ofInt x ≠ Int32.minValue := by
    intro h
    have h4 := congrArg Int32.toInt h
    rw [h1, Int32.toInt_minValue] at h4
    omega
  have h5 : 0 ≤ x / y := Int.ediv_nonneg hx (by omega)
  have h6 : x / y ≤ x := Int.ediv_le_self y hx
  rw [← Int32.toInt_inj, m_R_to ⟨by omega, by omega⟩, Int32.toInt_div_of_ne_left _ _ h3, h1, h2, Int.tdiv_eq_ediv_of_nonneg hx]
theorem m_R_rem {x y : Int} (hx : 0 ≤ x) (hx' : x < 2147483648) (hy : 0 < y) (hy' : y < 2147483648) : Int32.ofInt (x % y) = Int32.ofInt x - Int32.ofInt x / Int32.ofInt y * Int32.ofInt y := by
  rw [← m_R_div hx hx' hy hy', ← m_of_mul, ← m_of_sub]
  congr 1
  have := Int.mul_ediv_add_emod x y
  rw [Int.mul_comm (x / y) y]
  omega
/-- the length of an instruction that the tables hold -/
def m_len : Instr → Nat
  | .iload _ | .aload _ | .lload _ | .fload _ | .istore _ | .astore _ | .lstore _ | .fstore _ | .bipush _ | .ldc _ | .newarray _ => 2
  | .sipush _ | .ldc_w _ | .ldc2_w _ | .iinc _ _ | .getfield _ | .putfield _ | .goto _ | .if_icmp _ _ | .ifCond _ _ | .invokevirtual _ | .invokespecial _ | .invokestatic _ | .new _ => 3
  | _ => 1
def m_okb (mi : Nat) (e : BE) : Bool :=
  (match e.2.1 with | .tableswitch .. => (match decode (m_cd mi) e.1 with | .ok (i, _) => decide (i = e.2.1) | _ => false) | _ => decide (decode (m_cd mi) e.1 = .ok (e.2.1, m_len e.2.1))) &&
  match e.2.1 with
  | .bipush n => decide ((Int8.ofInt n).toInt32 = Int32.ofInt e.2.2.2.2)
  | .sipush n => decide ((Int16.ofInt n).toInt32 = Int32.ofInt e.2.2.2.2)
  | .getfield i => decide ((m_on mi, i, e.2.2.1, e.2.2.2.1) ∈ m_flds)
  | .putfield i => decide ((m_on mi, i, e.2.2.1, e.2.2.2.1) ∈ m_flds) && (match vwCl[e.2.2.1]? with | some r => (if e.2.2.2.2 = 0 then decide (r.2.1 e.2.2.2.1 = ((r.2.1 e.2.2.2.1).1, (r.2.1 e.2.2.2.1).2.1, "I", false)) else (r.2.1 e.2.2.2.1).2.2.2 && decide (m_kind mi = 2) && decide ((r.2.1 e.2.2.2.1).1 = m_own mi) && (match parseFieldDescriptor (r.2.1 e.2.2.2.1).2.2.1 with | some (.object _) => true | some (.array _) => true | _ => false)) | none => false)
  | .invokevirtual i => decide ((m_on mi, i, e.2.2.1) ∈ m_mths) && decide (e.2.2.1 < 1000 ∧ 0 < e.2.2.1 ∧ m_kind e.2.2.1 = 1)
  | .invokespecial i => decide ((m_on mi, i, e.2.2.1) ∈ m_mths) && decide (e.2.2.1 = 1000 ∨ (e.2.2.1 < 1000 ∧ 0 < e.2.2.1 ∧ m_kind e.2.2.1 = 2))
  | .invokestatic i => decide ((m_on mi, i, e.2.2.1) ∈ m_mths) && decide (e.2.2.1 = 1001 ∨ e.2.2.1 = 1002 ∨ (e.2.2.1 < 1000 ∧ 0 < e.2.2.1 ∧ m_kind e.2.2.1 = 0))
  | .ldc i => decide ((m_on mi, i, e.2.2.2.1, e.2.2.2.2) ∈ m_csts)
  | .ldc_w i => decide ((m_on mi, i, e.2.2.2.1, e.2.2.2.2) ∈ m_csts)
  | .ldc2_w i => decide ((m_on mi, i, e.2.2.2.2) ∈ m_cstl)
  | .new i => decide ((m_on mi, i, e.2.2.1) ∈ m_clss)
  | .goto off => decide ((e.1 : Int) + off = (e.2.2.1 : Int))
  | .if_icmp _ off => decide ((e.1 : Int) + off = (e.2.2.1 : Int))
  | .ifCond _ off => decide ((e.1 : Int) + off = (e.2.2.1 : Int))
  | .newarray t => decide (newarray.typeOf t = (if e.2.2.1 = 0 then .int else if e.2.2.1 = 1 then .char else .long)) && decide (e.2.2.1 < 3)
  | _ => true

theorem m_bk0 : bd_0.all (m_okb 0) = true := by decide +kernel
theorem m_bk1 : bd_1.all (m_okb 1) = true := by decide +kernel
theorem m_bk2 : bd_2.all (m_okb 2) = true := by decide +kernel
theorem m_bk3 : bd_3.all (m_okb 3) = true := by decide +kernel
theorem m_bk4 : bd_4.all (m_okb 4) = true := by decide +kernel
theorem m_bk5 : bd_5.all (m_okb 5) = true := by decide +kernel
theorem m_bk6 : bd_6.all (m_okb 6) = true := by decide +kernel
theorem m_bk7 : bd_7.all (m_okb 7) = true := by decide +kernel
theorem m_bk8 : bd_8.all (m_okb 8) = true := by decide +kernel
theorem m_bk9 : bd_9.all (m_okb 9) = true := by decide +kernel
theorem m_bk10 : bd_10.all (m_okb 10) = true := by decide +kernel
theorem m_bk11 : bd_11.all (m_okb 11) = true := by decide +kernel
theorem m_bk12 : bd_12.all (m_okb 12) = true := by decide +kernel
theorem m_bk13 : bd_13.all (m_okb 13) = true := by decide +kernel
theorem m_bk14 : bd_14.all (m_okb 14) = true := by decide +kernel
theorem m_bk15 : bd_15.all (m_okb 15) = true := by decide +kernel
theorem m_bk16 : bd_16.all (m_okb 16) = true := by decide +kernel
theorem m_bk17 : bd_17.all (m_okb 17) = true := by decide +kernel
theorem m_bk18 : bd_18.all (m_okb 18) = true := by decide +kernel
theorem m_bk19 : bd_19.all (m_okb 19) = true := by decide +kernel
theorem m_bk20 : bd_20.all (m_okb 20) = true := by decide +kernel
theorem m_bk21 : bd_21.all (m_okb 21) = true := by decide +kernel
theorem m_bk22 : bd_22.all (m_okb 22) = true := by decide +kernel
theorem m_bk23 : bd_23.all (m_okb 23) = true := by decide +kernel
theorem m_bk24 : bd_24.all (m_okb 24) = true := by decide +kernel
theorem m_bk25 : bd_25.all (m_okb 25) = true := by decide +kernel
theorem m_bk26 : bd_26.all (m_okb 26) = true := by decide +kernel
theorem m_bk27 : bd_27.all (m_okb 27) = true := by decide +kernel
theorem m_bk28 : bd_28.all (m_okb 28) = true := by decide +kernel
theorem m_bk29 : bd_29.all (m_okb 29) = true := by decide +kernel
theorem m_bk30 : bd_30.all (m_okb 30) = true := by decide +kernel
theorem m_bk31 : bd_31.all (m_okb 31) = true := by decide +kernel
theorem m_bk32 : bd_32.all (m_okb 32) = true := by decide +kernel
theorem m_bk33 : bd_33.all (m_okb 33) = true := by decide +kernel
theorem m_bk34 : bd_34.all (m_okb 34) = true := by decide +kernel
theorem m_bk35 : bd_35.all (m_okb 35) = true := by decide +kernel
theorem m_bk36 : bd_36.all (m_okb 36) = true := by decide +kernel
theorem m_bk37 : bd_37.all (m_okb 37) = true := by decide +kernel
theorem m_bk38 : bd_38.all (m_okb 38) = true := by decide +kernel
theorem m_bk39 : bd_39.all (m_okb 39) = true := by decide +kernel
theorem m_bk40 : bd_40.all (m_okb 40) = true := by decide +kernel
theorem m_bk41 : bd_41.all (m_okb 41) = true := by decide +kernel
theorem m_bk42 : bd_42.all (m_okb 42) = true := by decide +kernel
theorem m_bk43 : bd_43.all (m_okb 43) = true := by decide +kernel
theorem m_bk44 : bd_44.all (m_okb 44) = true := by decide +kernel
theorem m_bk45 : bd_45.all (m_okb 45) = true := by decide +kernel
theorem m_bk46 : bd_46.all (m_okb 46) = true := by decide +kernel
theorem m_bk47 : bd_47.all (m_okb 47) = true := by decide +kernel
theorem m_bk48 : bd_48.all (m_okb 48) = true := by decide +kernel
theorem m_bk49 : bd_49.all (m_okb 49) = true := by decide +kernel
theorem m_bk50 : bd_50.all (m_okb 50) = true := by decide +kernel
theorem m_bk51 : bd_51.all (m_okb 51) = true := by decide +kernel
theorem m_bk52 : bd_52.all (m_okb 52) = true := by decide +kernel
theorem m_bk53 : bd_53.all (m_okb 53) = true := by decide +kernel
theorem m_bk54 : bd_54.all (m_okb 54) = true := by decide +kernel
theorem m_bk55 : bd_55.all (m_okb 55) = true := by decide +kernel
theorem m_bk56 : bd_56.all (m_okb 56) = true := by decide +kernel
theorem m_bk57 : bd_57.all (m_okb 57) = true := by decide +kernel
theorem m_bk58 : bd_58.all (m_okb 58) = true := by decide +kernel
theorem m_bk59 : bd_59.all (m_okb 59) = true := by decide +kernel
theorem m_bk60 : bd_60.all (m_okb 60) = true := by decide +kernel
theorem m_bk61 : bd_61.all (m_okb 61) = true := by decide +kernel
theorem m_bk : ∀ mi, ∀ e ∈ m_bodies.getD mi [], m_okb mi e = true := by
  intro mi e he
  match mi, he with
  | 0, he => exact List.all_eq_true.mp m_bk0 e he
  | 1, he => exact List.all_eq_true.mp m_bk1 e he
  | 2, he => exact List.all_eq_true.mp m_bk2 e he
  | 3, he => exact List.all_eq_true.mp m_bk3 e he
  | 4, he => exact List.all_eq_true.mp m_bk4 e he
  | 5, he => exact List.all_eq_true.mp m_bk5 e he
  | 6, he => exact List.all_eq_true.mp m_bk6 e he
  | 7, he => exact List.all_eq_true.mp m_bk7 e he
  | 8, he => exact List.all_eq_true.mp m_bk8 e he
  | 9, he => exact List.all_eq_true.mp m_bk9 e he
  | 10, he => exact List.all_eq_true.mp m_bk10 e he
  | 11, he => exact List.all_eq_true.mp m_bk11 e he
  | 12, he => exact List.all_eq_true.mp m_bk12 e he
  | 13, he => exact List.all_eq_true.mp m_bk13 e he
  | 14, he => exact List.all_eq_true.mp m_bk14 e he
  | 15, he => exact List.all_eq_true.mp m_bk15 e he
  | 16, he => exact List.all_eq_true.mp m_bk16 e he
  | 17, he => exact List.all_eq_true.mp m_bk17 e he
  | 18, he => exact List.all_eq_true.mp m_bk18 e he
  | 19, he => exact List.all_eq_true.mp m_bk19 e he
  | 20, he => exact List.all_eq_true.mp m_bk20 e he
  | 21, he => exact List.all_eq_true.mp m_bk21 e he
  | 22, he => exact List.all_eq_true.mp m_bk22 e he
  | 23, he => exact List.all_eq_true.mp m_bk23 e he
  | 24, he => exact List.all_eq_true.mp m_bk24 e he
  | 25, he => exact List.all_eq_true.mp m_bk25 e he
  | 26, he => exact List.all_eq_true.mp m_bk26 e he
  | 27, he => exact List.all_eq_true.mp m_bk27 e he
  | 28, he => exact List.all_eq_true.mp m_bk28 e he
  | 29, he => exact List.all_eq_true.mp m_bk29 e he
  | 30, he => exact List.all_eq_true.mp m_bk30 e he
  | 31, he => exact List.all_eq_true.mp m_bk31 e he
  | 32, he => exact List.all_eq_true.mp m_bk32 e he
  | 33, he => exact List.all_eq_true.mp m_bk33 e he
  | 34, he => exact List.all_eq_true.mp m_bk34 e he
  | 35, he => exact List.all_eq_true.mp m_bk35 e he
  | 36, he => exact List.all_eq_true.mp m_bk36 e he
  | 37, he => exact List.all_eq_true.mp m_bk37 e he
  | 38, he => exact List.all_eq_true.mp m_bk38 e he
  | 39, he => exact List.all_eq_true.mp m_bk39 e he
  | 40, he => exact List.all_eq_true.mp m_bk40 e he
  | 41, he => exact List.all_eq_true.mp m_bk41 e he
  | 42, he => exact List.all_eq_true.mp m_bk42 e he
  | 43, he => exact List.all_eq_true.mp m_bk43 e he
  | 44, he => exact List.all_eq_true.mp m_bk44 e he
  | 45, he => exact List.all_eq_true.mp m_bk45 e he
  | 46, he => exact List.all_eq_true.mp m_bk46 e he
  | 47, he => exact List.all_eq_true.mp m_bk47 e he
  | 48, he => exact List.all_eq_true.mp m_bk48 e he
  | 49, he => exact List.all_eq_true.mp m_bk49 e he
  | 50, he => exact List.all_eq_true.mp m_bk50 e he
  | 51, he => exact List.all_eq_true.mp m_bk51 e he
  | 52, he => exact List.all_eq_true.mp m_bk52 e he
  | 53, he => exact List.all_eq_true.mp m_bk53 e he
  | 54, he => exact List.all_eq_true.mp m_bk54 e he
  | 55, he => exact List.all_eq_true.mp m_bk55 e he
  | 56, he => exact List.all_eq_true.mp m_bk56 e he
  | 57, he => exact List.all_eq_true.mp m_bk57 e he
  | 58, he => exact List.all_eq_true.mp m_bk58 e he
  | 59, he => exact List.all_eq_true.mp m_bk59 e he
  | 60, he => exact List.all_eq_true.mp m_bk60 e he
  | 61, he => exact List.all_eq_true.mp m_bk61 e he
  | k + 62, he => exact absurd he (by rw [List.getD_eq_getElem?_getD, List.getElem?_eq_none (by show 62 ≤ k + 62; omega)]; exact List.not_mem_nil)

theorem m_fetch_ok {mi pc : Nat} {e : BE} (h : m_fetch mi pc = some e) : e.1 = pc ∧ m_okb mi e = true := by
  refine ⟨?_, m_bk mi e (List.mem_of_find?_eq_some h)⟩
  have := List.find?_some h
  simpa using this
end
section
def m_ri : Option mPV → Instr
  | none => .return_
  | some _ => .ireturn
def m_rv (N0 : Nat) : Option mPV → List Value
  | none => []
  | some v => [m_cv N0 v]
def m_rok (mi : Nat) : Option mPV → Prop
  | none => m_ret mi = none
  | some (.inl x) => m_ret mi = some .int ∨ (m_ret mi = some .boolean ∧ (x = 0 ∨ x = 1))
  | _ => False
def m_tys (aI : Nat → ClassId) : List (ClassId × FieldType) := [(aI 0, .int), (aI 1, .char), (aI 2, .long)]
/-- where a method's walk stands: machine, code, words, classes; X: the script's cell, its length, its ints (the law's own) -/
def m_ctx (X : Nat × Nat × (Nat → Int32)) (mi : Nat) (p : Program) (s : State) (m : MethodId) (args : Array Value) (meth : Method) (c : Code) (N0 : Nat) (aI : Nat → ClassId) (D : va_G) : Prop :=
  p.tables.exec = Jvm.exec ∧ c.code = m_cd mi ∧ c.maxLocals = m_ml mi ∧ s.vm.findClass (m_own mi) = some m.cls ∧ (∀ w ∈ lw_g, w.before args s = true) ∧ (m_kind mi = 2 → meth.name = "<init>") ∧ va_K D vwCl (m_tys aI) s ∧ N0 ≤ s.heap.size ∧ va_X X.1 X.2.1 X.2.2 s s.heap ∧ X.1 < N0
def m_fin (mi : Nat) (Q : Option mPV → mPW → Prop) (p : Program) (l : Launch) (e : Env) (s : State) (m : MethodId) (args : Array Value) (below : List Frame) (meth : Method) (c : Code) (N0 : Nat) (aI : Nat → ClassId) (D : va_G) (Qf : State → Prop) : Prop :=
  ∀ (r : Option mPV) (w : mPW) (H : Heap) (locs : List Loc) (n pc : Nat) (ls : Array Slot), Q r w → m_rok mi r → va_P D vwCl (m_cw N0 aI 0 w) H → va_S (fun q => N0 ≤ q) s.heap H locs → (mi = 0 ∨ s.heap.size + (m_rm mi).cells = N0 + w.length) → n ≤ (m_rm mi).slots → decode (m_cd mi) pc = .ok (m_ri r, 1) →
    W p l e (m_rm mi) s m args below meth c H locs (m_rm mi).cells n Qf (F0 m pc ls (m_rv N0 r))
def m_Sem (X : Nat × Nat × (Nat → Int32)) (mi : Nat) (ps : mPS) (Q : Option mPV → mPW → Prop) : Prop :=
  ∀ (p : Program) (l : Launch) (e : Env) (s : State) (m : MethodId) (args : Array Value) (below : List Frame) (meth : Method) (c : Code) (N0 : Nat) (aI : Nat → ClassId) (D : va_G) (Qf : State → Prop),
  m_ctx X mi p s m args meth c N0 aI D → m_fin mi Q p l e s m args below meth c N0 aI D Qf →
  ∀ (H : Heap) (locs : List Loc) (ls : Array Slot) (k n : Nat), lv_has ls (m_ml mi) (m_as N0 0 ps.2.1) → ps.2.1.length = m_ml mi → va_P D vwCl (m_cw N0 aI 0 ps.2.2.2.1) H → va_S (fun q => N0 ≤ q) s.heap H locs → s.heap.size + k = N0 + ps.2.2.2.1.length → k + ps.2.2.2.2.1 = (m_rm mi).cells → n + ps.2.2.2.2.2 ≤ (m_rm mi).slots →
  W p l e (m_rm mi) s m args below meth c H locs k n Qf (F0 m ps.1 ls (ps.2.2.1.map (m_cv N0)))
def m_bin (f : Int → Int → Int) (pc : Nat) (L : List (Option mPV)) (w : mPW) (bc bs : Nat) : List mPV → Option mPS
  | .inl b :: .inl a :: S => some (pc + 1, L, .inl (f a b) :: S, w, bc, bs)
  | _ => none
def m_binL (f : Int64 → Int64 → Int64) (pc : Nat) (L : List (Option mPV)) (w : mPW) (bc bs : Nat) : List mPV → Option mPS
  | .inr (.inr (.long b)) :: .inr (.inr (.long a)) :: S => some (pc + 1, L, .inr (.inr (.long (f a b))) :: S, w, bc, bs)
  | _ => none
def m_ldI (o : Option (Option mPV)) (pc : Nat) (L : List (Option mPV)) (S : List mPV) (w : mPW) (bc bs : Nat) : Option mPS := match o with
  | some (some (.inl v)) => some (pc, L, .inl v :: S, w, bc, bs)
  | _ => none
def m_ldA (o : Option (Option mPV)) (pc : Nat) (L : List (Option mPV)) (S : List mPV) (w : mPW) (bc bs : Nat) : Option mPS := match o with
  | some (some (.inr (.inl v))) => some (pc, L, .inr (.inl v) :: S, w, bc, bs)
  | some (some (.inr (.inr (.ref v)))) => some (pc, L, .inr (.inr (.ref v)) :: S, w, bc, bs)
  | _ => none
def m_ldL (o : Option (Option mPV)) (pc : Nat) (L : List (Option mPV)) (S : List mPV) (w : mPW) (bc bs : Nat) : Option mPS := match o with
  | some (some (.inr (.inr (.long v)))) => some (pc, L, .inr (.inr (.long v)) :: S, w, bc, bs)
  | _ => none
def m_ldF (o : Option (Option mPV)) (pc : Nat) (L : List (Option mPV)) (S : List mPV) (w : mPW) (bc bs : Nat) : Option mPS := match o with
  | some (some (.inr (.inr (.float v)))) => some (pc, L, .inr (.inr (.float v)) :: S, w, bc, bs)
  | _ => none
def m_stI (i pc : Nat) (L : List (Option mPV)) (w : mPW) (bc bs : Nat) : List mPV → Option mPS
  | .inl v :: S => bif Nat.blt i L.length then some (pc, m_st L i (.inl v), S, w, bc, bs) else none
  | _ => none
def m_stA (i pc : Nat) (L : List (Option mPV)) (w : mPW) (bc bs : Nat) : List mPV → Option mPS
  | .inr (.inl v) :: S => bif Nat.blt i L.length then some (pc, m_st L i (.inr (.inl v)), S, w, bc, bs) else none
  | _ => none
def m_stF (i pc : Nat) (L : List (Option mPV)) (w : mPW) (bc bs : Nat) : List mPV → Option mPS
  | .inr (.inr (.float v)) :: S => bif Nat.blt i L.length then some (pc, m_st L i (.inr (.inr (.float v))), S, w, bc, bs) else none
  | _ => none
def m_stL (i pc : Nat) (L : List (Option mPV)) (w : mPW) (bc bs : Nat) : List mPV → Option mPS
  | .inr (.inr (.long v)) :: S => bif Nat.blt (i + 1) L.length then some (pc, m_st2 L i (.inr (.inr (.long v))), S, w, bc, bs) else none
  | _ => none
def m_dfl : List (List mPV) := [[.inr (.inr .null), .inr (.inr .null), .inl 0], [.inr (.inr .null), .inr (.inr .null), .inr (.inr .null), .inl 0, .inl 0, .inl 0], [.inr (.inr .null)], [.inl 0, .inr (.inr .null)], [.inr (.inr .null), .inl 0], [.inr (.inr .null), .inr (.inr .null), .inr (.inr .null), .inr (.inr .null), .inr (.inr .null)]]
def m_getf (x y pc : Nat) (L : List (Option mPV)) (w : mPW) (bc bs : Nat) : List mPV → Option mPS
  | .inr (.inl q) :: S => match w[q]? with
    | some (.inr (ci, fs)) => bif Nat.beq ci x then (match fs[y]? with | some v => some (pc, L, v :: S, w, bc, bs) | none => none) else none
    | _ => none
  | _ => none
def m_putI (x y pc : Nat) (L : List (Option mPV)) (w : mPW) (bc bs : Nat) : List mPV → Option mPS
  | .inl v :: .inr (.inl q) :: S => match w[q]? with
    | some (.inr (ci, fs)) => bif Nat.beq ci x && Nat.blt y fs.length then some (pc, L, S, w.set q (.inr (ci, fs.set y (.inl v))), bc, bs) else none
    | _ => none
  | _ => none
def m_putA (x y pc : Nat) (L : List (Option mPV)) (w : mPW) (bc bs : Nat) : List mPV → Option mPS
  | .inr (.inl v) :: .inr (.inl q) :: S => match w[q]? with
    | some (.inr (ci, fs)) => bif Nat.beq ci x && Nat.blt y fs.length then some (pc, L, S, w.set q (.inr (ci, fs.set y (.inr (.inl v)))), bc, bs) else none
    | _ => none
  | _ => none
def m_newo (x pc : Nat) (L : List (Option mPV)) (S : List mPV) (w : mPW) (bc bs : Nat) : Option mPS := match vwCl[x]?, m_dfl[x]?, bc with
  | some r, some fs, b + 1 => bif Nat.ble r.2.2 bs then some (pc, L, .inr (.inl w.length) :: S, w ++ [.inr (x, fs)], b, bs - r.2.2) else none
  | _, _, _ => none
def m_newr (x pc : Nat) (L : List (Option mPV)) (w : mPW) (bc bs : Nat) : List mPV → Option mPS
  | .inl (.ofNat v) :: S => match bc with
    | b + 1 => bif Nat.ble v bs && Nat.ble v 65536 && Nat.blt x 3 then some (pc, L, .inr (.inl w.length) :: S, w ++ [.inl (x, v, bif Nat.beq x 2 then .inr (fun _ => 0) else .inl (fun _ => 0))], b, bs - v) else none
    | _ => none
  | _ => none
def m_exec (mi : Nat) (ins : Instr) (x y : Nat) (z : Int) (pc : Nat) (L : List (Option mPV)) (S : List mPV) (w : mPW) (bc bs : Nat) : Option mPS := match ins with
  | .iload i => m_ldI L[i]? (pc + 2) L S w bc bs
  | .iload_n i => m_ldI L[(i : Nat)]? (pc + 1) L S w bc bs
  | .aload i => m_ldA L[i]? (pc + 2) L S w bc bs
  | .aload_n i => m_ldA L[(i : Nat)]? (pc + 1) L S w bc bs
  | .lload i => m_ldL L[i]? (pc + 2) L S w bc bs
  | .lload_n i => m_ldL L[(i : Nat)]? (pc + 1) L S w bc bs
  | .fload_n i => m_ldF L[(i : Nat)]? (pc + 1) L S w bc bs
  | .istore i => m_stI i (pc + 2) L w bc bs S
  | .istore_n i => m_stI (i : Nat) (pc + 1) L w bc bs S
  | .astore i => m_stA i (pc + 2) L w bc bs S
  | .astore_n i => m_stA (i : Nat) (pc + 1) L w bc bs S
  | .lstore i => m_stL i (pc + 2) L w bc bs S
  | .lstore_n i => m_stL (i : Nat) (pc + 1) L w bc bs S
  | .fstore_n i => m_stF (i : Nat) (pc + 1) L w bc bs S
  | .iconst v => some (pc + 1, L, .inl v :: S, w, bc, bs)
  | .bipush _ => some (pc + 2, L, .inl z :: S, w, bc, bs)
  | .sipush _ => some (pc + 3, L, .inl z :: S, w, bc, bs)
  | .ldc _ => bif Nat.beq y 0 then some (pc + 2, L, .inl z :: S, w, bc, bs) else some (pc + 2, L, .inr (.inr (.float (UInt32.ofNat z.toNat))) :: S, w, bc, bs)
  | .ldc_w _ => bif Nat.beq y 0 then some (pc + 3, L, .inl z :: S, w, bc, bs) else none
  | .ldc2_w _ => some (pc + 3, L, .inr (.inr (.long (Int64.ofInt z))) :: S, w, bc, bs)
  | .lconst v => some (pc + 1, L, .inr (.inr (.long (Int64.ofNat (v : Nat)))) :: S, w, bc, bs)
  | .fconst v => match v with
    | 0 => some (pc + 1, L, .inr (.inr (.float FP.fconst0)) :: S, w, bc, bs)
    | 1 => some (pc + 1, L, .inr (.inr (.float FP.fconst1)) :: S, w, bc, bs)
    | 2 => some (pc + 1, L, .inr (.inr (.float FP.fconst2)) :: S, w, bc, bs)
  | .iadd => m_bin (fun a b => a + b) pc L w bc bs S
  | .isub => m_bin (fun a b => a - b) pc L w bc bs S
  | .imul => m_bin (fun a b => a * b) pc L w bc bs S
  | .iand => m_bin (fun a b => (Int32.ofInt a &&& Int32.ofInt b).toInt) pc L w bc bs S
  | .ior => m_bin (fun a b => (Int32.ofInt a ||| Int32.ofInt b).toInt) pc L w bc bs S
  | .ixor => m_bin (fun a b => (Int32.ofInt a ^^^ Int32.ofInt b).toInt) pc L w bc bs S
  | .ishl => m_bin (fun a b => (Int32.ofInt a <<< (Int32.ofInt b &&& 31)).toInt) pc L w bc bs S
  | .ishr => m_bin (fun a b => (Int32.ofInt a >>> (Int32.ofInt b &&& 31)).toInt) pc L w bc bs S
  | .iushr => m_bin (fun a b => ((Int32.ofInt a).toUInt32 >>> ((Int32.ofInt b).toUInt32 &&& Int32.toUInt32 31)).toInt32.toInt) pc L w bc bs S
  | .land => m_binL (fun a b => a &&& b) pc L w bc bs S
  | .lor => m_binL (fun a b => a ||| b) pc L w bc bs S
  | .lsub => m_binL (fun a b => a - b) pc L w bc bs S
  | .lxor => m_binL (fun a b => a ^^^ b) pc L w bc bs S
  | .i2l => match S with
    | .inl a :: S => some (pc + 1, L, .inr (.inr (.long (Int32.ofInt a).toInt64)) :: S, w, bc, bs)
    | _ => none
  | .lshl => match S with
    | .inl b :: .inr (.inr (.long a)) :: S => some (pc + 1, L, .inr (.inr (.long (a <<< ((Int32.ofInt b).toInt64 &&& 63)))) :: S, w, bc, bs)
    | _ => none
  | .lshr => match S with
    | .inl b :: .inr (.inr (.long a)) :: S => some (pc + 1, L, .inr (.inr (.long (a >>> ((Int32.ofInt b).toInt64 &&& 63)))) :: S, w, bc, bs)
    | _ => none
  | .lcmp => match S with
    | .inr (.inr (.long b)) :: .inr (.inr (.long a)) :: S => some (pc + 1, L, .inl (lg_cmp a b).toInt :: S, w, bc, bs)
    | _ => none
  | .l2i => match S with
    | .inr (.inr (.long a)) :: S => some (pc + 1, L, .inl a.toInt32.toInt :: S, w, bc, bs)
    | _ => none
  | .i2f => match S with
    | .inl a :: S => some (pc + 1, L, .inr (.inr (.float (FP.i2f (Int32.ofInt a)))) :: S, w, bc, bs)
    | _ => none
  | .f2i => match S with
    | .inr (.inr (.float a)) :: S => some (pc + 1, L, .inl (FP.f2i a).toInt :: S, w, bc, bs)
    | _ => none
  | .fcmp o => match S with
    | .inr (.inr (.float b)) :: .inr (.inr (.float a)) :: S => some (pc + 1, L, .inl (Op.cmpValue (FP.fcmp a b) o).toInt :: S, w, bc, bs)
    | _ => none
  | .pop => match S with
    | v :: S => bif Nat.beq (m_cat v) 1 then some (pc + 1, L, S, w, bc, bs) else none
    | _ => none
  | .dup => match S with
    | v :: S => bif Nat.beq (m_cat v) 1 then some (pc + 1, L, v :: v :: S, w, bc, bs) else none
    | _ => none
  | .dup2 => match S with
    | u :: v :: S => bif Nat.beq (m_cat u) 1 && Nat.beq (m_cat v) 1 then some (pc + 1, L, u :: v :: u :: v :: S, w, bc, bs) else none
    | _ => none
  | .goto _ => some (x, L, S, w, bc, bs)
  | .iinc i d => match L[i]? with
    | some (some (.inl v)) => bif Nat.blt i L.length then some (pc + 3, m_st L i (.inl (v + d)), S, w, bc, bs) else none
    | _ => none
  | .arraylength => match S with
    | .inr (.inl q) :: S => match w[q]? with
      | some (.inl (t, v, _)) => bif Nat.blt t 3 then some (pc + 1, L, .inl (v : Int) :: S, w, bc, bs) else none
      | _ => none
    | _ => none
  | .getfield _ => m_getf x y (pc + 3) L w bc bs S
  | .putfield _ => if z = 0 then m_putI x y (pc + 3) L w bc bs S else m_putA x y (pc + 3) L w bc bs S
  | .new _ => m_newo x (pc + 3) L S w bc bs
  | .newarray _ => m_newr x (pc + 2) L w bc bs S
  | .invokespecial _ => match S with
    | .inr (.inl _) :: S => bif Nat.beq x 1000 && (Nat.ble 1 (m_rm mi).frames && Nat.ble ((S.map m_cat).sum + 12) (m_rm mi).locals) then some (pc + 3, L, S, w, bc, bs) else none
    | _ => none
  | _ => none
theorem m_cats (N0 : Nat) (S : List mPV) : ((S.map (m_cv N0)).map fun v => v.category).sum = (S.map m_cat).sum := by
  rw [List.map_map]
  congr 1
  exact List.map_congr_left (fun v _ => m_cat_cv N0 v)
theorem m_uw : ∀ (ci : Nat) (r : vw_C), vwCl[ci]? = some r → ∀ w ∈ u_ws r.1 r.2.1 r.2.2, w ∈ lw_g := by
  intro ci r h
  match ci, h with
  | 0, h => cases h; exact m_uw0
  | 1, h => cases h; exact m_uw1
  | 2, h => cases h; exact m_uw2
  | 3, h => cases h; exact m_uw3
  | 4, h => cases h; exact m_uw4
  | 5, h => cases h; exact m_uw5
  | k + 6, h => exact absurd h (by rw [List.getElem?_eq_none (by show 6 ≤ k + 6; omega)]; intro h; cases h)
theorem m_vt : ∀ (ci : Nat) (r : vw_C), vwCl[ci]? = some r → ∃ ty0 : Nat → FieldType, (∀ k, k < r.2.2 → parseFieldDescriptor (r.2.1 k).2.2.1 = some (ty0 k)) ∧ (∀ a, a < r.2.2 → ∀ b, b < r.2.2 → a ≠ b → (r.2.1 a).2.1 ≠ (r.2.1 b).2.1) ∧ (∀ fs, m_dfl[ci]? = some fs → ∀ N0 j, j < r.2.2 → defaultValue (ty0 j) = vp_V (fs.map (m_cv N0)) j) := by
  intro ci r h
  match ci, h with
  | 0, h =>
    cases h
    exact ⟨tyX0, tyX0_ok, nmX0, fun fs hfs N0 j hj => by
      cases hfs
      have hj : j < 3 := hj
      rcases (show j = 0 ∨ j = 1 ∨ j = 2 by omega) with rfl | rfl | rfl <;> rfl⟩
  | 1, h =>
    cases h
    exact ⟨tyX2, tyX2_ok, nmX2, fun fs hfs N0 j hj => by
      cases hfs
      have hj : j < 6 := hj
      rcases (show j = 0 ∨ j = 1 ∨ j = 2 ∨ j = 3 ∨ j = 4 ∨ j = 5 by omega) with rfl | rfl | rfl | rfl | rfl | rfl <;> rfl⟩
  | 2, h =>
    cases h
    exact ⟨tyX3, tyX3_ok, nmX3, fun fs hfs N0 j hj => by
      cases hfs
      have hj : j < 1 := hj
      rcases (show j = 0 by omega) with rfl <;> rfl⟩
  | 3, h =>
    cases h
    exact ⟨tyX4, tyX4_ok, nmX4, fun fs hfs N0 j hj => by
      cases hfs
      have hj : j < 2 := hj
      rcases (show j = 0 ∨ j = 1 by omega) with rfl | rfl <;> rfl⟩
  | 4, h =>
    cases h
    exact ⟨tyX5, tyX5_ok, nmX5, fun fs hfs N0 j hj => by
      cases hfs
      have hj : j < 2 := hj
      rcases (show j = 0 ∨ j = 1 by omega) with rfl | rfl <;> rfl⟩
  | 5, h =>
    cases h
    exact ⟨tyX6, tyX6_ok, nmX6, fun fs hfs N0 j hj => by
      cases hfs
      have hj : j < 5 := hj
      rcases (show j = 0 ∨ j = 1 ∨ j = 2 ∨ j = 3 ∨ j = 4 by omega) with rfl | rfl | rfl | rfl | rfl <;> rfl⟩
  | k + 6, h => exact absurd h (by rw [List.getElem?_eq_none (by show 6 ≤ k + 6; omega)]; intro h; cases h)
theorem m_size {X : Nat × Nat × (Nat → Int32)} {mi : Nat} {p : Program} {l : Launch} {e : Env} {R : Room} {s : State} {m : MethodId} {args : Array Value} {below : List Frame} {meth : Method} {c : Code} {N0 : Nat} {aI : Nat → ClassId} {D : va_G} {T : State} {locs : List Loc} {k n : Nat} {w : mPW}
    (h0 : N0 ≤ s.heap.size) (hP : va_P D vwCl (m_cw N0 aI 0 w) T.heap) (hS : va_S (fun q => N0 ≤ q) s.heap T.heap locs) (hk : s.heap.size + k = N0 + w.length) (X : Stand p l e R s m args below meth c T locs k n) : T.heap.size = N0 + w.length := by
  have h1 := X.heapSize
  have h2 : N0 + w.length ≤ T.heap.size := by
    cases w with
    | nil =>
      have h3 := hS.1
      have h4 : N0 + ([] : mPW).length = N0 := rfl
      omega
    | cons a w =>
      have hlt : w.length < (a :: w).length := Nat.lt_succ_self _
      have h3 := (hP w.length _ (m_cw_at (List.getElem?_eq_getElem hlt))).lt
      have h4 : N0 + w.length < T.heap.size := h3
      show N0 + (w.length + 1) ≤ _
      omega
  omega
set_option maxHeartbeats 4000000 in
set_option maxRecDepth 100000 in
theorem m_x_iload {X : Nat × Nat × (Nat → Int32)} {mi pc x y : Nat} {i : Nat} {z : Int} {L : List (Option mPV)} {S : List mPV} {w : mPW} {bc bs : Nat} {ps' : mPS} {Q : Option mPV → mPW → Prop} (hf : m_fetch mi pc = some (pc, (.iload i), x, y, z)) (he : m_exec mi (.iload i) x y z pc L S w bc bs = some ps') (K : m_Sem X mi ps' Q) : m_Sem X mi (pc, L, S, w, bc, bs) Q := by
  intro p l e s m args below meth c N0 aI D Qf hC hF H locs ls k n hl hlen hP hS hk hb1 hb2
  have hok := (m_fetch_ok hf).2
  obtain ⟨hx, hb, hml, hown, hts, hin, hK, h0, hX⟩ := id hC
  unfold m_okb at hok
  simp only [Bool.and_eq_true] at hok
  obtain ⟨hok1, hok2⟩ := hok
  dsimp only at hok1 hok2 hl hlen hP hS hk hb1 hb2
  have hdec := of_decide_eq_true hok1
  dsimp only [m_len] at hdec
  simp only [m_exec, m_ldI] at he
  split at he
  next hv =>
    cases he
    refine lv_iload hx hb hdec (m_has_get hl hv) ?_
    exact K p l e s m args below meth c N0 aI D Qf hC hF H locs ls k n hl hlen hP hS hk hb1 hb2
  next => cases he
set_option maxHeartbeats 4000000 in
set_option maxRecDepth 100000 in
theorem m_x_lload {X : Nat × Nat × (Nat → Int32)} {mi pc x y : Nat} {i : Nat} {z : Int} {L : List (Option mPV)} {S : List mPV} {w : mPW} {bc bs : Nat} {ps' : mPS} {Q : Option mPV → mPW → Prop} (hf : m_fetch mi pc = some (pc, (.lload i), x, y, z)) (he : m_exec mi (.lload i) x y z pc L S w bc bs = some ps') (K : m_Sem X mi ps' Q) : m_Sem X mi (pc, L, S, w, bc, bs) Q := by
  intro p l e s m args below meth c N0 aI D Qf hC hF H locs ls k n hl hlen hP hS hk hb1 hb2
  have hok := (m_fetch_ok hf).2
  obtain ⟨hx, hb, hml, hown, hts, hin, hK, h0, hX⟩ := id hC
  unfold m_okb at hok
  simp only [Bool.and_eq_true] at hok
  obtain ⟨hok1, hok2⟩ := hok
  dsimp only at hok1 hok2 hl hlen hP hS hk hb1 hb2
  have hdec := of_decide_eq_true hok1
  dsimp only [m_len] at hdec
  simp only [m_exec, m_ldL] at he
  split at he
  next hv =>
    cases he
    refine lv_lload hx hb hdec (m_has_get hl hv) ?_
    exact K p l e s m args below meth c N0 aI D Qf hC hF H locs ls k n hl hlen hP hS hk hb1 hb2
  next => cases he
set_option maxHeartbeats 4000000 in
set_option maxRecDepth 100000 in
theorem m_x_iload_n {X : Nat × Nat × (Nat → Int32)} {mi pc x y : Nat} {i : Fin 4} {z : Int} {L : List (Option mPV)} {S : List mPV} {w : mPW} {bc bs : Nat} {ps' : mPS} {Q : Option mPV → mPW → Prop} (hf : m_fetch mi pc = some (pc, (.iload_n i), x, y, z)) (he : m_exec mi (.iload_n i) x y z pc L S w bc bs = some ps') (K : m_Sem X mi ps' Q) : m_Sem X mi (pc, L, S, w, bc, bs) Q := by
  intro p l e s m args below meth c N0 aI D Qf hC hF H locs ls k n hl hlen hP hS hk hb1 hb2
  have hok := (m_fetch_ok hf).2
  obtain ⟨hx, hb, hml, hown, hts, hin, hK, h0, hX⟩ := id hC
  unfold m_okb at hok
  simp only [Bool.and_eq_true] at hok
  obtain ⟨hok1, hok2⟩ := hok
  dsimp only at hok1 hok2 hl hlen hP hS hk hb1 hb2
  have hdec := of_decide_eq_true hok1
  dsimp only [m_len] at hdec
  simp only [m_exec, m_ldI] at he
  split at he
  next hv =>
    cases he
    refine lv_iload_n hx hb hdec rfl (m_has_get hl hv) ?_
    exact K p l e s m args below meth c N0 aI D Qf hC hF H locs ls k n hl hlen hP hS hk hb1 hb2
  next => cases he
set_option maxHeartbeats 4000000 in
set_option maxRecDepth 100000 in
theorem m_x_lload_n {X : Nat × Nat × (Nat → Int32)} {mi pc x y : Nat} {i : Fin 4} {z : Int} {L : List (Option mPV)} {S : List mPV} {w : mPW} {bc bs : Nat} {ps' : mPS} {Q : Option mPV → mPW → Prop} (hf : m_fetch mi pc = some (pc, (.lload_n i), x, y, z)) (he : m_exec mi (.lload_n i) x y z pc L S w bc bs = some ps') (K : m_Sem X mi ps' Q) : m_Sem X mi (pc, L, S, w, bc, bs) Q := by
  intro p l e s m args below meth c N0 aI D Qf hC hF H locs ls k n hl hlen hP hS hk hb1 hb2
  have hok := (m_fetch_ok hf).2
  obtain ⟨hx, hb, hml, hown, hts, hin, hK, h0, hX⟩ := id hC
  unfold m_okb at hok
  simp only [Bool.and_eq_true] at hok
  obtain ⟨hok1, hok2⟩ := hok
  dsimp only at hok1 hok2 hl hlen hP hS hk hb1 hb2
  have hdec := of_decide_eq_true hok1
  dsimp only [m_len] at hdec
  simp only [m_exec, m_ldL] at he
  split at he
  next hv =>
    cases he
    refine lv_lload_n hx hb hdec rfl (m_has_get hl hv) ?_
    exact K p l e s m args below meth c N0 aI D Qf hC hF H locs ls k n hl hlen hP hS hk hb1 hb2
  next => cases he
set_option maxHeartbeats 4000000 in
set_option maxRecDepth 100000 in
theorem m_x_fload_n {X : Nat × Nat × (Nat → Int32)} {mi pc x y : Nat} {i : Fin 4} {z : Int} {L : List (Option mPV)} {S : List mPV} {w : mPW} {bc bs : Nat} {ps' : mPS} {Q : Option mPV → mPW → Prop} (hf : m_fetch mi pc = some (pc, (.fload_n i), x, y, z)) (he : m_exec mi (.fload_n i) x y z pc L S w bc bs = some ps') (K : m_Sem X mi ps' Q) : m_Sem X mi (pc, L, S, w, bc, bs) Q := by
  intro p l e s m args below meth c N0 aI D Qf hC hF H locs ls k n hl hlen hP hS hk hb1 hb2
  have hok := (m_fetch_ok hf).2
  obtain ⟨hx, hb, hml, hown, hts, hin, hK, h0, hX⟩ := id hC
  unfold m_okb at hok
  simp only [Bool.and_eq_true] at hok
  obtain ⟨hok1, hok2⟩ := hok
  dsimp only at hok1 hok2 hl hlen hP hS hk hb1 hb2
  have hdec := of_decide_eq_true hok1
  dsimp only [m_len] at hdec
  simp only [m_exec, m_ldF] at he
  split at he
  next hv =>
    cases he
    refine lv_fload_n hx hb hdec rfl (m_has_get hl hv) ?_
    exact K p l e s m args below meth c N0 aI D Qf hC hF H locs ls k n hl hlen hP hS hk hb1 hb2
  next => cases he
set_option maxHeartbeats 4000000 in
set_option maxRecDepth 100000 in
theorem m_x_aload {X : Nat × Nat × (Nat → Int32)} {mi pc x y : Nat} {i : Nat} {z : Int} {L : List (Option mPV)} {S : List mPV} {w : mPW} {bc bs : Nat} {ps' : mPS} {Q : Option mPV → mPW → Prop} (hf : m_fetch mi pc = some (pc, (.aload i), x, y, z)) (he : m_exec mi (.aload i) x y z pc L S w bc bs = some ps') (K : m_Sem X mi ps' Q) : m_Sem X mi (pc, L, S, w, bc, bs) Q := by
  intro p l e s m args below meth c N0 aI D Qf hC hF H locs ls k n hl hlen hP hS hk hb1 hb2
  have hok := (m_fetch_ok hf).2
  obtain ⟨hx, hb, hml, hown, hts, hin, hK, h0, hX⟩ := id hC
  unfold m_okb at hok
  simp only [Bool.and_eq_true] at hok
  obtain ⟨hok1, hok2⟩ := hok
  dsimp only at hok1 hok2 hl hlen hP hS hk hb1 hb2
  have hdec := of_decide_eq_true hok1
  dsimp only [m_len] at hdec
  simp only [m_exec, m_ldA] at he
  split at he
  next hv =>
    cases he
    refine lv_aload hx hb hdec  (m_has_get hl hv) ?_
    exact K p l e s m args below meth c N0 aI D Qf hC hF H locs ls k n hl hlen hP hS hk hb1 hb2
  next hv =>
    cases he
    refine lv_aload hx hb hdec  (m_has_get hl hv) ?_
    exact K p l e s m args below meth c N0 aI D Qf hC hF H locs ls k n hl hlen hP hS hk hb1 hb2
  next => cases he
set_option maxHeartbeats 4000000 in
set_option maxRecDepth 100000 in
theorem m_x_aload_n {X : Nat × Nat × (Nat → Int32)} {mi pc x y : Nat} {i : Fin 4} {z : Int} {L : List (Option mPV)} {S : List mPV} {w : mPW} {bc bs : Nat} {ps' : mPS} {Q : Option mPV → mPW → Prop} (hf : m_fetch mi pc = some (pc, (.aload_n i), x, y, z)) (he : m_exec mi (.aload_n i) x y z pc L S w bc bs = some ps') (K : m_Sem X mi ps' Q) : m_Sem X mi (pc, L, S, w, bc, bs) Q := by
  intro p l e s m args below meth c N0 aI D Qf hC hF H locs ls k n hl hlen hP hS hk hb1 hb2
  have hok := (m_fetch_ok hf).2
  obtain ⟨hx, hb, hml, hown, hts, hin, hK, h0, hX⟩ := id hC
  unfold m_okb at hok
  simp only [Bool.and_eq_true] at hok
  obtain ⟨hok1, hok2⟩ := hok
  dsimp only at hok1 hok2 hl hlen hP hS hk hb1 hb2
  have hdec := of_decide_eq_true hok1
  dsimp only [m_len] at hdec
  simp only [m_exec, m_ldA] at he
  split at he
  next hv =>
    cases he
    refine lv_aload_n hx hb hdec rfl (m_has_get hl hv) ?_
    exact K p l e s m args below meth c N0 aI D Qf hC hF H locs ls k n hl hlen hP hS hk hb1 hb2
  next hv =>
    cases he
    refine lv_aload_n hx hb hdec rfl (m_has_get hl hv) ?_
    exact K p l e s m args below meth c N0 aI D Qf hC hF H locs ls k n hl hlen hP hS hk hb1 hb2
  next => cases he
set_option maxHeartbeats 4000000 in
set_option maxRecDepth 100000 in
theorem m_x_istore {X : Nat × Nat × (Nat → Int32)} {mi pc x y : Nat} {i : Nat} {z : Int} {L : List (Option mPV)} {S : List mPV} {w : mPW} {bc bs : Nat} {ps' : mPS} {Q : Option mPV → mPW → Prop} (hf : m_fetch mi pc = some (pc, (.istore i), x, y, z)) (he : m_exec mi (.istore i) x y z pc L S w bc bs = some ps') (K : m_Sem X mi ps' Q) : m_Sem X mi (pc, L, S, w, bc, bs) Q := by
  intro p l e s m args below meth c N0 aI D Qf hC hF H locs ls k n hl hlen hP hS hk hb1 hb2
  have hok := (m_fetch_ok hf).2
  obtain ⟨hx, hb, hml, hown, hts, hin, hK, h0, hX⟩ := id hC
  unfold m_okb at hok
  simp only [Bool.and_eq_true] at hok
  obtain ⟨hok1, hok2⟩ := hok
  dsimp only at hok1 hok2 hl hlen hP hS hk hb1 hb2
  have hdec := of_decide_eq_true hok1
  dsimp only [m_len] at hdec
  simp only [m_exec] at he
  unfold m_stI at he
  split at he
  next =>
    cases hi : Nat.blt (i) L.length with
    | false => rw [hi] at he; cases he
    | true =>
      rw [hi] at he
      cases he
      have hi := Nat.le_of_ble_eq_true hi
      refine lv_istore hx hb hdec  hl (by rw [← hlen]; exact hi) rfl (fun ls2 hl2 => ?_)
      exact K p l e s m args below meth c N0 aI D Qf hC hF H locs ls2 k n (m_has_st rfl hl2) (by rw [m_st_len]; exact hlen) hP hS hk hb1 hb2
  next => cases he
set_option maxHeartbeats 4000000 in
set_option maxRecDepth 100000 in
theorem m_x_istore_n {X : Nat × Nat × (Nat → Int32)} {mi pc x y : Nat} {i : Fin 4} {z : Int} {L : List (Option mPV)} {S : List mPV} {w : mPW} {bc bs : Nat} {ps' : mPS} {Q : Option mPV → mPW → Prop} (hf : m_fetch mi pc = some (pc, (.istore_n i), x, y, z)) (he : m_exec mi (.istore_n i) x y z pc L S w bc bs = some ps') (K : m_Sem X mi ps' Q) : m_Sem X mi (pc, L, S, w, bc, bs) Q := by
  intro p l e s m args below meth c N0 aI D Qf hC hF H locs ls k n hl hlen hP hS hk hb1 hb2
  have hok := (m_fetch_ok hf).2
  obtain ⟨hx, hb, hml, hown, hts, hin, hK, h0, hX⟩ := id hC
  unfold m_okb at hok
  simp only [Bool.and_eq_true] at hok
  obtain ⟨hok1, hok2⟩ := hok
  dsimp only at hok1 hok2 hl hlen hP hS hk hb1 hb2
  have hdec := of_decide_eq_true hok1
  dsimp only [m_len] at hdec
  simp only [m_exec] at he
  unfold m_stI at he
  split at he
  next =>
    cases hi : Nat.blt ((i : Nat)) L.length with
    | false => rw [hi] at he; cases he
    | true =>
      rw [hi] at he
      cases he
      have hi := Nat.le_of_ble_eq_true hi
      refine lv_istore_n hx hb hdec rfl hl (by rw [← hlen]; exact hi) rfl (fun ls2 hl2 => ?_)
      exact K p l e s m args below meth c N0 aI D Qf hC hF H locs ls2 k n (m_has_st rfl hl2) (by rw [m_st_len]; exact hlen) hP hS hk hb1 hb2
  next => cases he
set_option maxHeartbeats 4000000 in
set_option maxRecDepth 100000 in
theorem m_x_astore {X : Nat × Nat × (Nat → Int32)} {mi pc x y : Nat} {i : Nat} {z : Int} {L : List (Option mPV)} {S : List mPV} {w : mPW} {bc bs : Nat} {ps' : mPS} {Q : Option mPV → mPW → Prop} (hf : m_fetch mi pc = some (pc, (.astore i), x, y, z)) (he : m_exec mi (.astore i) x y z pc L S w bc bs = some ps') (K : m_Sem X mi ps' Q) : m_Sem X mi (pc, L, S, w, bc, bs) Q := by
  intro p l e s m args below meth c N0 aI D Qf hC hF H locs ls k n hl hlen hP hS hk hb1 hb2
  have hok := (m_fetch_ok hf).2
  obtain ⟨hx, hb, hml, hown, hts, hin, hK, h0, hX⟩ := id hC
  unfold m_okb at hok
  simp only [Bool.and_eq_true] at hok
  obtain ⟨hok1, hok2⟩ := hok
  dsimp only at hok1 hok2 hl hlen hP hS hk hb1 hb2
  have hdec := of_decide_eq_true hok1
  dsimp only [m_len] at hdec
  simp only [m_exec] at he
  unfold m_stA at he
  split at he
  next =>
    cases hi : Nat.blt (i) L.length with
    | false => rw [hi] at he; cases he
    | true =>
      rw [hi] at he
      cases he
      have hi := Nat.le_of_ble_eq_true hi
      refine lv_astore hx hb hdec  hl (by rw [← hlen]; exact hi) rfl (fun ls2 hl2 => ?_)
      exact K p l e s m args below meth c N0 aI D Qf hC hF H locs ls2 k n (m_has_st rfl hl2) (by rw [m_st_len]; exact hlen) hP hS hk hb1 hb2
  next => cases he
set_option maxHeartbeats 4000000 in
set_option maxRecDepth 100000 in
theorem m_x_astore_n {X : Nat × Nat × (Nat → Int32)} {mi pc x y : Nat} {i : Fin 4} {z : Int} {L : List (Option mPV)} {S : List mPV} {w : mPW} {bc bs : Nat} {ps' : mPS} {Q : Option mPV → mPW → Prop} (hf : m_fetch mi pc = some (pc, (.astore_n i), x, y, z)) (he : m_exec mi (.astore_n i) x y z pc L S w bc bs = some ps') (K : m_Sem X mi ps' Q) : m_Sem X mi (pc, L, S, w, bc, bs) Q := by
  intro p l e s m args below meth c N0 aI D Qf hC hF H locs ls k n hl hlen hP hS hk hb1 hb2
  have hok := (m_fetch_ok hf).2
  obtain ⟨hx, hb, hml, hown, hts, hin, hK, h0, hX⟩ := id hC
  unfold m_okb at hok
  simp only [Bool.and_eq_true] at hok
  obtain ⟨hok1, hok2⟩ := hok
  dsimp only at hok1 hok2 hl hlen hP hS hk hb1 hb2
  have hdec := of_decide_eq_true hok1
  dsimp only [m_len] at hdec
  simp only [m_exec] at he
  unfold m_stA at he
  split at he
  next =>
    cases hi : Nat.blt ((i : Nat)) L.length with
    | false => rw [hi] at he; cases he
    | true =>
      rw [hi] at he
      cases he
      have hi := Nat.le_of_ble_eq_true hi
      refine lv_astore_n hx hb hdec rfl hl (by rw [← hlen]; exact hi) rfl (fun ls2 hl2 => ?_)
      exact K p l e s m args below meth c N0 aI D Qf hC hF H locs ls2 k n (m_has_st rfl hl2) (by rw [m_st_len]; exact hlen) hP hS hk hb1 hb2
  next => cases he
set_option maxHeartbeats 4000000 in
set_option maxRecDepth 100000 in
theorem m_x_fstore_n {X : Nat × Nat × (Nat → Int32)} {mi pc x y : Nat} {i : Fin 4} {z : Int} {L : List (Option mPV)} {S : List mPV} {w : mPW} {bc bs : Nat} {ps' : mPS} {Q : Option mPV → mPW → Prop} (hf : m_fetch mi pc = some (pc, (.fstore_n i), x, y, z)) (he : m_exec mi (.fstore_n i) x y z pc L S w bc bs = some ps') (K : m_Sem X mi ps' Q) : m_Sem X mi (pc, L, S, w, bc, bs) Q := by
  intro p l e s m args below meth c N0 aI D Qf hC hF H locs ls k n hl hlen hP hS hk hb1 hb2
  have hok := (m_fetch_ok hf).2
  obtain ⟨hx, hb, hml, hown, hts, hin, hK, h0, hX⟩ := id hC
  unfold m_okb at hok
  simp only [Bool.and_eq_true] at hok
  obtain ⟨hok1, hok2⟩ := hok
  dsimp only at hok1 hok2 hl hlen hP hS hk hb1 hb2
  have hdec := of_decide_eq_true hok1
  dsimp only [m_len] at hdec
  simp only [m_exec] at he
  unfold m_stF at he
  split at he
  next =>
    cases hi : Nat.blt ((i : Nat)) L.length with
    | false => rw [hi] at he; cases he
    | true =>
      rw [hi] at he
      cases he
      have hi := Nat.le_of_ble_eq_true hi
      refine lv_fstore_n hx hb hdec rfl hl (by rw [← hlen]; exact hi) rfl (fun ls2 hl2 => ?_)
      exact K p l e s m args below meth c N0 aI D Qf hC hF H locs ls2 k n (m_has_st rfl hl2) (by rw [m_st_len]; exact hlen) hP hS hk hb1 hb2
  next => cases he
set_option maxHeartbeats 4000000 in
set_option maxRecDepth 100000 in
theorem m_x_lstore {X : Nat × Nat × (Nat → Int32)} {mi pc x y : Nat} {i : Nat} {z : Int} {L : List (Option mPV)} {S : List mPV} {w : mPW} {bc bs : Nat} {ps' : mPS} {Q : Option mPV → mPW → Prop} (hf : m_fetch mi pc = some (pc, (.lstore i), x, y, z)) (he : m_exec mi (.lstore i) x y z pc L S w bc bs = some ps') (K : m_Sem X mi ps' Q) : m_Sem X mi (pc, L, S, w, bc, bs) Q := by
  intro p l e s m args below meth c N0 aI D Qf hC hF H locs ls k n hl hlen hP hS hk hb1 hb2
  have hok := (m_fetch_ok hf).2
  obtain ⟨hx, hb, hml, hown, hts, hin, hK, h0, hX⟩ := id hC
  unfold m_okb at hok
  simp only [Bool.and_eq_true] at hok
  obtain ⟨hok1, hok2⟩ := hok
  dsimp only at hok1 hok2 hl hlen hP hS hk hb1 hb2
  have hdec := of_decide_eq_true hok1
  dsimp only [m_len] at hdec
  simp only [m_exec] at he
  unfold m_stL at he
  split at he
  next =>
    cases hi : Nat.blt (i + 1) L.length with
    | false => rw [hi] at he; cases he
    | true =>
      rw [hi] at he
      cases he
      have hi := Nat.le_of_ble_eq_true hi
      refine lv_lstore hx hb hdec  hl (by rw [← hlen]; exact hi) rfl (fun ls2 hl2 => ?_)
      exact K p l e s m args below meth c N0 aI D Qf hC hF H locs ls2 k n (m_has_st2 rfl hi hl2) (by rw [m_st2_len]; exact hlen) hP hS hk hb1 hb2
  next => cases he
set_option maxHeartbeats 4000000 in
set_option maxRecDepth 100000 in
theorem m_x_lstore_n {X : Nat × Nat × (Nat → Int32)} {mi pc x y : Nat} {i : Fin 4} {z : Int} {L : List (Option mPV)} {S : List mPV} {w : mPW} {bc bs : Nat} {ps' : mPS} {Q : Option mPV → mPW → Prop} (hf : m_fetch mi pc = some (pc, (.lstore_n i), x, y, z)) (he : m_exec mi (.lstore_n i) x y z pc L S w bc bs = some ps') (K : m_Sem X mi ps' Q) : m_Sem X mi (pc, L, S, w, bc, bs) Q := by
  intro p l e s m args below meth c N0 aI D Qf hC hF H locs ls k n hl hlen hP hS hk hb1 hb2
  have hok := (m_fetch_ok hf).2
  obtain ⟨hx, hb, hml, hown, hts, hin, hK, h0, hX⟩ := id hC
  unfold m_okb at hok
  simp only [Bool.and_eq_true] at hok
  obtain ⟨hok1, hok2⟩ := hok
  dsimp only at hok1 hok2 hl hlen hP hS hk hb1 hb2
  have hdec := of_decide_eq_true hok1
  dsimp only [m_len] at hdec
  simp only [m_exec] at he
  unfold m_stL at he
  split at he
  next =>
    cases hi : Nat.blt ((i : Nat) + 1) L.length with
    | false => rw [hi] at he; cases he
    | true =>
      rw [hi] at he
      cases he
      have hi := Nat.le_of_ble_eq_true hi
      refine lv_lstore_n hx hb hdec rfl hl (by rw [← hlen]; exact hi) rfl (fun ls2 hl2 => ?_)
      exact K p l e s m args below meth c N0 aI D Qf hC hF H locs ls2 k n (m_has_st2 rfl hi hl2) (by rw [m_st2_len]; exact hlen) hP hS hk hb1 hb2
  next => cases he
set_option maxHeartbeats 4000000 in
set_option maxRecDepth 100000 in
theorem m_x_iconst {X : Nat × Nat × (Nat → Int32)} {mi pc x y : Nat} {v : Int} {z : Int} {L : List (Option mPV)} {S : List mPV} {w : mPW} {bc bs : Nat} {ps' : mPS} {Q : Option mPV → mPW → Prop} (hf : m_fetch mi pc = some (pc, (.iconst v), x, y, z)) (he : m_exec mi (.iconst v) x y z pc L S w bc bs = some ps') (K : m_Sem X mi ps' Q) : m_Sem X mi (pc, L, S, w, bc, bs) Q := by
  intro p l e s m args below meth c N0 aI D Qf hC hF H locs ls k n hl hlen hP hS hk hb1 hb2
  have hok := (m_fetch_ok hf).2
  obtain ⟨hx, hb, hml, hown, hts, hin, hK, h0, hX⟩ := id hC
  unfold m_okb at hok
  simp only [Bool.and_eq_true] at hok
  obtain ⟨hok1, hok2⟩ := hok
  dsimp only at hok1 hok2 hl hlen hP hS hk hb1 hb2
  have hdec := of_decide_eq_true hok1
  dsimp only [m_len] at hdec
  cases he
  refine lv_iconst hx hb hdec rfl ?_
  exact K p l e s m args below meth c N0 aI D Qf hC hF H locs ls k n hl hlen hP hS hk hb1 hb2
set_option maxHeartbeats 4000000 in
set_option maxRecDepth 100000 in
theorem m_x_bipush {X : Nat × Nat × (Nat → Int32)} {mi pc x y : Nat} {v : Int} {z : Int} {L : List (Option mPV)} {S : List mPV} {w : mPW} {bc bs : Nat} {ps' : mPS} {Q : Option mPV → mPW → Prop} (hf : m_fetch mi pc = some (pc, (.bipush v), x, y, z)) (he : m_exec mi (.bipush v) x y z pc L S w bc bs = some ps') (K : m_Sem X mi ps' Q) : m_Sem X mi (pc, L, S, w, bc, bs) Q := by
  intro p l e s m args below meth c N0 aI D Qf hC hF H locs ls k n hl hlen hP hS hk hb1 hb2
  have hok := (m_fetch_ok hf).2
  obtain ⟨hx, hb, hml, hown, hts, hin, hK, h0, hX⟩ := id hC
  unfold m_okb at hok
  simp only [Bool.and_eq_true] at hok
  obtain ⟨hok1, hok2⟩ := hok
  dsimp only at hok1 hok2 hl hlen hP hS hk hb1 hb2
  have hdec := of_decide_eq_true hok1
  dsimp only [m_len] at hdec
  cases he
  refine lv_bipush hx hb hdec (of_decide_eq_true hok2) ?_
  exact K p l e s m args below meth c N0 aI D Qf hC hF H locs ls k n hl hlen hP hS hk hb1 hb2
set_option maxHeartbeats 4000000 in
set_option maxRecDepth 100000 in
theorem m_x_sipush {X : Nat × Nat × (Nat → Int32)} {mi pc x y : Nat} {v : Int} {z : Int} {L : List (Option mPV)} {S : List mPV} {w : mPW} {bc bs : Nat} {ps' : mPS} {Q : Option mPV → mPW → Prop} (hf : m_fetch mi pc = some (pc, (.sipush v), x, y, z)) (he : m_exec mi (.sipush v) x y z pc L S w bc bs = some ps') (K : m_Sem X mi ps' Q) : m_Sem X mi (pc, L, S, w, bc, bs) Q := by
  intro p l e s m args below meth c N0 aI D Qf hC hF H locs ls k n hl hlen hP hS hk hb1 hb2
  have hok := (m_fetch_ok hf).2
  obtain ⟨hx, hb, hml, hown, hts, hin, hK, h0, hX⟩ := id hC
  unfold m_okb at hok
  simp only [Bool.and_eq_true] at hok
  obtain ⟨hok1, hok2⟩ := hok
  dsimp only at hok1 hok2 hl hlen hP hS hk hb1 hb2
  have hdec := of_decide_eq_true hok1
  dsimp only [m_len] at hdec
  cases he
  refine lv_sipush hx hb hdec (of_decide_eq_true hok2) ?_
  exact K p l e s m args below meth c N0 aI D Qf hC hF H locs ls k n hl hlen hP hS hk hb1 hb2
set_option maxHeartbeats 4000000 in
set_option maxRecDepth 100000 in
theorem m_x_ldc {X : Nat × Nat × (Nat → Int32)} {mi pc x y : Nat} {i : Nat} {z : Int} {L : List (Option mPV)} {S : List mPV} {w : mPW} {bc bs : Nat} {ps' : mPS} {Q : Option mPV → mPW → Prop} (hf : m_fetch mi pc = some (pc, (.ldc i), x, y, z)) (he : m_exec mi (.ldc i) x y z pc L S w bc bs = some ps') (K : m_Sem X mi ps' Q) : m_Sem X mi (pc, L, S, w, bc, bs) Q := by
  intro p l e s m args below meth c N0 aI D Qf hC hF H locs ls k n hl hlen hP hS hk hb1 hb2
  have hok := (m_fetch_ok hf).2
  obtain ⟨hx, hb, hml, hown, hts, hin, hK, h0, hX⟩ := id hC
  unfold m_okb at hok
  simp only [Bool.and_eq_true] at hok
  obtain ⟨hok1, hok2⟩ := hok
  dsimp only at hok1 hok2 hl hlen hP hS hk hb1 hb2
  have hdec := of_decide_eq_true hok1
  dsimp only [m_len] at hdec
  have hw := m_csts_w _ (of_decide_eq_true hok2)
  simp only [m_exec] at he
  cases hy : Nat.beq y 0 with
  | true =>
    rw [hy] at he
    cases he
    refine lv_ldc hx hb hown (hts _ (hw.1 (Nat.eq_of_beq_eq_true hy))) hdec ?_
    exact K p l e s m args below meth c N0 aI D Qf hC hF H locs ls k n hl hlen hP hS hk hb1 hb2
  | false =>
    rw [hy] at he
    cases he
    refine lv_ldcf hx hb hown (hts _ (hw.2 (Nat.ne_of_beq_eq_false hy))) hdec ?_
    exact K p l e s m args below meth c N0 aI D Qf hC hF H locs ls k n hl hlen hP hS hk hb1 hb2
set_option maxHeartbeats 4000000 in
set_option maxRecDepth 100000 in
theorem m_x_ldc_w {X : Nat × Nat × (Nat → Int32)} {mi pc x y : Nat} {i : Nat} {z : Int} {L : List (Option mPV)} {S : List mPV} {w : mPW} {bc bs : Nat} {ps' : mPS} {Q : Option mPV → mPW → Prop} (hf : m_fetch mi pc = some (pc, (.ldc_w i), x, y, z)) (he : m_exec mi (.ldc_w i) x y z pc L S w bc bs = some ps') (K : m_Sem X mi ps' Q) : m_Sem X mi (pc, L, S, w, bc, bs) Q := by
  intro p l e s m args below meth c N0 aI D Qf hC hF H locs ls k n hl hlen hP hS hk hb1 hb2
  have hok := (m_fetch_ok hf).2
  obtain ⟨hx, hb, hml, hown, hts, hin, hK, h0, hX⟩ := id hC
  unfold m_okb at hok
  simp only [Bool.and_eq_true] at hok
  obtain ⟨hok1, hok2⟩ := hok
  dsimp only at hok1 hok2 hl hlen hP hS hk hb1 hb2
  have hdec := of_decide_eq_true hok1
  dsimp only [m_len] at hdec
  have hw := m_csts_w _ (of_decide_eq_true hok2)
  simp only [m_exec] at he
  cases hy : Nat.beq y 0 with
  | true =>
    rw [hy] at he
    cases he
    refine lv_ldcw hx hb hown (hts _ (hw.1 (Nat.eq_of_beq_eq_true hy))) hdec ?_
    exact K p l e s m args below meth c N0 aI D Qf hC hF H locs ls k n hl hlen hP hS hk hb1 hb2
  | false =>
    rw [hy] at he
    cases he
set_option maxHeartbeats 4000000 in
set_option maxRecDepth 100000 in
theorem m_x_ldc2_w {X : Nat × Nat × (Nat → Int32)} {mi pc x y : Nat} {i : Nat} {z : Int} {L : List (Option mPV)} {S : List mPV} {w : mPW} {bc bs : Nat} {ps' : mPS} {Q : Option mPV → mPW → Prop} (hf : m_fetch mi pc = some (pc, (.ldc2_w i), x, y, z)) (he : m_exec mi (.ldc2_w i) x y z pc L S w bc bs = some ps') (K : m_Sem X mi ps' Q) : m_Sem X mi (pc, L, S, w, bc, bs) Q := by
  intro p l e s m args below meth c N0 aI D Qf hC hF H locs ls k n hl hlen hP hS hk hb1 hb2
  have hok := (m_fetch_ok hf).2
  obtain ⟨hx, hb, hml, hown, hts, hin, hK, h0, hX⟩ := id hC
  unfold m_okb at hok
  simp only [Bool.and_eq_true] at hok
  obtain ⟨hok1, hok2⟩ := hok
  dsimp only at hok1 hok2 hl hlen hP hS hk hb1 hb2
  have hdec := of_decide_eq_true hok1
  dsimp only [m_len] at hdec
  have hw := m_cstl_w _ (of_decide_eq_true hok2)
  cases he
  refine lv_ldc2 hx hb hown (hts _ hw) hdec ?_
  exact K p l e s m args below meth c N0 aI D Qf hC hF H locs ls k n hl hlen hP hS hk hb1 hb2
set_option maxHeartbeats 4000000 in
set_option maxRecDepth 100000 in
theorem m_x_lconst {X : Nat × Nat × (Nat → Int32)} {mi pc x y : Nat} {v : Fin 2} {z : Int} {L : List (Option mPV)} {S : List mPV} {w : mPW} {bc bs : Nat} {ps' : mPS} {Q : Option mPV → mPW → Prop} (hf : m_fetch mi pc = some (pc, (.lconst v), x, y, z)) (he : m_exec mi (.lconst v) x y z pc L S w bc bs = some ps') (K : m_Sem X mi ps' Q) : m_Sem X mi (pc, L, S, w, bc, bs) Q := by
  intro p l e s m args below meth c N0 aI D Qf hC hF H locs ls k n hl hlen hP hS hk hb1 hb2
  have hok := (m_fetch_ok hf).2
  obtain ⟨hx, hb, hml, hown, hts, hin, hK, h0, hX⟩ := id hC
  unfold m_okb at hok
  simp only [Bool.and_eq_true] at hok
  obtain ⟨hok1, hok2⟩ := hok
  dsimp only at hok1 hok2 hl hlen hP hS hk hb1 hb2
  have hdec := of_decide_eq_true hok1
  dsimp only [m_len] at hdec
  cases he
  refine lv_lconst hx hb hdec rfl ?_
  exact K p l e s m args below meth c N0 aI D Qf hC hF H locs ls k n hl hlen hP hS hk hb1 hb2
set_option maxHeartbeats 4000000 in
set_option maxRecDepth 100000 in
theorem m_x_fconst {X : Nat × Nat × (Nat → Int32)} {mi pc x y : Nat} {v : Fin 3} {z : Int} {L : List (Option mPV)} {S : List mPV} {w : mPW} {bc bs : Nat} {ps' : mPS} {Q : Option mPV → mPW → Prop} (hf : m_fetch mi pc = some (pc, (.fconst v), x, y, z)) (he : m_exec mi (.fconst v) x y z pc L S w bc bs = some ps') (K : m_Sem X mi ps' Q) : m_Sem X mi (pc, L, S, w, bc, bs) Q := by
  intro p l e s m args below meth c N0 aI D Qf hC hF H locs ls k n hl hlen hP hS hk hb1 hb2
  have hok := (m_fetch_ok hf).2
  obtain ⟨hx, hb, hml, hown, hts, hin, hK, h0, hX⟩ := id hC
  unfold m_okb at hok
  simp only [Bool.and_eq_true] at hok
  obtain ⟨hok1, hok2⟩ := hok
  dsimp only at hok1 hok2 hl hlen hP hS hk hb1 hb2
  have hdec := of_decide_eq_true hok1
  dsimp only [m_len] at hdec
  simp only [m_exec] at he
  split at he
  · cases he
    refine lv_fconst0 hx hb hdec ?_
    exact K p l e s m args below meth c N0 aI D Qf hC hF H locs ls k n hl hlen hP hS hk hb1 hb2
  · cases he
    refine lv_fconst1 hx hb hdec ?_
    exact K p l e s m args below meth c N0 aI D Qf hC hF H locs ls k n hl hlen hP hS hk hb1 hb2
  · cases he
    refine lv_fconst2 hx hb hdec ?_
    exact K p l e s m args below meth c N0 aI D Qf hC hF H locs ls k n hl hlen hP hS hk hb1 hb2
set_option maxHeartbeats 4000000 in
set_option maxRecDepth 100000 in
theorem m_x_iadd {X : Nat × Nat × (Nat → Int32)} {mi pc x y : Nat}  {z : Int} {L : List (Option mPV)} {S : List mPV} {w : mPW} {bc bs : Nat} {ps' : mPS} {Q : Option mPV → mPW → Prop} (hf : m_fetch mi pc = some (pc, .iadd, x, y, z)) (he : m_exec mi .iadd x y z pc L S w bc bs = some ps') (K : m_Sem X mi ps' Q) : m_Sem X mi (pc, L, S, w, bc, bs) Q := by
  intro p l e s m args below meth c N0 aI D Qf hC hF H locs ls k n hl hlen hP hS hk hb1 hb2
  have hok := (m_fetch_ok hf).2
  obtain ⟨hx, hb, hml, hown, hts, hin, hK, h0, hX⟩ := id hC
  unfold m_okb at hok
  simp only [Bool.and_eq_true] at hok
  obtain ⟨hok1, hok2⟩ := hok
  dsimp only at hok1 hok2 hl hlen hP hS hk hb1 hb2
  have hdec := of_decide_eq_true hok1
  dsimp only [m_len] at hdec
  simp only [m_exec] at he
  unfold m_bin at he
  split at he
  next b a S' =>
    cases he
    refine lv_iadd hx hb hdec ?_
    have hv : (Int32.ofInt a + Int32.ofInt b) = Int32.ofInt (a + b) := (m_of_add a b).symm
    rw [hv]
    exact K p l e s m args below meth c N0 aI D Qf hC hF H locs ls k n hl hlen hP hS hk hb1 hb2
  next => cases he
set_option maxHeartbeats 4000000 in
set_option maxRecDepth 100000 in
theorem m_x_isub {X : Nat × Nat × (Nat → Int32)} {mi pc x y : Nat}  {z : Int} {L : List (Option mPV)} {S : List mPV} {w : mPW} {bc bs : Nat} {ps' : mPS} {Q : Option mPV → mPW → Prop} (hf : m_fetch mi pc = some (pc, .isub, x, y, z)) (he : m_exec mi .isub x y z pc L S w bc bs = some ps') (K : m_Sem X mi ps' Q) : m_Sem X mi (pc, L, S, w, bc, bs) Q := by
  intro p l e s m args below meth c N0 aI D Qf hC hF H locs ls k n hl hlen hP hS hk hb1 hb2
  have hok := (m_fetch_ok hf).2
  obtain ⟨hx, hb, hml, hown, hts, hin, hK, h0, hX⟩ := id hC
  unfold m_okb at hok
  simp only [Bool.and_eq_true] at hok
  obtain ⟨hok1, hok2⟩ := hok
  dsimp only at hok1 hok2 hl hlen hP hS hk hb1 hb2
  have hdec := of_decide_eq_true hok1
  dsimp only [m_len] at hdec
  simp only [m_exec] at he
  unfold m_bin at he
  split at he
  next b a S' =>
    cases he
    refine lv_isub hx hb hdec ?_
    have hv : (Int32.ofInt a - Int32.ofInt b) = Int32.ofInt (a - b) := (m_of_sub a b).symm
    rw [hv]
    exact K p l e s m args below meth c N0 aI D Qf hC hF H locs ls k n hl hlen hP hS hk hb1 hb2
  next => cases he
set_option maxHeartbeats 4000000 in
set_option maxRecDepth 100000 in
theorem m_x_imul {X : Nat × Nat × (Nat → Int32)} {mi pc x y : Nat}  {z : Int} {L : List (Option mPV)} {S : List mPV} {w : mPW} {bc bs : Nat} {ps' : mPS} {Q : Option mPV → mPW → Prop} (hf : m_fetch mi pc = some (pc, .imul, x, y, z)) (he : m_exec mi .imul x y z pc L S w bc bs = some ps') (K : m_Sem X mi ps' Q) : m_Sem X mi (pc, L, S, w, bc, bs) Q := by
  intro p l e s m args below meth c N0 aI D Qf hC hF H locs ls k n hl hlen hP hS hk hb1 hb2
  have hok := (m_fetch_ok hf).2
  obtain ⟨hx, hb, hml, hown, hts, hin, hK, h0, hX⟩ := id hC
  unfold m_okb at hok
  simp only [Bool.and_eq_true] at hok
  obtain ⟨hok1, hok2⟩ := hok
  dsimp only at hok1 hok2 hl hlen hP hS hk hb1 hb2
  have hdec := of_decide_eq_true hok1
  dsimp only [m_len] at hdec
  simp only [m_exec] at he
  unfold m_bin at he
  split at he
  next b a S' =>
    cases he
    refine lv_imul hx hb hdec ?_
    have hv : (Int32.ofInt a * Int32.ofInt b) = Int32.ofInt (a * b) := (m_of_mul a b).symm
    rw [hv]
    exact K p l e s m args below meth c N0 aI D Qf hC hF H locs ls k n hl hlen hP hS hk hb1 hb2
  next => cases he
set_option maxHeartbeats 4000000 in
set_option maxRecDepth 100000 in
theorem m_x_iand {X : Nat × Nat × (Nat → Int32)} {mi pc x y : Nat}  {z : Int} {L : List (Option mPV)} {S : List mPV} {w : mPW} {bc bs : Nat} {ps' : mPS} {Q : Option mPV → mPW → Prop} (hf : m_fetch mi pc = some (pc, .iand, x, y, z)) (he : m_exec mi .iand x y z pc L S w bc bs = some ps') (K : m_Sem X mi ps' Q) : m_Sem X mi (pc, L, S, w, bc, bs) Q := by
  intro p l e s m args below meth c N0 aI D Qf hC hF H locs ls k n hl hlen hP hS hk hb1 hb2
  have hok := (m_fetch_ok hf).2
  obtain ⟨hx, hb, hml, hown, hts, hin, hK, h0, hX⟩ := id hC
  unfold m_okb at hok
  simp only [Bool.and_eq_true] at hok
  obtain ⟨hok1, hok2⟩ := hok
  dsimp only at hok1 hok2 hl hlen hP hS hk hb1 hb2
  have hdec := of_decide_eq_true hok1
  dsimp only [m_len] at hdec
  simp only [m_exec] at he
  unfold m_bin at he
  split at he
  next b a S' =>
    cases he
    refine lv_iand hx hb hdec  ?_
    have hv : (Int32.ofInt a &&& Int32.ofInt b) = Int32.ofInt ((Int32.ofInt a &&& Int32.ofInt b)).toInt := (Int32.ofInt_toInt _).symm
    rw [hv]
    exact K p l e s m args below meth c N0 aI D Qf hC hF H locs ls k n hl hlen hP hS hk hb1 hb2
  next => cases he
set_option maxHeartbeats 4000000 in
set_option maxRecDepth 100000 in
theorem m_x_ior {X : Nat × Nat × (Nat → Int32)} {mi pc x y : Nat}  {z : Int} {L : List (Option mPV)} {S : List mPV} {w : mPW} {bc bs : Nat} {ps' : mPS} {Q : Option mPV → mPW → Prop} (hf : m_fetch mi pc = some (pc, .ior, x, y, z)) (he : m_exec mi .ior x y z pc L S w bc bs = some ps') (K : m_Sem X mi ps' Q) : m_Sem X mi (pc, L, S, w, bc, bs) Q := by
  intro p l e s m args below meth c N0 aI D Qf hC hF H locs ls k n hl hlen hP hS hk hb1 hb2
  have hok := (m_fetch_ok hf).2
  obtain ⟨hx, hb, hml, hown, hts, hin, hK, h0, hX⟩ := id hC
  unfold m_okb at hok
  simp only [Bool.and_eq_true] at hok
  obtain ⟨hok1, hok2⟩ := hok
  dsimp only at hok1 hok2 hl hlen hP hS hk hb1 hb2
  have hdec := of_decide_eq_true hok1
  dsimp only [m_len] at hdec
  simp only [m_exec] at he
  unfold m_bin at he
  split at he
  next b a S' =>
    cases he
    refine lv_ior hx hb hdec  ?_
    have hv : (Int32.ofInt a ||| Int32.ofInt b) = Int32.ofInt ((Int32.ofInt a ||| Int32.ofInt b)).toInt := (Int32.ofInt_toInt _).symm
    rw [hv]
    exact K p l e s m args below meth c N0 aI D Qf hC hF H locs ls k n hl hlen hP hS hk hb1 hb2
  next => cases he
set_option maxHeartbeats 4000000 in
set_option maxRecDepth 100000 in
theorem m_x_ixor {X : Nat × Nat × (Nat → Int32)} {mi pc x y : Nat}  {z : Int} {L : List (Option mPV)} {S : List mPV} {w : mPW} {bc bs : Nat} {ps' : mPS} {Q : Option mPV → mPW → Prop} (hf : m_fetch mi pc = some (pc, .ixor, x, y, z)) (he : m_exec mi .ixor x y z pc L S w bc bs = some ps') (K : m_Sem X mi ps' Q) : m_Sem X mi (pc, L, S, w, bc, bs) Q := by
  intro p l e s m args below meth c N0 aI D Qf hC hF H locs ls k n hl hlen hP hS hk hb1 hb2
  have hok := (m_fetch_ok hf).2
  obtain ⟨hx, hb, hml, hown, hts, hin, hK, h0, hX⟩ := id hC
  unfold m_okb at hok
  simp only [Bool.and_eq_true] at hok
  obtain ⟨hok1, hok2⟩ := hok
  dsimp only at hok1 hok2 hl hlen hP hS hk hb1 hb2
  have hdec := of_decide_eq_true hok1
  dsimp only [m_len] at hdec
  simp only [m_exec] at he
  unfold m_bin at he
  split at he
  next b a S' =>
    cases he
    refine lv_ixor hx hb hdec  ?_
    have hv : (Int32.ofInt a ^^^ Int32.ofInt b) = Int32.ofInt ((Int32.ofInt a ^^^ Int32.ofInt b)).toInt := (Int32.ofInt_toInt _).symm
    rw [hv]
    exact K p l e s m args below meth c N0 aI D Qf hC hF H locs ls k n hl hlen hP hS hk hb1 hb2
  next => cases he
set_option maxHeartbeats 4000000 in
set_option maxRecDepth 100000 in
theorem m_x_ishl {X : Nat × Nat × (Nat → Int32)} {mi pc x y : Nat}  {z : Int} {L : List (Option mPV)} {S : List mPV} {w : mPW} {bc bs : Nat} {ps' : mPS} {Q : Option mPV → mPW → Prop} (hf : m_fetch mi pc = some (pc, .ishl, x, y, z)) (he : m_exec mi .ishl x y z pc L S w bc bs = some ps') (K : m_Sem X mi ps' Q) : m_Sem X mi (pc, L, S, w, bc, bs) Q := by
  intro p l e s m args below meth c N0 aI D Qf hC hF H locs ls k n hl hlen hP hS hk hb1 hb2
  have hok := (m_fetch_ok hf).2
  obtain ⟨hx, hb, hml, hown, hts, hin, hK, h0, hX⟩ := id hC
  unfold m_okb at hok
  simp only [Bool.and_eq_true] at hok
  obtain ⟨hok1, hok2⟩ := hok
  dsimp only at hok1 hok2 hl hlen hP hS hk hb1 hb2
  have hdec := of_decide_eq_true hok1
  dsimp only [m_len] at hdec
  simp only [m_exec] at he
  unfold m_bin at he
  split at he
  next b a S' =>
    cases he
    refine lv_ishl hx hb hdec  ?_
    have hv : (Int32.ofInt a <<< (Int32.ofInt b &&& 31)) = Int32.ofInt ((Int32.ofInt a <<< (Int32.ofInt b &&& 31))).toInt := (Int32.ofInt_toInt _).symm
    rw [hv]
    exact K p l e s m args below meth c N0 aI D Qf hC hF H locs ls k n hl hlen hP hS hk hb1 hb2
  next => cases he
set_option maxHeartbeats 4000000 in
set_option maxRecDepth 100000 in
theorem m_x_ishr {X : Nat × Nat × (Nat → Int32)} {mi pc x y : Nat}  {z : Int} {L : List (Option mPV)} {S : List mPV} {w : mPW} {bc bs : Nat} {ps' : mPS} {Q : Option mPV → mPW → Prop} (hf : m_fetch mi pc = some (pc, .ishr, x, y, z)) (he : m_exec mi .ishr x y z pc L S w bc bs = some ps') (K : m_Sem X mi ps' Q) : m_Sem X mi (pc, L, S, w, bc, bs) Q := by
  intro p l e s m args below meth c N0 aI D Qf hC hF H locs ls k n hl hlen hP hS hk hb1 hb2
  have hok := (m_fetch_ok hf).2
  obtain ⟨hx, hb, hml, hown, hts, hin, hK, h0, hX⟩ := id hC
  unfold m_okb at hok
  simp only [Bool.and_eq_true] at hok
  obtain ⟨hok1, hok2⟩ := hok
  dsimp only at hok1 hok2 hl hlen hP hS hk hb1 hb2
  have hdec := of_decide_eq_true hok1
  dsimp only [m_len] at hdec
  simp only [m_exec] at he
  unfold m_bin at he
  split at he
  next b a S' =>
    cases he
    refine lv_ishr hx hb hdec  ?_
    have hv : (Int32.ofInt a >>> (Int32.ofInt b &&& 31)) = Int32.ofInt ((Int32.ofInt a >>> (Int32.ofInt b &&& 31))).toInt := (Int32.ofInt_toInt _).symm
    rw [hv]
    exact K p l e s m args below meth c N0 aI D Qf hC hF H locs ls k n hl hlen hP hS hk hb1 hb2
  next => cases he
set_option maxHeartbeats 4000000 in
set_option maxRecDepth 100000 in
theorem m_x_iushr {X : Nat × Nat × (Nat → Int32)} {mi pc x y : Nat}  {z : Int} {L : List (Option mPV)} {S : List mPV} {w : mPW} {bc bs : Nat} {ps' : mPS} {Q : Option mPV → mPW → Prop} (hf : m_fetch mi pc = some (pc, .iushr, x, y, z)) (he : m_exec mi .iushr x y z pc L S w bc bs = some ps') (K : m_Sem X mi ps' Q) : m_Sem X mi (pc, L, S, w, bc, bs) Q := by
  intro p l e s m args below meth c N0 aI D Qf hC hF H locs ls k n hl hlen hP hS hk hb1 hb2
  have hok := (m_fetch_ok hf).2
  obtain ⟨hx, hb, hml, hown, hts, hin, hK, h0, hX⟩ := id hC
  unfold m_okb at hok
  simp only [Bool.and_eq_true] at hok
  obtain ⟨hok1, hok2⟩ := hok
  dsimp only at hok1 hok2 hl hlen hP hS hk hb1 hb2
  have hdec := of_decide_eq_true hok1
  dsimp only [m_len] at hdec
  simp only [m_exec] at he
  unfold m_bin at he
  split at he
  next b a S' =>
    cases he
    refine lv_iushr hx hb hdec rfl ?_
    have hv : ((Int32.ofInt a).toUInt32 >>> ((Int32.ofInt b).toUInt32 &&& Int32.toUInt32 31)).toInt32 = Int32.ofInt (((Int32.ofInt a).toUInt32 >>> ((Int32.ofInt b).toUInt32 &&& Int32.toUInt32 31)).toInt32).toInt := (Int32.ofInt_toInt _).symm
    rw [hv]
    exact K p l e s m args below meth c N0 aI D Qf hC hF H locs ls k n hl hlen hP hS hk hb1 hb2
  next => cases he
set_option maxHeartbeats 4000000 in
set_option maxRecDepth 100000 in
theorem m_x_land {X : Nat × Nat × (Nat → Int32)} {mi pc x y : Nat}  {z : Int} {L : List (Option mPV)} {S : List mPV} {w : mPW} {bc bs : Nat} {ps' : mPS} {Q : Option mPV → mPW → Prop} (hf : m_fetch mi pc = some (pc, .land, x, y, z)) (he : m_exec mi .land x y z pc L S w bc bs = some ps') (K : m_Sem X mi ps' Q) : m_Sem X mi (pc, L, S, w, bc, bs) Q := by
  intro p l e s m args below meth c N0 aI D Qf hC hF H locs ls k n hl hlen hP hS hk hb1 hb2
  have hok := (m_fetch_ok hf).2
  obtain ⟨hx, hb, hml, hown, hts, hin, hK, h0, hX⟩ := id hC
  unfold m_okb at hok
  simp only [Bool.and_eq_true] at hok
  obtain ⟨hok1, hok2⟩ := hok
  dsimp only at hok1 hok2 hl hlen hP hS hk hb1 hb2
  have hdec := of_decide_eq_true hok1
  dsimp only [m_len] at hdec
  simp only [m_exec] at he
  unfold m_binL at he
  split at he
  next b a S' =>
    cases he
    refine lv_land hx hb hdec ?_
    exact K p l e s m args below meth c N0 aI D Qf hC hF H locs ls k n hl hlen hP hS hk hb1 hb2
  next => cases he
set_option maxHeartbeats 4000000 in
set_option maxRecDepth 100000 in
theorem m_x_lor {X : Nat × Nat × (Nat → Int32)} {mi pc x y : Nat}  {z : Int} {L : List (Option mPV)} {S : List mPV} {w : mPW} {bc bs : Nat} {ps' : mPS} {Q : Option mPV → mPW → Prop} (hf : m_fetch mi pc = some (pc, .lor, x, y, z)) (he : m_exec mi .lor x y z pc L S w bc bs = some ps') (K : m_Sem X mi ps' Q) : m_Sem X mi (pc, L, S, w, bc, bs) Q := by
  intro p l e s m args below meth c N0 aI D Qf hC hF H locs ls k n hl hlen hP hS hk hb1 hb2
  have hok := (m_fetch_ok hf).2
  obtain ⟨hx, hb, hml, hown, hts, hin, hK, h0, hX⟩ := id hC
  unfold m_okb at hok
  simp only [Bool.and_eq_true] at hok
  obtain ⟨hok1, hok2⟩ := hok
  dsimp only at hok1 hok2 hl hlen hP hS hk hb1 hb2
  have hdec := of_decide_eq_true hok1
  dsimp only [m_len] at hdec
  simp only [m_exec] at he
  unfold m_binL at he
  split at he
  next b a S' =>
    cases he
    refine lv_lor hx hb hdec ?_
    exact K p l e s m args below meth c N0 aI D Qf hC hF H locs ls k n hl hlen hP hS hk hb1 hb2
  next => cases he
set_option maxHeartbeats 4000000 in
set_option maxRecDepth 100000 in
theorem m_x_lsub {X : Nat × Nat × (Nat → Int32)} {mi pc x y : Nat}  {z : Int} {L : List (Option mPV)} {S : List mPV} {w : mPW} {bc bs : Nat} {ps' : mPS} {Q : Option mPV → mPW → Prop} (hf : m_fetch mi pc = some (pc, .lsub, x, y, z)) (he : m_exec mi .lsub x y z pc L S w bc bs = some ps') (K : m_Sem X mi ps' Q) : m_Sem X mi (pc, L, S, w, bc, bs) Q := by
  intro p l e s m args below meth c N0 aI D Qf hC hF H locs ls k n hl hlen hP hS hk hb1 hb2
  have hok := (m_fetch_ok hf).2
  obtain ⟨hx, hb, hml, hown, hts, hin, hK, h0, hX⟩ := id hC
  unfold m_okb at hok
  simp only [Bool.and_eq_true] at hok
  obtain ⟨hok1, hok2⟩ := hok
  dsimp only at hok1 hok2 hl hlen hP hS hk hb1 hb2
  have hdec := of_decide_eq_true hok1
  dsimp only [m_len] at hdec
  simp only [m_exec] at he
  unfold m_binL at he
  split at he
  next b a S' =>
    cases he
    refine lv_lsub hx hb hdec ?_
    exact K p l e s m args below meth c N0 aI D Qf hC hF H locs ls k n hl hlen hP hS hk hb1 hb2
  next => cases he
set_option maxHeartbeats 4000000 in
set_option maxRecDepth 100000 in
theorem m_x_lxor {X : Nat × Nat × (Nat → Int32)} {mi pc x y : Nat}  {z : Int} {L : List (Option mPV)} {S : List mPV} {w : mPW} {bc bs : Nat} {ps' : mPS} {Q : Option mPV → mPW → Prop} (hf : m_fetch mi pc = some (pc, .lxor, x, y, z)) (he : m_exec mi .lxor x y z pc L S w bc bs = some ps') (K : m_Sem X mi ps' Q) : m_Sem X mi (pc, L, S, w, bc, bs) Q := by
  intro p l e s m args below meth c N0 aI D Qf hC hF H locs ls k n hl hlen hP hS hk hb1 hb2
  have hok := (m_fetch_ok hf).2
  obtain ⟨hx, hb, hml, hown, hts, hin, hK, h0, hX⟩ := id hC
  unfold m_okb at hok
  simp only [Bool.and_eq_true] at hok
  obtain ⟨hok1, hok2⟩ := hok
  dsimp only at hok1 hok2 hl hlen hP hS hk hb1 hb2
  have hdec := of_decide_eq_true hok1
  dsimp only [m_len] at hdec
  simp only [m_exec] at he
  unfold m_binL at he
  split at he
  next b a S' =>
    cases he
    refine lv_lxor hx hb hdec ?_
    exact K p l e s m args below meth c N0 aI D Qf hC hF H locs ls k n hl hlen hP hS hk hb1 hb2
  next => cases he
set_option maxHeartbeats 4000000 in
set_option maxRecDepth 100000 in
theorem m_x_lshl {X : Nat × Nat × (Nat → Int32)} {mi pc x y : Nat}  {z : Int} {L : List (Option mPV)} {S : List mPV} {w : mPW} {bc bs : Nat} {ps' : mPS} {Q : Option mPV → mPW → Prop} (hf : m_fetch mi pc = some (pc, .lshl, x, y, z)) (he : m_exec mi .lshl x y z pc L S w bc bs = some ps') (K : m_Sem X mi ps' Q) : m_Sem X mi (pc, L, S, w, bc, bs) Q := by
  intro p l e s m args below meth c N0 aI D Qf hC hF H locs ls k n hl hlen hP hS hk hb1 hb2
  have hok := (m_fetch_ok hf).2
  obtain ⟨hx, hb, hml, hown, hts, hin, hK, h0, hX⟩ := id hC
  unfold m_okb at hok
  simp only [Bool.and_eq_true] at hok
  obtain ⟨hok1, hok2⟩ := hok
  dsimp only at hok1 hok2 hl hlen hP hS hk hb1 hb2
  have hdec := of_decide_eq_true hok1
  dsimp only [m_len] at hdec
  simp only [m_exec] at he
  split at he
  next =>
    rename_i b a S'
    cases he
    refine lv_lshl hx hb hdec rfl ?_
    exact K p l e s m args below meth c N0 aI D Qf hC hF H locs ls k n hl hlen hP hS hk hb1 hb2
  next => cases he
set_option maxHeartbeats 4000000 in
set_option maxRecDepth 100000 in
theorem m_x_lshr {X : Nat × Nat × (Nat → Int32)} {mi pc x y : Nat}  {z : Int} {L : List (Option mPV)} {S : List mPV} {w : mPW} {bc bs : Nat} {ps' : mPS} {Q : Option mPV → mPW → Prop} (hf : m_fetch mi pc = some (pc, .lshr, x, y, z)) (he : m_exec mi .lshr x y z pc L S w bc bs = some ps') (K : m_Sem X mi ps' Q) : m_Sem X mi (pc, L, S, w, bc, bs) Q := by
  intro p l e s m args below meth c N0 aI D Qf hC hF H locs ls k n hl hlen hP hS hk hb1 hb2
  have hok := (m_fetch_ok hf).2
  obtain ⟨hx, hb, hml, hown, hts, hin, hK, h0, hX⟩ := id hC
  unfold m_okb at hok
  simp only [Bool.and_eq_true] at hok
  obtain ⟨hok1, hok2⟩ := hok
  dsimp only at hok1 hok2 hl hlen hP hS hk hb1 hb2
  have hdec := of_decide_eq_true hok1
  dsimp only [m_len] at hdec
  simp only [m_exec] at he
  split at he
  next =>
    rename_i b a S'
    cases he
    refine lv_lshr hx hb hdec rfl ?_
    exact K p l e s m args below meth c N0 aI D Qf hC hF H locs ls k n hl hlen hP hS hk hb1 hb2
  next => cases he
set_option maxHeartbeats 4000000 in
set_option maxRecDepth 100000 in
theorem m_x_lcmp {X : Nat × Nat × (Nat → Int32)} {mi pc x y : Nat}  {z : Int} {L : List (Option mPV)} {S : List mPV} {w : mPW} {bc bs : Nat} {ps' : mPS} {Q : Option mPV → mPW → Prop} (hf : m_fetch mi pc = some (pc, .lcmp, x, y, z)) (he : m_exec mi .lcmp x y z pc L S w bc bs = some ps') (K : m_Sem X mi ps' Q) : m_Sem X mi (pc, L, S, w, bc, bs) Q := by
  intro p l e s m args below meth c N0 aI D Qf hC hF H locs ls k n hl hlen hP hS hk hb1 hb2
  have hok := (m_fetch_ok hf).2
  obtain ⟨hx, hb, hml, hown, hts, hin, hK, h0, hX⟩ := id hC
  unfold m_okb at hok
  simp only [Bool.and_eq_true] at hok
  obtain ⟨hok1, hok2⟩ := hok
  dsimp only at hok1 hok2 hl hlen hP hS hk hb1 hb2
  have hdec := of_decide_eq_true hok1
  dsimp only [m_len] at hdec
  simp only [m_exec] at he
  split at he
  next =>
    rename_i b a S'
    cases he
    refine W.lcmp hx hb hdec  ?_
    have hv : (lg_cmp a b) = Int32.ofInt ((lg_cmp a b)).toInt := (Int32.ofInt_toInt _).symm
    rw [hv]
    exact K p l e s m args below meth c N0 aI D Qf hC hF H locs ls k n hl hlen hP hS hk hb1 hb2
  next => cases he
set_option maxHeartbeats 4000000 in
set_option maxRecDepth 100000 in
theorem m_x_l2i {X : Nat × Nat × (Nat → Int32)} {mi pc x y : Nat}  {z : Int} {L : List (Option mPV)} {S : List mPV} {w : mPW} {bc bs : Nat} {ps' : mPS} {Q : Option mPV → mPW → Prop} (hf : m_fetch mi pc = some (pc, .l2i, x, y, z)) (he : m_exec mi .l2i x y z pc L S w bc bs = some ps') (K : m_Sem X mi ps' Q) : m_Sem X mi (pc, L, S, w, bc, bs) Q := by
  intro p l e s m args below meth c N0 aI D Qf hC hF H locs ls k n hl hlen hP hS hk hb1 hb2
  have hok := (m_fetch_ok hf).2
  obtain ⟨hx, hb, hml, hown, hts, hin, hK, h0, hX⟩ := id hC
  unfold m_okb at hok
  simp only [Bool.and_eq_true] at hok
  obtain ⟨hok1, hok2⟩ := hok
  dsimp only at hok1 hok2 hl hlen hP hS hk hb1 hb2
  have hdec := of_decide_eq_true hok1
  dsimp only [m_len] at hdec
  simp only [m_exec] at he
  split at he
  next =>
    rename_i a S'
    cases he
    refine lv_l2i hx hb hdec rfl ?_
    have hv : a.toInt32 = Int32.ofInt (a.toInt32).toInt := (Int32.ofInt_toInt _).symm
    rw [hv]
    exact K p l e s m args below meth c N0 aI D Qf hC hF H locs ls k n hl hlen hP hS hk hb1 hb2
  next => cases he
set_option maxHeartbeats 4000000 in
set_option maxRecDepth 100000 in
theorem m_x_i2l {X : Nat × Nat × (Nat → Int32)} {mi pc x y : Nat}  {z : Int} {L : List (Option mPV)} {S : List mPV} {w : mPW} {bc bs : Nat} {ps' : mPS} {Q : Option mPV → mPW → Prop} (hf : m_fetch mi pc = some (pc, .i2l, x, y, z)) (he : m_exec mi .i2l x y z pc L S w bc bs = some ps') (K : m_Sem X mi ps' Q) : m_Sem X mi (pc, L, S, w, bc, bs) Q := by
  intro p l e s m args below meth c N0 aI D Qf hC hF H locs ls k n hl hlen hP hS hk hb1 hb2
  have hok := (m_fetch_ok hf).2
  obtain ⟨hx, hb, hml, hown, hts, hin, hK, h0, hX⟩ := id hC
  unfold m_okb at hok
  simp only [Bool.and_eq_true] at hok
  obtain ⟨hok1, hok2⟩ := hok
  dsimp only at hok1 hok2 hl hlen hP hS hk hb1 hb2
  have hdec := of_decide_eq_true hok1
  dsimp only [m_len] at hdec
  simp only [m_exec] at he
  split at he
  next =>
    rename_i a S'
    cases he
    refine lv_i2l hx hb hdec rfl ?_
    exact K p l e s m args below meth c N0 aI D Qf hC hF H locs ls k n hl hlen hP hS hk hb1 hb2
  next => cases he
set_option maxHeartbeats 4000000 in
set_option maxRecDepth 100000 in
theorem m_x_i2f {X : Nat × Nat × (Nat → Int32)} {mi pc x y : Nat}  {z : Int} {L : List (Option mPV)} {S : List mPV} {w : mPW} {bc bs : Nat} {ps' : mPS} {Q : Option mPV → mPW → Prop} (hf : m_fetch mi pc = some (pc, .i2f, x, y, z)) (he : m_exec mi .i2f x y z pc L S w bc bs = some ps') (K : m_Sem X mi ps' Q) : m_Sem X mi (pc, L, S, w, bc, bs) Q := by
  intro p l e s m args below meth c N0 aI D Qf hC hF H locs ls k n hl hlen hP hS hk hb1 hb2
  have hok := (m_fetch_ok hf).2
  obtain ⟨hx, hb, hml, hown, hts, hin, hK, h0, hX⟩ := id hC
  unfold m_okb at hok
  simp only [Bool.and_eq_true] at hok
  obtain ⟨hok1, hok2⟩ := hok
  dsimp only at hok1 hok2 hl hlen hP hS hk hb1 hb2
  have hdec := of_decide_eq_true hok1
  dsimp only [m_len] at hdec
  simp only [m_exec] at he
  split at he
  next =>
    rename_i a S'
    cases he
    refine lv_i2f hx hb hdec  ?_
    exact K p l e s m args below meth c N0 aI D Qf hC hF H locs ls k n hl hlen hP hS hk hb1 hb2
  next => cases he
set_option maxHeartbeats 4000000 in
set_option maxRecDepth 100000 in
theorem m_x_f2i {X : Nat × Nat × (Nat → Int32)} {mi pc x y : Nat}  {z : Int} {L : List (Option mPV)} {S : List mPV} {w : mPW} {bc bs : Nat} {ps' : mPS} {Q : Option mPV → mPW → Prop} (hf : m_fetch mi pc = some (pc, .f2i, x, y, z)) (he : m_exec mi .f2i x y z pc L S w bc bs = some ps') (K : m_Sem X mi ps' Q) : m_Sem X mi (pc, L, S, w, bc, bs) Q := by
  intro p l e s m args below meth c N0 aI D Qf hC hF H locs ls k n hl hlen hP hS hk hb1 hb2
  have hok := (m_fetch_ok hf).2
  obtain ⟨hx, hb, hml, hown, hts, hin, hK, h0, hX⟩ := id hC
  unfold m_okb at hok
  simp only [Bool.and_eq_true] at hok
  obtain ⟨hok1, hok2⟩ := hok
  dsimp only at hok1 hok2 hl hlen hP hS hk hb1 hb2
  have hdec := of_decide_eq_true hok1
  dsimp only [m_len] at hdec
  simp only [m_exec] at he
  split at he
  next =>
    rename_i a S'
    cases he
    refine lv_f2i hx hb hdec  ?_
    have hv : (FP.f2i a) = Int32.ofInt ((FP.f2i a)).toInt := (Int32.ofInt_toInt _).symm
    rw [hv]
    exact K p l e s m args below meth c N0 aI D Qf hC hF H locs ls k n hl hlen hP hS hk hb1 hb2
  next => cases he
set_option maxHeartbeats 4000000 in
set_option maxRecDepth 100000 in
theorem m_x_fcmp {X : Nat × Nat × (Nat → Int32)} {mi pc x y : Nat} {o : CmpOp} {z : Int} {L : List (Option mPV)} {S : List mPV} {w : mPW} {bc bs : Nat} {ps' : mPS} {Q : Option mPV → mPW → Prop} (hf : m_fetch mi pc = some (pc, (.fcmp o), x, y, z)) (he : m_exec mi (.fcmp o) x y z pc L S w bc bs = some ps') (K : m_Sem X mi ps' Q) : m_Sem X mi (pc, L, S, w, bc, bs) Q := by
  intro p l e s m args below meth c N0 aI D Qf hC hF H locs ls k n hl hlen hP hS hk hb1 hb2
  have hok := (m_fetch_ok hf).2
  obtain ⟨hx, hb, hml, hown, hts, hin, hK, h0, hX⟩ := id hC
  unfold m_okb at hok
  simp only [Bool.and_eq_true] at hok
  obtain ⟨hok1, hok2⟩ := hok
  dsimp only at hok1 hok2 hl hlen hP hS hk hb1 hb2
  have hdec := of_decide_eq_true hok1
  dsimp only [m_len] at hdec
  simp only [m_exec] at he
  split at he
  next =>
    rename_i b a S'
    cases he
    refine lv_fcmp hx hb hdec  ?_
    have hv : (Op.cmpValue (FP.fcmp a b) o) = Int32.ofInt ((Op.cmpValue (FP.fcmp a b) o)).toInt := (Int32.ofInt_toInt _).symm
    rw [hv]
    exact K p l e s m args below meth c N0 aI D Qf hC hF H locs ls k n hl hlen hP hS hk hb1 hb2
  next => cases he
set_option maxHeartbeats 4000000 in
set_option maxRecDepth 100000 in
theorem m_x_pop {X : Nat × Nat × (Nat → Int32)} {mi pc x y : Nat}  {z : Int} {L : List (Option mPV)} {S : List mPV} {w : mPW} {bc bs : Nat} {ps' : mPS} {Q : Option mPV → mPW → Prop} (hf : m_fetch mi pc = some (pc, .pop, x, y, z)) (he : m_exec mi .pop x y z pc L S w bc bs = some ps') (K : m_Sem X mi ps' Q) : m_Sem X mi (pc, L, S, w, bc, bs) Q := by
  intro p l e s m args below meth c N0 aI D Qf hC hF H locs ls k n hl hlen hP hS hk hb1 hb2
  have hok := (m_fetch_ok hf).2
  obtain ⟨hx, hb, hml, hown, hts, hin, hK, h0, hX⟩ := id hC
  unfold m_okb at hok
  simp only [Bool.and_eq_true] at hok
  obtain ⟨hok1, hok2⟩ := hok
  dsimp only at hok1 hok2 hl hlen hP hS hk hb1 hb2
  have hdec := of_decide_eq_true hok1
  dsimp only [m_len] at hdec
  simp only [m_exec] at he
  split at he
  next =>
    rename_i v S'
    cases hv : Nat.beq (m_cat v) 1 with
    | false => rw [hv] at he; cases he
    | true =>
      rw [hv] at he
      cases he
      refine lv_pop hx hb hdec (by rw [m_cat_cv]; exact Nat.eq_of_beq_eq_true hv) ?_
      exact K p l e s m args below meth c N0 aI D Qf hC hF H locs ls k n hl hlen hP hS hk hb1 hb2
  next => cases he
set_option maxHeartbeats 4000000 in
set_option maxRecDepth 100000 in
theorem m_x_dup {X : Nat × Nat × (Nat → Int32)} {mi pc x y : Nat}  {z : Int} {L : List (Option mPV)} {S : List mPV} {w : mPW} {bc bs : Nat} {ps' : mPS} {Q : Option mPV → mPW → Prop} (hf : m_fetch mi pc = some (pc, .dup, x, y, z)) (he : m_exec mi .dup x y z pc L S w bc bs = some ps') (K : m_Sem X mi ps' Q) : m_Sem X mi (pc, L, S, w, bc, bs) Q := by
  intro p l e s m args below meth c N0 aI D Qf hC hF H locs ls k n hl hlen hP hS hk hb1 hb2
  have hok := (m_fetch_ok hf).2
  obtain ⟨hx, hb, hml, hown, hts, hin, hK, h0, hX⟩ := id hC
  unfold m_okb at hok
  simp only [Bool.and_eq_true] at hok
  obtain ⟨hok1, hok2⟩ := hok
  dsimp only at hok1 hok2 hl hlen hP hS hk hb1 hb2
  have hdec := of_decide_eq_true hok1
  dsimp only [m_len] at hdec
  simp only [m_exec] at he
  split at he
  next =>
    rename_i v S'
    cases hv : Nat.beq (m_cat v) 1 with
    | false => rw [hv] at he; cases he
    | true =>
      rw [hv] at he
      cases he
      refine lv_dup hx hb hdec (by rw [m_cat_cv]; exact Nat.eq_of_beq_eq_true hv) ?_
      exact K p l e s m args below meth c N0 aI D Qf hC hF H locs ls k n hl hlen hP hS hk hb1 hb2
  next => cases he
set_option maxHeartbeats 4000000 in
set_option maxRecDepth 100000 in
theorem m_x_dup2 {X : Nat × Nat × (Nat → Int32)} {mi pc x y : Nat}  {z : Int} {L : List (Option mPV)} {S : List mPV} {w : mPW} {bc bs : Nat} {ps' : mPS} {Q : Option mPV → mPW → Prop} (hf : m_fetch mi pc = some (pc, .dup2, x, y, z)) (he : m_exec mi .dup2 x y z pc L S w bc bs = some ps') (K : m_Sem X mi ps' Q) : m_Sem X mi (pc, L, S, w, bc, bs) Q := by
  intro p l e s m args below meth c N0 aI D Qf hC hF H locs ls k n hl hlen hP hS hk hb1 hb2
  have hok := (m_fetch_ok hf).2
  obtain ⟨hx, hb, hml, hown, hts, hin, hK, h0, hX⟩ := id hC
  unfold m_okb at hok
  simp only [Bool.and_eq_true] at hok
  obtain ⟨hok1, hok2⟩ := hok
  dsimp only at hok1 hok2 hl hlen hP hS hk hb1 hb2
  have hdec := of_decide_eq_true hok1
  dsimp only [m_len] at hdec
  simp only [m_exec] at he
  split at he
  next =>
    rename_i u v S'
    cases hu : Nat.beq (m_cat u) 1 with
    | false => rw [hu] at he; cases he
    | true =>
      cases hv : Nat.beq (m_cat v) 1 with
      | false => rw [hu, hv] at he; cases he
      | true =>
        rw [hu, hv] at he
        cases he
        refine lv_dup2_11 hx hb hdec (by rw [m_cat_cv]; exact Nat.eq_of_beq_eq_true hu) (by rw [m_cat_cv]; exact Nat.eq_of_beq_eq_true hv) ?_
        exact K p l e s m args below meth c N0 aI D Qf hC hF H locs ls k n hl hlen hP hS hk hb1 hb2
  next => cases he
set_option maxHeartbeats 4000000 in
set_option maxRecDepth 100000 in
theorem m_x_goto {X : Nat × Nat × (Nat → Int32)} {mi pc x y : Nat} {o : Int} {z : Int} {L : List (Option mPV)} {S : List mPV} {w : mPW} {bc bs : Nat} {ps' : mPS} {Q : Option mPV → mPW → Prop} (hf : m_fetch mi pc = some (pc, (.goto o), x, y, z)) (he : m_exec mi (.goto o) x y z pc L S w bc bs = some ps') (K : m_Sem X mi ps' Q) : m_Sem X mi (pc, L, S, w, bc, bs) Q := by
  intro p l e s m args below meth c N0 aI D Qf hC hF H locs ls k n hl hlen hP hS hk hb1 hb2
  have hok := (m_fetch_ok hf).2
  obtain ⟨hx, hb, hml, hown, hts, hin, hK, h0, hX⟩ := id hC
  unfold m_okb at hok
  simp only [Bool.and_eq_true] at hok
  obtain ⟨hok1, hok2⟩ := hok
  dsimp only at hok1 hok2 hl hlen hP hS hk hb1 hb2
  have hdec := of_decide_eq_true hok1
  dsimp only [m_len] at hdec
  cases he
  refine lv_goto hx hb hdec (of_decide_eq_true hok2) ?_
  exact K p l e s m args below meth c N0 aI D Qf hC hF H locs ls k n hl hlen hP hS hk hb1 hb2
set_option maxHeartbeats 4000000 in
set_option maxRecDepth 100000 in
theorem m_x_iinc {X : Nat × Nat × (Nat → Int32)} {mi pc x y : Nat} {i : Nat} {d : Int} {z : Int} {L : List (Option mPV)} {S : List mPV} {w : mPW} {bc bs : Nat} {ps' : mPS} {Q : Option mPV → mPW → Prop} (hf : m_fetch mi pc = some (pc, (.iinc i d), x, y, z)) (he : m_exec mi (.iinc i d) x y z pc L S w bc bs = some ps') (K : m_Sem X mi ps' Q) : m_Sem X mi (pc, L, S, w, bc, bs) Q := by
  intro p l e s m args below meth c N0 aI D Qf hC hF H locs ls k n hl hlen hP hS hk hb1 hb2
  have hok := (m_fetch_ok hf).2
  obtain ⟨hx, hb, hml, hown, hts, hin, hK, h0, hX⟩ := id hC
  unfold m_okb at hok
  simp only [Bool.and_eq_true] at hok
  obtain ⟨hok1, hok2⟩ := hok
  dsimp only at hok1 hok2 hl hlen hP hS hk hb1 hb2
  have hdec := of_decide_eq_true hok1
  dsimp only [m_len] at hdec
  simp only [m_exec] at he
  split at he
  next v hv =>
    cases hi : Nat.blt i L.length with
    | false => rw [hi] at he; cases he
    | true =>
      rw [hi] at he
      cases he
      have hi := Nat.le_of_ble_eq_true hi
      have hm := m_as_get (N0 := N0) L 0 i _ hv
      rw [Nat.zero_add] at hm
      obtain ⟨j, hj⟩ := List.mem_iff_getElem?.mp hm
      refine lv_iinc hx hb hdec hl hj (m_of_add v d).symm (by rw [← hlen]; exact hi) rfl (fun ls2 hl2 => ?_)
      exact K p l e s m args below meth c N0 aI D Qf hC hF H locs ls2 k n (m_has_st rfl hl2) (by rw [m_st_len]; exact hlen) hP hS hk hb1 hb2
  next => cases he
set_option maxHeartbeats 4000000 in
set_option maxRecDepth 100000 in
theorem m_x_arraylength {X : Nat × Nat × (Nat → Int32)} {mi pc x y : Nat}  {z : Int} {L : List (Option mPV)} {S : List mPV} {w : mPW} {bc bs : Nat} {ps' : mPS} {Q : Option mPV → mPW → Prop} (hf : m_fetch mi pc = some (pc, .arraylength, x, y, z)) (he : m_exec mi .arraylength x y z pc L S w bc bs = some ps') (K : m_Sem X mi ps' Q) : m_Sem X mi (pc, L, S, w, bc, bs) Q := by
  intro p l e s m args below meth c N0 aI D Qf hC hF H locs ls k n hl hlen hP hS hk hb1 hb2
  have hok := (m_fetch_ok hf).2
  obtain ⟨hx, hb, hml, hown, hts, hin, hK, h0, hX⟩ := id hC
  unfold m_okb at hok
  simp only [Bool.and_eq_true] at hok
  obtain ⟨hok1, hok2⟩ := hok
  dsimp only at hok1 hok2 hl hlen hP hS hk hb1 hb2
  have hdec := of_decide_eq_true hok1
  dsimp only [m_len] at hdec
  simp only [m_exec] at he
  split at he
  next =>
    split at he
    next t v f hw =>
      cases ht : Nat.blt t 3 with
      | false => rw [ht] at he; cases he
      | true =>
        rw [ht] at he
        cases he
        have ht := Nat.le_of_ble_eq_true ht
        have hty : ∃ ty, (m_tys aI)[t]? = some (aI t, ty) := by
          rcases (show t = 0 ∨ t = 1 ∨ t = 2 by omega) with rfl | rfl | rfl
          · exact ⟨_, rfl⟩
          · exact ⟨_, rfl⟩
          · exact ⟨_, rfl⟩
        obtain ⟨ty, hty⟩ := hty
        have hv : Int32.ofInt (v : Int) = Int32.ofNat v := Int32.ofInt_eq_ofNat
        rcases f with f | f
        · refine va_alen hx hb hK hP _ t (m_cw_at hw) hty rfl hdec ?_
          show W p l e _ s m args below meth c H locs k n Qf (F0 m _ ls (.int (Int32.ofNat v) :: _))
          rw [← hv]
          exact K p l e s m args below meth c N0 aI D Qf hC hF H locs ls k n hl hlen hP hS hk hb1 hb2
        · refine va_alen hx hb hK hP _ t (m_cw_at hw) hty rfl hdec ?_
          show W p l e _ s m args below meth c H locs k n Qf (F0 m _ ls (.int (Int32.ofNat v) :: _))
          rw [← hv]
          exact K p l e s m args below meth c N0 aI D Qf hC hF H locs ls k n hl hlen hP hS hk hb1 hb2
    next => cases he
  next => cases he
set_option maxHeartbeats 4000000 in
set_option maxRecDepth 100000 in
theorem m_x_getfield {X : Nat × Nat × (Nat → Int32)} {mi pc x y : Nat} {i : Nat} {z : Int} {L : List (Option mPV)} {S : List mPV} {w : mPW} {bc bs : Nat} {ps' : mPS} {Q : Option mPV → mPW → Prop} (hf : m_fetch mi pc = some (pc, (.getfield i), x, y, z)) (he : m_exec mi (.getfield i) x y z pc L S w bc bs = some ps') (K : m_Sem X mi ps' Q) : m_Sem X mi (pc, L, S, w, bc, bs) Q := by
  intro p l e s m args below meth c N0 aI D Qf hC hF H locs ls k n hl hlen hP hS hk hb1 hb2
  have hok := (m_fetch_ok hf).2
  obtain ⟨hx, hb, hml, hown, hts, hin, hK, h0, hX⟩ := id hC
  unfold m_okb at hok
  simp only [Bool.and_eq_true] at hok
  obtain ⟨hok1, hok2⟩ := hok
  dsimp only at hok1 hok2 hl hlen hP hS hk hb1 hb2
  have hdec := of_decide_eq_true hok1
  dsimp only [m_len] at hdec
  obtain ⟨r, hr, hyN, hlink⟩ := m_flds_w _ (of_decide_eq_true hok2)
  simp only [m_exec] at he
  unfold m_getf at he
  split at he
  next q S' =>
    split at he
    next ci fs hw =>
      cases hci : Nat.beq ci x with
      | false => rw [hci] at he; cases he
      | true =>
        rw [hci] at he
        have hci := Nat.eq_of_beq_eq_true hci
        subst hci
        simp only [cond_true] at he
        split at he
        next v hv =>
          cases he
          refine va_get (C := r.1) (T := r.2.1) (N := r.2.2) hx hb hts (m_uw _ r hr) hown hK hP q (m_cw_at hw) hr y hyN (hts _ hlink) (fun _ h => h) (v := m_cv N0 v) (by rw [List.getElem?_map, hv]; rfl) hdec ?_
          exact K p l e s m args below meth c N0 aI D Qf hC hF H locs ls k n hl hlen hP hS hk hb1 hb2
        next => cases he
    next => cases he
  next => cases he
set_option maxHeartbeats 4000000 in
set_option maxRecDepth 100000 in
theorem m_x_putfield {X : Nat × Nat × (Nat → Int32)} {mi pc x y : Nat} {i : Nat} {z : Int} {L : List (Option mPV)} {S : List mPV} {w : mPW} {bc bs : Nat} {ps' : mPS} {Q : Option mPV → mPW → Prop} (hf : m_fetch mi pc = some (pc, (.putfield i), x, y, z)) (he : m_exec mi (.putfield i) x y z pc L S w bc bs = some ps') (K : m_Sem X mi ps' Q) : m_Sem X mi (pc, L, S, w, bc, bs) Q := by
  intro p l e s m args below meth c N0 aI D Qf hC hF H locs ls k n hl hlen hP hS hk hb1 hb2
  have hok := (m_fetch_ok hf).2
  obtain ⟨hx, hb, hml, hown, hts, hin, hK, h0, hX⟩ := id hC
  unfold m_okb at hok
  simp only [Bool.and_eq_true] at hok
  obtain ⟨hok1, hok2⟩ := hok
  dsimp only at hok1 hok2 hl hlen hP hS hk hb1 hb2
  have hdec := of_decide_eq_true hok1
  dsimp only [m_len] at hdec
  try simp only [Bool.and_eq_true] at hok2
  obtain ⟨hok2, hok3⟩ := hok2
  obtain ⟨r, hr, hyN, hlink⟩ := m_flds_w _ (of_decide_eq_true hok2)
  simp only [m_exec] at he
  have hr2 : vwCl[x]? = some r := hr
  rw [hr2] at hok3
  obtain ⟨ty0, hty, hnm, -⟩ := m_vt _ r hr
  by_cases hz : z = 0
  · rw [if_pos hz] at he
    simp only [hz, if_true] at hok3
    have hI : r.2.1 y = ((r.2.1 y).1, (r.2.1 y).2.1, "I", false) := of_decide_eq_true hok3
    unfold m_putI at he
    split at he
    next v q S' =>
      split at he
      next ci fs hw =>
        cases hci : Nat.beq ci x with
        | false => rw [hci] at he; cases he
        | true =>
          cases hyl : Nat.blt y fs.length with
          | false => rw [hci, hyl] at he; cases he
          | true =>
            rw [hci, hyl] at he
            have hci := Nat.eq_of_beq_eq_true hci
            subst hci
            have hyl := Nat.le_of_ble_eq_true hyl
            cases he
            refine va_put (C := r.1) (T := r.2.1) (N := r.2.2) (ty := .int) hx hb hts (m_uw _ r hr) ty0 hty hnm hown hK hP m_cw_D hS q (m_cw_at hw) hr y hyN (hts _ hlink) (fun _ h => h) (by rw [hI]) (by rw [hI]; show parseFieldDescriptor "I" = _; decide +kernel) rfl rfl (by rw [List.length_map]; exact hyl) hdec (fun H1 locs1 hP1 _ hS1 => ?_)
            have hP2 : va_P D vwCl (m_cw N0 aI 0 (w.set q (.inr (ci, fs.set y (.inl v))))) H1 := by
              rw [m_cw_set, Nat.zero_add]
              show va_P D vwCl ((m_cw N0 aI 0 w).set q (N0 + q, .inr (ci, (fs.set y (.inl v)).map (m_cv N0)))) H1
              rw [List.map_set]
              exact hP1
            exact K p l e s m args below meth c N0 aI D Qf hC hF H1 locs1 ls k n hl hlen hP2 hS1 (by rw [hk, List.length_set]) hb1 hb2
      next => cases he
    next => cases he
  · rw [if_neg hz] at he
    simp only [hz, if_false, Bool.and_eq_true] at hok3
    obtain ⟨⟨⟨g1, g2⟩, g3⟩, g4⟩ := hok3
    have hG : m_kind mi = 2 := of_decide_eq_true g2
    have hO : (r.2.1 y).1 = m_own mi := of_decide_eq_true g3
    unfold m_putA at he
    split at he
    next v q S' =>
      split at he
      next ci fs hw =>
        cases hci : Nat.beq ci x with
        | false => rw [hci] at he; cases he
        | true =>
          cases hyl : Nat.blt y fs.length with
          | false => rw [hci, hyl] at he; cases he
          | true =>
            rw [hci, hyl] at he
            have hci := Nat.eq_of_beq_eq_true hci
            subst hci
            have hyl := Nat.le_of_ble_eq_true hyl
            cases he
            obtain ⟨ty, hd, hn, hf⟩ : ∃ ty, parseFieldDescriptor (r.2.1 y).2.2.1 = some ty ∧ narrow ty (.ref (N0 + v)) = .ref (N0 + v) ∧ fits ty (.ref (N0 + v)) = true := by
              split at g4
              next o h => exact ⟨_, h, rfl, rfl⟩
              next o h => exact ⟨_, h, rfl, rfl⟩
              next => cases g4
            refine va_putF (C := r.1) (T := r.2.1) (N := r.2.2) (ty := ty) (v := .ref (N0 + v)) hx hb hts (m_uw _ r hr) ty0 hty hnm hown hK hP m_cw_D hS q (m_cw_at hw) hr y hyN (hts _ hlink) (fun _ h => h) g1 (hin hG) hO hd hn hf (by rw [List.length_map]; exact hyl) hdec (fun H1 locs1 hP1 _ hS1 => ?_)
            have hP2 : va_P D vwCl (m_cw N0 aI 0 (w.set q (.inr (ci, fs.set y (.inr (.inl v)))))) H1 := by
              rw [m_cw_set, Nat.zero_add]
              show va_P D vwCl ((m_cw N0 aI 0 w).set q (N0 + q, .inr (ci, (fs.set y (.inr (.inl v))).map (m_cv N0)))) H1
              rw [List.map_set]
              exact hP1
            exact K p l e s m args below meth c N0 aI D Qf hC hF H1 locs1 ls k n hl hlen hP2 hS1 (by rw [hk, List.length_set]) hb1 hb2
      next => cases he
    next => cases he
set_option maxHeartbeats 4000000 in
set_option maxRecDepth 100000 in
theorem m_x_new {X : Nat × Nat × (Nat → Int32)} {mi pc x y : Nat} {i : Nat} {z : Int} {L : List (Option mPV)} {S : List mPV} {w : mPW} {bc bs : Nat} {ps' : mPS} {Q : Option mPV → mPW → Prop} (hf : m_fetch mi pc = some (pc, (.new i), x, y, z)) (he : m_exec mi (.new i) x y z pc L S w bc bs = some ps') (K : m_Sem X mi ps' Q) : m_Sem X mi (pc, L, S, w, bc, bs) Q := by
  intro p l e s m args below meth c N0 aI D Qf hC hF H locs ls k n hl hlen hP hS hk hb1 hb2
  have hok := (m_fetch_ok hf).2
  obtain ⟨hx, hb, hml, hown, hts, hin, hK, h0, hX⟩ := id hC
  unfold m_okb at hok
  simp only [Bool.and_eq_true] at hok
  obtain ⟨hok1, hok2⟩ := hok
  dsimp only at hok1 hok2 hl hlen hP hS hk hb1 hb2
  have hdec := of_decide_eq_true hok1
  dsimp only [m_len] at hdec
  obtain ⟨r, hr, hcl, hin1, hin2⟩ := m_clss_w _ (of_decide_eq_true hok2)
  obtain ⟨ty0, hty, hnm, hdf⟩ := m_vt _ r hr
  simp only [m_exec] at he
  unfold m_newo at he
  split at he
  next r' fs b h1 h2 =>
    cases hr.symm.trans h1
    cases hbs : Nat.ble r.2.2 bs with
    | false => rw [hbs] at he; cases he
    | true =>
      rw [hbs] at he
      cases he
      have hbs := Nat.le_of_ble_eq_true hbs
      intro T hT XT
      subst hT
      have hz := m_size (X := X) (mi := mi) h0 hP hS hk XT
      have hKn := hK.1 x _ hr
      suffices key : W p l e (m_rm mi) s m args below meth c T.heap locs k n Qf (F0 m pc ls (S.map (m_cv N0))) from key T rfl XT
      refine W.newcK (C := r.1) (n := r.2.2) hx hb hown (hts _ hcl) (hts _ hin1) (hts _ hin2) rfl hdec (by omega) (by omega) hKn.2.1 hz (fun H1 kC hkC e1 z1 o1 => ?_)
      have hP2 : va_P D vwCl (m_cw N0 aI 0 (w ++ [.inr (x, fs)])) H1 := by
        rw [m_cw_app, Nat.zero_add]
        refine (hP.kept (fun j q hq => o1 q.1 (by have h3 : q.1 < T.heap.size := (hP j q hq).lt; omega))).app (fun j q hq => ?_)
        have hj : j < 1 := (List.getElem?_eq_some_iff.mp hq).1
        rw [show j = 0 by omega] at hq
        cases hq
        exact ⟨_, hr, (u_born ty0 hts (m_uw _ r hr) hKn hkC e1 hty).to (hdf fs h2 N0)⟩
      exact K p l e s m args below meth c N0 aI D Qf hC hF H1 locs ls (k + 1) (n + r.2.2) hl hlen hP2 ⟨Nat.le_trans hS.1 (by omega), fun q g1 g2 => (o1 q (by have := hS.1; omega)).trans (hS.2.1 q g1 g2), hS.2.2⟩ (by rw [List.length_append]; show _ = _ + (_ + 1); omega) (by show k + 1 + b = _; omega) (by show n + r.2.2 + (bs - r.2.2) ≤ _; omega)
  next => cases he
set_option maxHeartbeats 4000000 in
set_option maxRecDepth 100000 in
theorem m_x_newarray {X : Nat × Nat × (Nat → Int32)} {mi pc x y : Nat} {t : ArrayType} {z : Int} {L : List (Option mPV)} {S : List mPV} {w : mPW} {bc bs : Nat} {ps' : mPS} {Q : Option mPV → mPW → Prop} (hf : m_fetch mi pc = some (pc, (.newarray t), x, y, z)) (he : m_exec mi (.newarray t) x y z pc L S w bc bs = some ps') (K : m_Sem X mi ps' Q) : m_Sem X mi (pc, L, S, w, bc, bs) Q := by
  intro p l e s m args below meth c N0 aI D Qf hC hF H locs ls k n hl hlen hP hS hk hb1 hb2
  have hok := (m_fetch_ok hf).2
  obtain ⟨hx, hb, hml, hown, hts, hin, hK, h0, hX⟩ := id hC
  unfold m_okb at hok
  simp only [Bool.and_eq_true] at hok
  obtain ⟨hok1, hok2⟩ := hok
  dsimp only at hok1 hok2 hl hlen hP hS hk hb1 hb2
  have hdec := of_decide_eq_true hok1
  dsimp only [m_len] at hdec
  try simp only [Bool.and_eq_true] at hok2
  obtain ⟨hok2, hok3⟩ := hok2
  have hok2 := of_decide_eq_true hok2
  have hok3 := of_decide_eq_true hok3
  simp only [m_exec] at he
  unfold m_newr at he
  split at he
  next v S' =>
    split at he
    next b =>
      cases hbs : (Nat.ble v bs && Nat.ble v 65536 && Nat.blt x 3) with
      | false => rw [hbs] at he; cases he
      | true =>
        rw [hbs] at he
        cases he
        simp only [Bool.and_eq_true] at hbs
        obtain ⟨⟨hbs, hb6⟩, -⟩ := hbs
        have hbs := Nat.le_of_ble_eq_true hbs
        have hb6 := Nat.le_of_ble_eq_true hb6
        intro T hT XT
        subst hT
        have hz := m_size (X := X) (mi := mi) h0 hP hS hk XT
        have hR : m_R (Int.ofNat v) := ⟨by have := Int.natCast_nonneg v; show _ ≤ (v : Int); omega, by show (v : Int) < _; omega⟩
        have hv0 : ¬ Int32.ofInt (Int.ofNat v) < 0 := by
          have h3 := m_R_lt hR m_R_0
          rw [show (Int32.ofInt 0) = 0 from rfl] at h3
          rw [h3]
          have := Int.natCast_nonneg v
          show ¬ (v : Int) < 0
          omega
        have harr : (Cond.arrayClass (newarray.typeOf t)).before args s = true := by
          rw [hok2]
          rcases (show x = 0 ∨ x = 1 ∨ x = 2 by have : x < 3 := hok3; omega) with rfl | rfl | rfl
          · exact hts _ m_arr_w.1
          · exact hts _ m_arr_w.2.1
          · exact hts _ m_arr_w.2.2
        have hcb : componentBytes (newarray.typeOf t) ≤ 8 := by cases t <;> decide
        suffices key : W p l e (m_rm mi) s m args below meth c T.heap locs k n Qf (F0 m pc ls ((.inl (Int.ofNat v) :: S').map (m_cv N0))) from key T rfl XT
        refine va_newaK (N := v) hx hb harr rfl hdec rfl hv0 (by rw [m_R_nat hR]; rfl) (by have := Nat.mul_le_mul hb6 hcb; omega) (by omega) (by omega) hz (fun H1 cA e1 z1 o1 hA1 hA2 => ?_)
        have hP2 : va_P D vwCl (m_cw N0 aI 0 (w ++ [.inl (x, v, bif Nat.beq x 2 then .inr (fun _ => 0) else .inl (fun _ => 0))])) H1 := by
          rw [m_cw_app, Nat.zero_add]
          refine (hP.kept (fun j q hq => o1 q.1 (by have h3 : q.1 < T.heap.size := (hP j q hq).lt; omega))).app (fun j q hq => ?_)
          have hj : j < 1 := (List.getElem?_eq_some_iff.mp hq).1
          rw [show j = 0 by omega] at hq
          cases hq
          rw [hok2] at e1 hA2
          show va_at D vwCl (N0 + w.length, _) H1
          rcases (show x = 0 ∨ x = 1 ∨ x = 2 by have : x < 3 := hok3; omega) with rfl | rfl | rfl
          · have hc : aI 0 = cA := Option.some.inj ((hK.2 0 _ rfl).2.symm.trans hA2)
            show H1[N0 + w.length]? = some (vp_cell (aI 0) (v, .inl (fun _ => Int32.ofInt 0)))
            rw [hc, vp_cell_i]
            exact e1
          · have hc : aI 1 = cA := Option.some.inj ((hK.2 1 _ rfl).2.symm.trans hA2)
            show H1[N0 + w.length]? = some (vp_cell (aI 1) (v, .inl (fun _ => Int32.ofInt 0)))
            rw [hc, vp_cell_i]
            exact e1
          · have hc : aI 2 = cA := Option.some.inj ((hK.2 2 _ rfl).2.symm.trans hA2)
            show H1[N0 + w.length]? = some (vp_cell (aI 2) (v, .inr (.inl (fun _ => 0))))
            rw [hc, vp_cell_l]
            exact e1
        exact K p l e s m args below meth c N0 aI D Qf hC hF H1 locs ls (k + 1) (n + v) hl hlen hP2 ⟨Nat.le_trans hS.1 (by omega), fun q g1 g2 => (o1 q (by have := hS.1; omega)).trans (hS.2.1 q g1 g2), hS.2.2⟩ (by rw [List.length_append]; show _ = _ + (_ + 1); omega) (by show k + 1 + b = _; omega) (by show n + v + (bs - v) ≤ _; omega)
    next => cases he
  next => cases he
set_option maxHeartbeats 4000000 in
set_option maxRecDepth 100000 in
theorem m_x_invokespecial {X : Nat × Nat × (Nat → Int32)} {mi pc x y : Nat} {i : Nat} {z : Int} {L : List (Option mPV)} {S : List mPV} {w : mPW} {bc bs : Nat} {ps' : mPS} {Q : Option mPV → mPW → Prop} (hf : m_fetch mi pc = some (pc, (.invokespecial i), x, y, z)) (he : m_exec mi (.invokespecial i) x y z pc L S w bc bs = some ps') (K : m_Sem X mi ps' Q) : m_Sem X mi (pc, L, S, w, bc, bs) Q := by
  intro p l e s m args below meth c N0 aI D Qf hC hF H locs ls k n hl hlen hP hS hk hb1 hb2
  have hok := (m_fetch_ok hf).2
  obtain ⟨hx, hb, hml, hown, hts, hin, hK, h0, hX⟩ := id hC
  unfold m_okb at hok
  simp only [Bool.and_eq_true] at hok
  obtain ⟨hok1, hok2⟩ := hok
  dsimp only at hok1 hok2 hl hlen hP hS hk hb1 hb2
  have hdec := of_decide_eq_true hok1
  dsimp only [m_len] at hdec
  try simp only [Bool.and_eq_true] at hok2
  obtain ⟨hok2, hok3⟩ := hok2
  have hw := m_mths_w _ (of_decide_eq_true hok2)
  simp only [m_exec] at he
  split at he
  next q S' =>
    cases hg : (Nat.beq x 1000 && (Nat.ble 1 (m_rm mi).frames && Nat.ble ((S'.map m_cat).sum + 12) (m_rm mi).locals)) with
    | false => rw [hg] at he; cases he
    | true =>
      rw [hg] at he
      cases he
      simp only [Bool.and_eq_true] at hg
      obtain ⟨h1, h2, h3⟩ := hg
      have h1 := Nat.eq_of_beq_eq_true h1
      have h2 := Nat.le_of_ble_eq_true h2
      have h3 := Nat.le_of_ble_eq_true h3
      subst h1
      refine W.objInit hx hb hown (hts _ hw) (hts _ m_obj_w.1) (hts _ m_obj_w.2) rfl (by rw [hml]; exact hl.1) rfl hdec h2 (by show 2 * 0 + _ + 12 ≤ _; rw [m_cats]; omega) ?_
      exact K p l e s m args below meth c N0 aI D Qf hC hF H locs ls k n hl hlen hP hS hk hb1 hb2
  next => cases he
set_option maxHeartbeats 4000000 in
theorem m_step1 {X : Nat × Nat × (Nat → Int32)} {mi pc x y : Nat} {ins : Instr} {z : Int} {L : List (Option mPV)} {S : List mPV} {w : mPW} {bc bs : Nat} {ps' : mPS} {Q : Option mPV → mPW → Prop} (hf : m_fetch mi pc = some (pc, ins, x, y, z)) (he : m_exec mi ins x y z pc L S w bc bs = some ps') (K : m_Sem X mi ps' Q) : m_Sem X mi (pc, L, S, w, bc, bs) Q := by
  cases ins
  case iload i => exact m_x_iload hf he K
  case lload i => exact m_x_lload hf he K
  case iload_n i => exact m_x_iload_n hf he K
  case lload_n i => exact m_x_lload_n hf he K
  case fload_n i => exact m_x_fload_n hf he K
  case aload i => exact m_x_aload hf he K
  case aload_n i => exact m_x_aload_n hf he K
  case istore i => exact m_x_istore hf he K
  case istore_n i => exact m_x_istore_n hf he K
  case astore i => exact m_x_astore hf he K
  case astore_n i => exact m_x_astore_n hf he K
  case fstore_n i => exact m_x_fstore_n hf he K
  case lstore i => exact m_x_lstore hf he K
  case lstore_n i => exact m_x_lstore_n hf he K
  case iconst v => exact m_x_iconst hf he K
  case bipush v => exact m_x_bipush hf he K
  case sipush v => exact m_x_sipush hf he K
  case ldc i => exact m_x_ldc hf he K
  case ldc_w i => exact m_x_ldc_w hf he K
  case ldc2_w i => exact m_x_ldc2_w hf he K
  case lconst v => exact m_x_lconst hf he K
  case fconst v => exact m_x_fconst hf he K
  case iadd => exact m_x_iadd hf he K
  case isub => exact m_x_isub hf he K
  case imul => exact m_x_imul hf he K
  case iand => exact m_x_iand hf he K
  case ior => exact m_x_ior hf he K
  case ixor => exact m_x_ixor hf he K
  case ishl => exact m_x_ishl hf he K
  case ishr => exact m_x_ishr hf he K
  case iushr => exact m_x_iushr hf he K
  case land => exact m_x_land hf he K
  case lor => exact m_x_lor hf he K
  case lsub => exact m_x_lsub hf he K
  case lxor => exact m_x_lxor hf he K
  case lshl => exact m_x_lshl hf he K
  case lshr => exact m_x_lshr hf he K
  case lcmp => exact m_x_lcmp hf he K
  case l2i => exact m_x_l2i hf he K
  case i2l => exact m_x_i2l hf he K
  case i2f => exact m_x_i2f hf he K
  case f2i => exact m_x_f2i hf he K
  case fcmp o => exact m_x_fcmp hf he K
  case pop => exact m_x_pop hf he K
  case dup => exact m_x_dup hf he K
  case dup2 => exact m_x_dup2 hf he K
  case goto o => exact m_x_goto hf he K
  case iinc i d => exact m_x_iinc hf he K
  case arraylength => exact m_x_arraylength hf he K
  case getfield i => exact m_x_getfield hf he K
  case putfield i => exact m_x_putfield hf he K
  case new i => exact m_x_new hf he K
  case newarray t => exact m_x_newarray hf he K
  case invokespecial i => exact m_x_invokespecial hf he K
  all_goals (exact absurd he (fun h => by cases h))
end
section

def m_stp (mi : Nat) (ps : mPS) : Option mPS := match m_fetch mi ps.1 with
  | some e => m_exec mi e.2.1 e.2.2.1 e.2.2.2.1 e.2.2.2.2 ps.1 ps.2.1 ps.2.2.1 ps.2.2.2.1 ps.2.2.2.2.1 ps.2.2.2.2.2
  | none => none
def m_go : Nat → Nat → mPS → Option mPS
  | 0, _, ps => some ps
  | n + 1, mi, ps => match m_stp mi ps with
    | some q => m_go n mi q
    | none => none
theorem m_step {X : Nat × Nat × (Nat → Int32)} {mi : Nat} {ps ps' : mPS} {Q : Option mPV → mPW → Prop} (h : m_stp mi ps = some ps') (K : m_Sem X mi ps' Q) : m_Sem X mi ps Q := by
  obtain ⟨pc, L, S, w, bc, bs⟩ := ps
  unfold m_stp at h
  split at h
  next e hf =>
    obtain ⟨pc', ins, x, y, z⟩ := e
    have hpc : pc' = pc := (m_fetch_ok hf).1
    subst hpc
    exact m_step1 hf h K
  next => cases h
/-- some plain steps at once -/
theorem m_run {X : Nat × Nat × (Nat → Int32)} {mi : Nat} : ∀ (n : Nat) {ps ps' : mPS} {Q : Option mPV → mPW → Prop}, m_go n mi ps = some ps' → m_Sem X mi ps' Q → m_Sem X mi ps Q
  | 0, ps, ps', Q, h, K => by cases h; exact K
  | n + 1, ps, ps', Q, h, K => by
    unfold m_go at h
    split at h
    next q hq => exact m_step hq (m_run n h K)
    next => cases h
def m_cnd : Jvm.ClassFile.Cond → Int → Int → Prop
  | .eq, a, b => a = b
  | .ne, a, b => ¬ a = b
  | .lt, a, b => a < b
  | .ge, a, b => b ≤ a
  | .gt, a, b => b < a
  | .le, a, b => a ≤ b

set_option maxHeartbeats 4000000 in
set_option maxRecDepth 100000 in
theorem m_if {X : Nat × Nat × (Nat → Int32)} {mi pc x y : Nat} {z : Int} {L : List (Option mPV)} {S : List mPV} {w : mPW} {bc bs : Nat} {Q : Option mPV → mPW → Prop} {cd : Jvm.ClassFile.Cond} {off : Int} {a : Int} (hf : m_fetch mi pc = some (pc, .ifCond cd off, x, y, z)) (ha : m_R a) (kt : m_cnd cd a 0 → m_Sem X mi (x, L, S, w, bc, bs) Q) (kf : ¬ m_cnd cd a 0 → m_Sem X mi (pc + 3, L, S, w, bc, bs) Q) : m_Sem X mi (pc, L, .inl a :: S, w, bc, bs) Q := by
  intro p l e s m args below meth c N0 aI D Qf hC hF H locs ls k n hl hlen hP hS hk hb1 hb2
  have hok := (m_fetch_ok hf).2
  obtain ⟨hx, hb, hml, hown, hts, hin, hK, h0, hX⟩ := id hC
  unfold m_okb at hok
  simp only [Bool.and_eq_true] at hok
  obtain ⟨hok1, hok2⟩ := hok
  dsimp only at hok1 hok2 hl hlen hP hS hk hb1 hb2
  have hdec := of_decide_eq_true hok1
  dsimp only [m_len] at hdec
  have ht := of_decide_eq_true hok2
  cases cd
  case eq =>
    refine lv_if_eq hx hb hdec ht (fun h => ?_) (fun h => ?_)
    · exact kt ((m_R_eq ha m_R_0).mp h) p l e s m args below meth c N0 aI D Qf hC hF H locs ls k n hl hlen hP hS hk hb1 hb2
    · exact kf (fun hc => h ((m_R_eq ha m_R_0).mpr hc)) p l e s m args below meth c N0 aI D Qf hC hF H locs ls k n hl hlen hP hS hk hb1 hb2
  case ne =>
    refine lv_if_ne hx hb hdec ht (fun h => ?_) (fun h => ?_)
    · exact kt (fun hc => h ((m_R_eq ha m_R_0).mpr hc)) p l e s m args below meth c N0 aI D Qf hC hF H locs ls k n hl hlen hP hS hk hb1 hb2
    · exact kf (fun hc => hc ((m_R_eq ha m_R_0).mp h)) p l e s m args below meth c N0 aI D Qf hC hF H locs ls k n hl hlen hP hS hk hb1 hb2
  case lt =>
    refine lv_if_lt hx hb hdec ht (fun h => ?_) (fun h => ?_)
    · exact kt ((m_R_lt ha m_R_0).mp h) p l e s m args below meth c N0 aI D Qf hC hF H locs ls k n hl hlen hP hS hk hb1 hb2
    · exact kf (fun hc => h ((m_R_lt ha m_R_0).mpr hc)) p l e s m args below meth c N0 aI D Qf hC hF H locs ls k n hl hlen hP hS hk hb1 hb2
  case ge =>
    refine lv_if_ge hx hb hdec ht (fun h => ?_) (fun h => ?_)
    · exact kt ((m_R_le m_R_0 ha).mp h) p l e s m args below meth c N0 aI D Qf hC hF H locs ls k n hl hlen hP hS hk hb1 hb2
    · exact kf (fun hc => h ((m_R_le m_R_0 ha).mpr hc)) p l e s m args below meth c N0 aI D Qf hC hF H locs ls k n hl hlen hP hS hk hb1 hb2
  case gt =>
    refine lv_if_gt hx hb hdec ht (fun h => ?_) (fun h => ?_)
    · exact kt ((m_R_lt m_R_0 ha).mp h) p l e s m args below meth c N0 aI D Qf hC hF H locs ls k n hl hlen hP hS hk hb1 hb2
    · exact kf (fun hc => h ((m_R_lt m_R_0 ha).mpr hc)) p l e s m args below meth c N0 aI D Qf hC hF H locs ls k n hl hlen hP hS hk hb1 hb2
  case le =>
    refine lv_if_le hx hb hdec ht (fun h => ?_) (fun h => ?_)
    · exact kt ((m_R_le ha m_R_0).mp h) p l e s m args below meth c N0 aI D Qf hC hF H locs ls k n hl hlen hP hS hk hb1 hb2
    · exact kf (fun hc => h ((m_R_le ha m_R_0).mpr hc)) p l e s m args below meth c N0 aI D Qf hC hF H locs ls k n hl hlen hP hS hk hb1 hb2

set_option maxHeartbeats 4000000 in
set_option maxRecDepth 100000 in
theorem m_icmp {X : Nat × Nat × (Nat → Int32)} {mi pc x y : Nat} {z : Int} {L : List (Option mPV)} {S : List mPV} {w : mPW} {bc bs : Nat} {Q : Option mPV → mPW → Prop} {cd : Jvm.ClassFile.Cond} {off : Int} {a b : Int} (hf : m_fetch mi pc = some (pc, .if_icmp cd off, x, y, z)) (ha : m_R a) (hb0 : m_R b) (kt : m_cnd cd a b → m_Sem X mi (x, L, S, w, bc, bs) Q) (kf : ¬ m_cnd cd a b → m_Sem X mi (pc + 3, L, S, w, bc, bs) Q) : m_Sem X mi (pc, L, .inl b :: .inl a :: S, w, bc, bs) Q := by
  intro p l e s m args below meth c N0 aI D Qf hC hF H locs ls k n hl hlen hP hS hk hb1 hb2
  have hok := (m_fetch_ok hf).2
  obtain ⟨hx, hb, hml, hown, hts, hin, hK, h0, hX⟩ := id hC
  unfold m_okb at hok
  simp only [Bool.and_eq_true] at hok
  obtain ⟨hok1, hok2⟩ := hok
  dsimp only at hok1 hok2 hl hlen hP hS hk hb1 hb2
  have hdec := of_decide_eq_true hok1
  dsimp only [m_len] at hdec
  have ht := of_decide_eq_true hok2
  cases cd
  case eq =>
    refine lv_icmp_eq hx hb hdec ht (fun h => ?_) (fun h => ?_)
    · exact kt ((m_R_eq ha hb0).mp h) p l e s m args below meth c N0 aI D Qf hC hF H locs ls k n hl hlen hP hS hk hb1 hb2
    · exact kf (fun hc => h ((m_R_eq ha hb0).mpr hc)) p l e s m args below meth c N0 aI D Qf hC hF H locs ls k n hl hlen hP hS hk hb1 hb2
  case ne =>
    refine lv_icmp_ne hx hb hdec ht (fun h => ?_) (fun h => ?_)
    · exact kt (fun hc => h ((m_R_eq ha hb0).mpr hc)) p l e s m args below meth c N0 aI D Qf hC hF H locs ls k n hl hlen hP hS hk hb1 hb2
    · exact kf (fun hc => hc ((m_R_eq ha hb0).mp h)) p l e s m args below meth c N0 aI D Qf hC hF H locs ls k n hl hlen hP hS hk hb1 hb2
  case lt =>
    refine lv_icmp_lt hx hb hdec ht (fun h => ?_) (fun h => ?_)
    · exact kt ((m_R_lt ha hb0).mp h) p l e s m args below meth c N0 aI D Qf hC hF H locs ls k n hl hlen hP hS hk hb1 hb2
    · exact kf (fun hc => h ((m_R_lt ha hb0).mpr hc)) p l e s m args below meth c N0 aI D Qf hC hF H locs ls k n hl hlen hP hS hk hb1 hb2
  case ge =>
    refine lv_icmp_ge hx hb hdec ht (fun h => ?_) (fun h => ?_)
    · exact kt ((m_R_le hb0 ha).mp h) p l e s m args below meth c N0 aI D Qf hC hF H locs ls k n hl hlen hP hS hk hb1 hb2
    · exact kf (fun hc => h ((m_R_le hb0 ha).mpr hc)) p l e s m args below meth c N0 aI D Qf hC hF H locs ls k n hl hlen hP hS hk hb1 hb2
  case gt =>
    refine lv_icmp_gt hx hb hdec ht (fun h => ?_) (fun h => ?_)
    · exact kt ((m_R_lt hb0 ha).mp h) p l e s m args below meth c N0 aI D Qf hC hF H locs ls k n hl hlen hP hS hk hb1 hb2
    · exact kf (fun hc => h ((m_R_lt hb0 ha).mpr hc)) p l e s m args below meth c N0 aI D Qf hC hF H locs ls k n hl hlen hP hS hk hb1 hb2
  case le =>
    refine lv_icmp_le hx hb hdec ht (fun h => ?_) (fun h => ?_)
    · exact kt ((m_R_le ha hb0).mp h) p l e s m args below meth c N0 aI D Qf hC hF H locs ls k n hl hlen hP hS hk hb1 hb2
    · exact kf (fun hc => h ((m_R_le ha hb0).mpr hc)) p l e s m args below meth c N0 aI D Qf hC hF H locs ls k n hl hlen hP hS hk hb1 hb2


def m_up (f : Int → Int) (j v : Int) : Int → Int := fun i => if i = j then v else f i
theorem m_up_s (f : Int → Int) (j v : Int) : m_up f j v j = v := if_pos rfl
theorem m_up_n (f : Int → Int) {j i : Int} (v : Int) (h : ¬ i = j) : m_up f j v i = f i := if_neg h
theorem m_up_cv (f : Int → Int) {j : Int} (v : Int) (hj : 0 ≤ j) : (fun i : Nat => Int32.ofInt (m_up f j v (i : Int))) = upd (fun i : Nat => Int32.ofInt (f (i : Int))) j.toNat (Int32.ofInt v) := by
  funext i
  by_cases h : (i : Int) = j
  · have h2 : i = j.toNat := by omega
    rw [h, m_up_s]
    simp [upd, h2]
  · have h2 : ¬ i = j.toNat := by omega
    rw [m_up_n f v h]
    simp [upd, h2]
theorem m_vin {j : Int} {v : Nat} (h1 : 0 ≤ j) (h2 : j < v) (h3 : v < 2147483648) : vp_in (Int32.ofInt j) v := by
  have hR : m_R j := ⟨by omega, by omega⟩
  rw [vp_in_iff, m_R_to hR]
  exact ⟨h1, h2⟩
theorem m_nat {j : Int} {v : Nat} (h1 : 0 ≤ j) (h2 : j < v) (h3 : v < 2147483648) : (Int32.ofInt j).toNatClampNeg = j.toNat := m_R_nat ⟨by omega, by omega⟩

set_option maxHeartbeats 4000000 in
set_option maxRecDepth 100000 in
theorem m_iald {X : Nat × Nat × (Nat → Int32)} {mi pc x y : Nat} {z : Int} {L : List (Option mPV)} {S : List mPV} {w : mPW} {bc bs : Nat} {Q : Option mPV → mPW → Prop} {j : Int} {q v : Nat} {f : Int → Int} (hf : m_fetch mi pc = some (pc, .iaload, x, y, z)) (hw : w[q]? = some (.inl (0, v, .inl f))) (h1 : 0 ≤ j) (h2 : j < v) (h3 : v < 2147483648) (K : m_Sem X mi (pc + 1, L, .inl (f j) :: S, w, bc, bs) Q) : m_Sem X mi (pc, L, .inl j :: .inr (.inl q) :: S, w, bc, bs) Q := by
  intro p l e s m args below meth c N0 aI D Qf hC hF H locs ls k n hl hlen hP hS hk hb1 hb2
  have hok := (m_fetch_ok hf).2
  obtain ⟨hx, hb, hml, hown, hts, hin, hK, h0, hX⟩ := id hC
  unfold m_okb at hok
  simp only [Bool.and_eq_true] at hok
  obtain ⟨hok1, hok2⟩ := hok
  dsimp only at hok1 hok2 hl hlen hP hS hk hb1 hb2
  have hdec := of_decide_eq_true hok1
  dsimp only [m_len] at hdec
  refine va_iald hx hb hK hP q 0 (m_cw_at hw) rfl (m_vin h1 h2 h3) hdec ?_
  rw [m_nat h1 h2 h3]
  have hj : ((j.toNat : Nat) : Int) = j := Int.toNat_of_nonneg h1
  show W p l e _ s m args below meth c H locs k n Qf (F0 m _ ls (.int (Int32.ofInt (f ((j.toNat : Nat) : Int))) :: _))
  rw [hj]
  exact K p l e s m args below meth c N0 aI D Qf hC hF H locs ls k n hl hlen hP hS hk hb1 hb2

set_option maxHeartbeats 4000000 in
set_option maxRecDepth 100000 in
theorem m_cald {X : Nat × Nat × (Nat → Int32)} {mi pc x y : Nat} {z : Int} {L : List (Option mPV)} {S : List mPV} {w : mPW} {bc bs : Nat} {Q : Option mPV → mPW → Prop} {j : Int} {q v : Nat} {f : Int → Int} (hf : m_fetch mi pc = some (pc, .caload, x, y, z)) (hw : w[q]? = some (.inl (1, v, .inl f))) (h1 : 0 ≤ j) (h2 : j < v) (h3 : v < 2147483648) (K : m_Sem X mi (pc + 1, L, .inl (f j) :: S, w, bc, bs) Q) : m_Sem X mi (pc, L, .inl j :: .inr (.inl q) :: S, w, bc, bs) Q := by
  intro p l e s m args below meth c N0 aI D Qf hC hF H locs ls k n hl hlen hP hS hk hb1 hb2
  have hok := (m_fetch_ok hf).2
  obtain ⟨hx, hb, hml, hown, hts, hin, hK, h0, hX⟩ := id hC
  unfold m_okb at hok
  simp only [Bool.and_eq_true] at hok
  obtain ⟨hok1, hok2⟩ := hok
  dsimp only at hok1 hok2 hl hlen hP hS hk hb1 hb2
  have hdec := of_decide_eq_true hok1
  dsimp only [m_len] at hdec
  refine va_cald hx hb hK hP q 1 (m_cw_at hw) rfl (m_vin h1 h2 h3) hdec ?_
  rw [m_nat h1 h2 h3]
  have hj : ((j.toNat : Nat) : Int) = j := Int.toNat_of_nonneg h1
  show W p l e _ s m args below meth c H locs k n Qf (F0 m _ ls (.int (Int32.ofInt (f ((j.toNat : Nat) : Int))) :: _))
  rw [hj]
  exact K p l e s m args below meth c N0 aI D Qf hC hF H locs ls k n hl hlen hP hS hk hb1 hb2

set_option maxHeartbeats 4000000 in
set_option maxRecDepth 100000 in
theorem m_lald {X : Nat × Nat × (Nat → Int32)} {mi pc x y : Nat} {z : Int} {L : List (Option mPV)} {S : List mPV} {w : mPW} {bc bs : Nat} {Q : Option mPV → mPW → Prop} {j : Int} {q v : Nat} {f : Nat → Int64} (hf : m_fetch mi pc = some (pc, .laload, x, y, z)) (hw : w[q]? = some (.inl (2, v, .inr f))) (h1 : 0 ≤ j) (h2 : j < v) (h3 : v < 2147483648) (K : m_Sem X mi (pc + 1, L, .inr (.inr (.long (f j.toNat))) :: S, w, bc, bs) Q) : m_Sem X mi (pc, L, .inl j :: .inr (.inl q) :: S, w, bc, bs) Q := by
  intro p l e s m args below meth c N0 aI D Qf hC hF H locs ls k n hl hlen hP hS hk hb1 hb2
  have hok := (m_fetch_ok hf).2
  obtain ⟨hx, hb, hml, hown, hts, hin, hK, h0, hX⟩ := id hC
  unfold m_okb at hok
  simp only [Bool.and_eq_true] at hok
  obtain ⟨hok1, hok2⟩ := hok
  dsimp only at hok1 hok2 hl hlen hP hS hk hb1 hb2
  have hdec := of_decide_eq_true hok1
  dsimp only [m_len] at hdec
  refine va_lald hx hb hK hP q 2 (m_cw_at hw) rfl (m_vin h1 h2 h3) hdec ?_
  rw [m_nat h1 h2 h3]
  exact K p l e s m args below meth c N0 aI D Qf hC hF H locs ls k n hl hlen hP hS hk hb1 hb2

set_option maxHeartbeats 4000000 in
set_option maxRecDepth 100000 in
theorem m_iast {X : Nat × Nat × (Nat → Int32)} {mi pc x y : Nat} {z : Int} {L : List (Option mPV)} {S : List mPV} {w : mPW} {bc bs : Nat} {Q : Option mPV → mPW → Prop} {j u : Int} {q v : Nat} {f : Int → Int} (hf : m_fetch mi pc = some (pc, .iastore, x, y, z)) (hw : w[q]? = some (.inl (0, v, .inl f))) (h1 : 0 ≤ j) (h2 : j < v) (h3 : v < 2147483648) (K : m_Sem X mi (pc + 1, L, S, w.set q (.inl (0, v, .inl (m_up f j u))), bc, bs) Q) : m_Sem X mi (pc, L, .inl u :: .inl j :: .inr (.inl q) :: S, w, bc, bs) Q := by
  intro p l e s m args below meth c N0 aI D Qf hC hF H locs ls k n hl hlen hP hS hk hb1 hb2
  have hok := (m_fetch_ok hf).2
  obtain ⟨hx, hb, hml, hown, hts, hin, hK, h0, hX⟩ := id hC
  unfold m_okb at hok
  simp only [Bool.and_eq_true] at hok
  obtain ⟨hok1, hok2⟩ := hok
  dsimp only at hok1 hok2 hl hlen hP hS hk hb1 hb2
  have hdec := of_decide_eq_true hok1
  dsimp only [m_len] at hdec
  refine va_iast hx hb hK hP m_cw_D hS q 0 (m_cw_at hw) rfl (m_vin h1 h2 h3) hdec (fun H1 locs1 hP1 _ hS1 => ?_)
  have hP2 : va_P D vwCl (m_cw N0 aI 0 (w.set q (.inl (0, v, .inl (m_up f j u))))) H1 := by
    rw [m_cw_set, Nat.zero_add]
    show va_P D vwCl ((m_cw N0 aI 0 w).set q (N0 + q, .inl (aI 0, v, .inl (fun i : Nat => Int32.ofInt (m_up f j u (i : Int)))))) H1
    rw [m_nat h1 h2 h3] at hP1
    rw [m_up_cv f u h1]
    exact hP1
  exact K p l e s m args below meth c N0 aI D Qf hC hF H1 locs1 ls k n hl hlen hP2 hS1 (by rw [hk, List.length_set]) hb1 hb2

theorem m_chr {u : Int} (h4 : 0 ≤ u) (h5 : u < 65536) : vp_nar .char (Int32.ofInt u) = Int32.ofInt u := by
  have e : Int32.ofInt u = nI u.toNat := by
    rw [nI, ← Int32.ofInt_eq_ofNat, Int.toNat_of_nonneg h4]
  rw [e]
  have h := (pk_charN (q := u.toNat) (by omega)).1
  unfold vp_nar
  rw [h]
set_option maxHeartbeats 4000000 in
set_option maxRecDepth 100000 in
theorem m_cast {X : Nat × Nat × (Nat → Int32)} {mi pc x y : Nat} {z : Int} {L : List (Option mPV)} {S : List mPV} {w : mPW} {bc bs : Nat} {Q : Option mPV → mPW → Prop} {j u : Int} {q v : Nat} {f : Int → Int} (hf : m_fetch mi pc = some (pc, .castore, x, y, z)) (hw : w[q]? = some (.inl (1, v, .inl f))) (h1 : 0 ≤ j) (h2 : j < v) (h3 : v < 2147483648) (h4 : 0 ≤ u) (h5 : u < 65536) (K : m_Sem X mi (pc + 1, L, S, w.set q (.inl (1, v, .inl (m_up f j u))), bc, bs) Q) : m_Sem X mi (pc, L, .inl u :: .inl j :: .inr (.inl q) :: S, w, bc, bs) Q := by
  intro p l e s m args below meth c N0 aI D Qf hC hF H locs ls k n hl hlen hP hS hk hb1 hb2
  have hok := (m_fetch_ok hf).2
  obtain ⟨hx, hb, hml, hown, hts, hin, hK, h0, hX⟩ := id hC
  unfold m_okb at hok
  simp only [Bool.and_eq_true] at hok
  obtain ⟨hok1, hok2⟩ := hok
  dsimp only at hok1 hok2 hl hlen hP hS hk hb1 hb2
  have hdec := of_decide_eq_true hok1
  dsimp only [m_len] at hdec
  refine va_cast hx hb hK hP m_cw_D hS q 1 (m_cw_at hw) rfl (m_vin h1 h2 h3) hdec (fun H1 locs1 hP1 _ hS1 => ?_)
  have hP2 : va_P D vwCl (m_cw N0 aI 0 (w.set q (.inl (1, v, .inl (m_up f j u))))) H1 := by
    rw [m_cw_set, Nat.zero_add]
    show va_P D vwCl ((m_cw N0 aI 0 w).set q (N0 + q, .inl (aI 1, v, .inl (fun i : Nat => Int32.ofInt (m_up f j u (i : Int)))))) H1
    rw [m_nat h1 h2 h3] at hP1
    rw [show vp_nar .char (Int32.ofInt u) = Int32.ofInt u from m_chr h4 h5] at hP1
    rw [m_up_cv f u h1]
    exact hP1
  exact K p l e s m args below meth c N0 aI D Qf hC hF H1 locs1 ls k n hl hlen hP2 hS1 (by rw [hk, List.length_set]) hb1 hb2

set_option maxHeartbeats 4000000 in
set_option maxRecDepth 100000 in
theorem m_last {X : Nat × Nat × (Nat → Int32)} {mi pc x y : Nat} {z : Int} {L : List (Option mPV)} {S : List mPV} {w : mPW} {bc bs : Nat} {Q : Option mPV → mPW → Prop} {j : Int} {u : Int64} {q v : Nat} {f : Nat → Int64} (hf : m_fetch mi pc = some (pc, .lastore, x, y, z)) (hw : w[q]? = some (.inl (2, v, .inr f))) (h1 : 0 ≤ j) (h2 : j < v) (h3 : v < 2147483648) (K : m_Sem X mi (pc + 1, L, S, w.set q (.inl (2, v, .inr (vp_updL f j.toNat u))), bc, bs) Q) : m_Sem X mi (pc, L, .inr (.inr (.long u)) :: .inl j :: .inr (.inl q) :: S, w, bc, bs) Q := by
  intro p l e s m args below meth c N0 aI D Qf hC hF H locs ls k n hl hlen hP hS hk hb1 hb2
  have hok := (m_fetch_ok hf).2
  obtain ⟨hx, hb, hml, hown, hts, hin, hK, h0, hX⟩ := id hC
  unfold m_okb at hok
  simp only [Bool.and_eq_true] at hok
  obtain ⟨hok1, hok2⟩ := hok
  dsimp only at hok1 hok2 hl hlen hP hS hk hb1 hb2
  have hdec := of_decide_eq_true hok1
  dsimp only [m_len] at hdec
  refine va_last hx hb hK hP m_cw_D hS q 2 (m_cw_at hw) rfl (m_vin h1 h2 h3) hdec (fun H1 locs1 hP1 _ hS1 => ?_)
  have hP2 : va_P D vwCl (m_cw N0 aI 0 (w.set q (.inl (2, v, .inr (vp_updL f j.toNat u))))) H1 := by
    rw [m_cw_set, Nat.zero_add]
    show va_P D vwCl ((m_cw N0 aI 0 w).set q (N0 + q, .inl (aI 2, v, .inr (.inl (vp_updL f j.toNat u))))) H1
    rw [m_nat h1 h2 h3] at hP1
    exact hP1
  exact K p l e s m args below meth c N0 aI D Qf hC hF H1 locs1 ls k n hl hlen hP2 hS1 (by rw [hk, List.length_set]) hb1 hb2

set_option maxHeartbeats 4000000 in
set_option maxRecDepth 100000 in
theorem m_div {X : Nat × Nat × (Nat → Int32)} {mi pc x y : Nat} {z : Int} {L : List (Option mPV)} {S : List mPV} {w : mPW} {bc bs : Nat} {Q : Option mPV → mPW → Prop} {a b : Int} (hf : m_fetch mi pc = some (pc, .idiv, x, y, z)) (h1 : 0 ≤ a) (h2 : a < 2147483648) (h3 : 0 < b) (h4 : b < 2147483648) (K : m_Sem X mi (pc + 1, L, .inl (a / b) :: S, w, bc, bs) Q) : m_Sem X mi (pc, L, .inl b :: .inl a :: S, w, bc, bs) Q := by
  intro p l e s m args below meth c N0 aI D Qf hC hF H locs ls k n hl hlen hP hS hk hb1 hb2
  have hok := (m_fetch_ok hf).2
  obtain ⟨hx, hb, hml, hown, hts, hin, hK, h0, hX⟩ := id hC
  unfold m_okb at hok
  simp only [Bool.and_eq_true] at hok
  obtain ⟨hok1, hok2⟩ := hok
  dsimp only at hok1 hok2 hl hlen hP hS hk hb1 hb2
  have hdec := of_decide_eq_true hok1
  dsimp only [m_len] at hdec
  have hne : ¬ Int32.ofInt b = 0 := by
    have h := m_R_eq (x := b) (y := 0) ⟨by omega, h4⟩ m_R_0
    rw [show Int32.ofInt 0 = 0 from rfl] at h
    rw [h]
    omega
  refine lv_idiv hx hb hdec hne ?_
  rw [← m_R_div h1 h2 h3 h4]
  exact K p l e s m args below meth c N0 aI D Qf hC hF H locs ls k n hl hlen hP hS hk hb1 hb2

set_option maxHeartbeats 4000000 in
set_option maxRecDepth 100000 in
theorem m_rem {X : Nat × Nat × (Nat → Int32)} {mi pc x y : Nat} {z : Int} {L : List (Option mPV)} {S : List mPV} {w : mPW} {bc bs : Nat} {Q : Option mPV → mPW → Prop} {a b : Int} (hf : m_fetch mi pc = some (pc, .irem, x, y, z)) (h1 : 0 ≤ a) (h2 : a < 2147483648) (h3 : 0 < b) (h4 : b < 2147483648) (K : m_Sem X mi (pc + 1, L, .inl (a % b) :: S, w, bc, bs) Q) : m_Sem X mi (pc, L, .inl b :: .inl a :: S, w, bc, bs) Q := by
  intro p l e s m args below meth c N0 aI D Qf hC hF H locs ls k n hl hlen hP hS hk hb1 hb2
  have hok := (m_fetch_ok hf).2
  obtain ⟨hx, hb, hml, hown, hts, hin, hK, h0, hX⟩ := id hC
  unfold m_okb at hok
  simp only [Bool.and_eq_true] at hok
  obtain ⟨hok1, hok2⟩ := hok
  dsimp only at hok1 hok2 hl hlen hP hS hk hb1 hb2
  have hdec := of_decide_eq_true hok1
  dsimp only [m_len] at hdec
  have hne : ¬ Int32.ofInt b = 0 := by
    have h := m_R_eq (x := b) (y := 0) ⟨by omega, h4⟩ m_R_0
    rw [show Int32.ofInt 0 = 0 from rfl] at h
    rw [h]
    omega
  refine lv_irem hx hb hdec hne ?_
  rw [← m_R_rem h1 h2 h3 h4]
  exact K p l e s m args below meth c N0 aI D Qf hC hF H locs ls k n hl hlen hP hS hk hb1 hb2

set_option maxHeartbeats 4000000 in
set_option maxRecDepth 100000 in
theorem m_i2c {X : Nat × Nat × (Nat → Int32)} {mi pc x y : Nat} {z : Int} {L : List (Option mPV)} {S : List mPV} {w : mPW} {bc bs : Nat} {Q : Option mPV → mPW → Prop} {a : Int} (hf : m_fetch mi pc = some (pc, .i2c, x, y, z)) (h1 : 0 ≤ a) (h2 : a < 65536) (K : m_Sem X mi (pc + 1, L, .inl a :: S, w, bc, bs) Q) : m_Sem X mi (pc, L, .inl a :: S, w, bc, bs) Q := by
  intro p l e s m args below meth c N0 aI D Qf hC hF H locs ls k n hl hlen hP hS hk hb1 hb2
  have hok := (m_fetch_ok hf).2
  obtain ⟨hx, hb, hml, hown, hts, hin, hK, h0, hX⟩ := id hC
  unfold m_okb at hok
  simp only [Bool.and_eq_true] at hok
  obtain ⟨hok1, hok2⟩ := hok
  dsimp only at hok1 hok2 hl hlen hP hS hk hb1 hb2
  have hdec := of_decide_eq_true hok1
  dsimp only [m_len] at hdec
  have hv : ((Int32.ofInt a).toUInt32 % 65536).toInt32 = Int32.ofInt a := by
    have e : Int32.ofInt a = nI a.toNat := by
      rw [nI, ← Int32.ofInt_eq_ofNat, Int.toNat_of_nonneg h1]
    rw [pk_char, e, pk_tn (by omega), Nat.mod_eq_of_lt (by omega)]
  refine lv_i2c hx hb hdec hv ?_
  exact K p l e s m args below meth c N0 aI D Qf hC hF H locs ls k n hl hlen hP hS hk hb1 hb2

set_option maxHeartbeats 4000000 in
set_option maxRecDepth 100000 in
theorem m_fdiv {X : Nat × Nat × (Nat → Int32)} {mi pc x y : Nat} {z : Int} {L : List (Option mPV)} {S : List mPV} {w : mPW} {bc bs : Nat} {Q : Option mPV → mPW → Prop} {a b v : UInt32} (hf : m_fetch mi pc = some (pc, .fdiv, x, y, z)) (hv : FP.fdiv a b = v) (hn : vf_n32 v) (K : m_Sem X mi (pc + 1, L, .inr (.inr (.float v)) :: S, w, bc, bs) Q) : m_Sem X mi (pc, L, .inr (.inr (.float b)) :: .inr (.inr (.float a)) :: S, w, bc, bs) Q := by
  intro p l e s m args below meth c N0 aI D Qf hC hF H locs ls k n hl hlen hP hS hk hb1 hb2
  have hok := (m_fetch_ok hf).2
  obtain ⟨hx, hb, hml, hown, hts, hin, hK, h0, hX⟩ := id hC
  unfold m_okb at hok
  simp only [Bool.and_eq_true] at hok
  obtain ⟨hok1, hok2⟩ := hok
  dsimp only at hok1 hok2 hl hlen hP hS hk hb1 hb2
  have hdec := of_decide_eq_true hok1
  dsimp only [m_len] at hdec
  subst hv
  refine lv_fdiv hx hb hdec hn ?_
  exact K p l e s m args below meth c N0 aI D Qf hC hF H locs ls k n hl hlen hP hS hk hb1 hb2

set_option maxHeartbeats 4000000 in
set_option maxRecDepth 100000 in
theorem m_fmul {X : Nat × Nat × (Nat → Int32)} {mi pc x y : Nat} {z : Int} {L : List (Option mPV)} {S : List mPV} {w : mPW} {bc bs : Nat} {Q : Option mPV → mPW → Prop} {a b v : UInt32} (hf : m_fetch mi pc = some (pc, .fmul, x, y, z)) (hv : FP.fmul a b = v) (hn : vf_n32 v) (K : m_Sem X mi (pc + 1, L, .inr (.inr (.float v)) :: S, w, bc, bs) Q) : m_Sem X mi (pc, L, .inr (.inr (.float b)) :: .inr (.inr (.float a)) :: S, w, bc, bs) Q := by
  intro p l e s m args below meth c N0 aI D Qf hC hF H locs ls k n hl hlen hP hS hk hb1 hb2
  have hok := (m_fetch_ok hf).2
  obtain ⟨hx, hb, hml, hown, hts, hin, hK, h0, hX⟩ := id hC
  unfold m_okb at hok
  simp only [Bool.and_eq_true] at hok
  obtain ⟨hok1, hok2⟩ := hok
  dsimp only at hok1 hok2 hl hlen hP hS hk hb1 hb2
  have hdec := of_decide_eq_true hok1
  dsimp only [m_len] at hdec
  subst hv
  refine lv_fmul hx hb hdec hn ?_
  exact K p l e s m args below meth c N0 aI D Qf hC hF H locs ls k n hl hlen hP hS hk hb1 hb2

set_option maxHeartbeats 4000000 in
set_option maxRecDepth 100000 in
theorem m_fsub {X : Nat × Nat × (Nat → Int32)} {mi pc x y : Nat} {z : Int} {L : List (Option mPV)} {S : List mPV} {w : mPW} {bc bs : Nat} {Q : Option mPV → mPW → Prop} {a b v : UInt32} (hf : m_fetch mi pc = some (pc, .fsub, x, y, z)) (hv : FP.fsub a b = v) (hn : vf_n32 v) (K : m_Sem X mi (pc + 1, L, .inr (.inr (.float v)) :: S, w, bc, bs) Q) : m_Sem X mi (pc, L, .inr (.inr (.float b)) :: .inr (.inr (.float a)) :: S, w, bc, bs) Q := by
  intro p l e s m args below meth c N0 aI D Qf hC hF H locs ls k n hl hlen hP hS hk hb1 hb2
  have hok := (m_fetch_ok hf).2
  obtain ⟨hx, hb, hml, hown, hts, hin, hK, h0, hX⟩ := id hC
  unfold m_okb at hok
  simp only [Bool.and_eq_true] at hok
  obtain ⟨hok1, hok2⟩ := hok
  dsimp only at hok1 hok2 hl hlen hP hS hk hb1 hb2
  have hdec := of_decide_eq_true hok1
  dsimp only [m_len] at hdec
  subst hv
  refine lv_fsub hx hb hdec hn ?_
  exact K p l e s m args below meth c N0 aI D Qf hC hF H locs ls k n hl hlen hP hS hk hb1 hb2

set_option maxHeartbeats 4000000 in
set_option maxRecDepth 100000 in
theorem m_tabIn {X : Nat × Nat × (Nat → Int32)} {mi pc x y : Nat} {z : Int} {L : List (Option mPV)} {S : List mPV} {w : mPW} {bc bs : Nat} {Q : Option mPV → mPW → Prop} {df lo hi : Int} {offs : Array Int} {a off : Int} {tgt : Nat} (hf : m_fetch mi pc = some (pc, .tableswitch df lo hi offs, x, y, z)) (ha : m_R a) (h1 : lo ≤ a) (h2 : a ≤ hi) (ho : offs[(a - lo).toNat]? = some off) (ht : (pc : Int) + off = (tgt : Int)) (K : m_Sem X mi (tgt, L, S, w, bc, bs) Q) : m_Sem X mi (pc, L, .inl a :: S, w, bc, bs) Q := by
  intro p l e s m args below meth c N0 aI D Qf hC hF H locs ls k n hl hlen hP hS hk hb1 hb2
  have hok := (m_fetch_ok hf).2
  obtain ⟨hx, hb, hml, hown, hts, hin, hK, h0, hX⟩ := id hC
  unfold m_okb at hok
  simp only [Bool.and_eq_true] at hok
  obtain ⟨hok1, hok2⟩ := hok
  dsimp only at hok1 hok2 hl hlen hP hS hk hb1 hb2
  obtain ⟨len, hdec⟩ : ∃ len, decode (m_cd mi) pc = .ok (.tableswitch df lo hi offs, len) := by
    split at hok1
    next i len h =>
      have h2 := of_decide_eq_true hok1
      rw [h2] at h
      exact ⟨len, h⟩
    next => cases hok1
  refine lv_tableIn hx hb hdec (by rw [m_R_to ha]; omega) (by rw [m_R_to ha]; omega) (by rw [m_R_to ha]; exact ho) ht ?_
  exact K p l e s m args below meth c N0 aI D Qf hC hF H locs ls k n hl hlen hP hS hk hb1 hb2

set_option maxHeartbeats 4000000 in
set_option maxRecDepth 100000 in
theorem m_tabOut {X : Nat × Nat × (Nat → Int32)} {mi pc x y : Nat} {z : Int} {L : List (Option mPV)} {S : List mPV} {w : mPW} {bc bs : Nat} {Q : Option mPV → mPW → Prop} {df lo hi : Int} {offs : Array Int} {a : Int} {tgt : Nat} (hf : m_fetch mi pc = some (pc, .tableswitch df lo hi offs, x, y, z)) (ha : m_R a) (h1 : a < lo ∨ hi < a) (ht : (pc : Int) + df = (tgt : Int)) (K : m_Sem X mi (tgt, L, S, w, bc, bs) Q) : m_Sem X mi (pc, L, .inl a :: S, w, bc, bs) Q := by
  intro p l e s m args below meth c N0 aI D Qf hC hF H locs ls k n hl hlen hP hS hk hb1 hb2
  have hok := (m_fetch_ok hf).2
  obtain ⟨hx, hb, hml, hown, hts, hin, hK, h0, hX⟩ := id hC
  unfold m_okb at hok
  simp only [Bool.and_eq_true] at hok
  obtain ⟨hok1, hok2⟩ := hok
  dsimp only at hok1 hok2 hl hlen hP hS hk hb1 hb2
  obtain ⟨len, hdec⟩ : ∃ len, decode (m_cd mi) pc = .ok (.tableswitch df lo hi offs, len) := by
    split at hok1
    next i len h =>
      have h2 := of_decide_eq_true hok1
      rw [h2] at h
      exact ⟨len, h⟩
    next => cases hok1
  refine lv_tableOut hx hb hdec (by rw [m_R_to ha]; exact h1) ht ?_
  exact K p l e s m args below meth c N0 aI D Qf hC hF H locs ls k n hl hlen hP hS hk hb1 hb2

set_option maxHeartbeats 4000000 in
set_option maxRecDepth 100000 in
theorem m_ret1 {X : Nat × Nat × (Nat → Int32)} {mi pc x y : Nat} {z : Int} {L : List (Option mPV)} {w : mPW} {bc bs : Nat} {Q : Option mPV → mPW → Prop} {a : Int} (hf : m_fetch mi pc = some (pc, .ireturn, x, y, z)) (hr : m_rok mi (some (.inl a))) (hc : bc = 0) (K : Q (some (.inl a)) w) : m_Sem X mi (pc, L, [.inl a], w, bc, bs) Q := by
  intro p l e s m args below meth c N0 aI D Qf hC hF H locs ls k n hl hlen hP hS hk hb1 hb2
  have hok := (m_fetch_ok hf).2
  obtain ⟨hx, hb, hml, hown, hts, hin, hK, h0, hX⟩ := id hC
  unfold m_okb at hok
  simp only [Bool.and_eq_true] at hok
  obtain ⟨hok1, hok2⟩ := hok
  dsimp only at hok1 hok2 hl hlen hP hS hk hb1 hb2
  have hdec := of_decide_eq_true hok1
  dsimp only [m_len] at hdec
  subst hc
  have hk2 : k = (m_rm mi).cells := by omega
  subst hk2
  exact hF (some (.inl a)) w H locs n pc ls K hr hP hS (Or.inr hk) (by omega) hdec

set_option maxHeartbeats 4000000 in
set_option maxRecDepth 100000 in
theorem m_ret0 {X : Nat × Nat × (Nat → Int32)} {mi pc x y : Nat} {z : Int} {L : List (Option mPV)} {w : mPW} {bc bs : Nat} {Q : Option mPV → mPW → Prop} (hf : m_fetch mi pc = some (pc, .return_, x, y, z)) (hr : m_rok mi none) (hc : bc = 0) (K : Q none w) : m_Sem X mi (pc, L, [], w, bc, bs) Q := by
  intro p l e s m args below meth c N0 aI D Qf hC hF H locs ls k n hl hlen hP hS hk hb1 hb2
  have hok := (m_fetch_ok hf).2
  obtain ⟨hx, hb, hml, hown, hts, hin, hK, h0, hX⟩ := id hC
  unfold m_okb at hok
  simp only [Bool.and_eq_true] at hok
  obtain ⟨hok1, hok2⟩ := hok
  dsimp only at hok1 hok2 hl hlen hP hS hk hb1 hb2
  have hdec := of_decide_eq_true hok1
  dsimp only [m_len] at hdec
  subst hc
  have hk2 : k = (m_rm mi).cells := by omega
  subst hk2
  exact hF none w H locs n pc ls K hr hP hS (Or.inr hk) (by omega) hdec

set_option maxHeartbeats 4000000 in
set_option maxRecDepth 100000 in
theorem m_retz {X : Nat × Nat × (Nat → Int32)} {pc x y : Nat} {z : Int} {L : List (Option mPV)} {w : mPW} {bc bs : Nat} {Q : Option mPV → mPW → Prop} {a : Int} (hf : m_fetch 0 pc = some (pc, .ireturn, x, y, z)) (hr : m_rok 0 (some (.inl a))) (K : Q (some (.inl a)) w) : m_Sem X 0 (pc, L, [.inl a], w, bc, bs) Q := by
  intro p l e s m args below meth c N0 aI D Qf hC hF H locs ls k n hl hlen hP hS hk hb1 hb2
  have hok := (m_fetch_ok hf).2
  obtain ⟨hx, hb, hml, hown, hts, hin, hK, h0, hX⟩ := id hC
  unfold m_okb at hok
  simp only [Bool.and_eq_true] at hok
  obtain ⟨hok1, hok2⟩ := hok
  dsimp only at hok1 hok2 hl hlen hP hS hk hb1 hb2
  have hdec := of_decide_eq_true hok1
  dsimp only [m_len] at hdec
  refine W.widen (show k ≤ (m_rm 0).cells by omega) (Nat.le_refl n) ?_
  exact hF (some (.inl a)) w H locs n pc ls K hr hP hS (Or.inl rfl) (by omega) hdec


def m_sub : List (Option mPV) → List (Option mPV) → Prop
  | [], [] => True
  | none :: a, _ :: b => m_sub a b
  | some v :: a, o :: b => o = some v ∧ m_sub a b
  | _, _ => False
theorem m_sub_len : ∀ {a b : List (Option mPV)}, m_sub a b → a.length = b.length
  | [], [], _ => rfl
  | none :: a, _ :: b, h => congrArg Nat.succ (m_sub_len (a := a) (b := b) h)
  | some v :: a, o :: b, h => congrArg Nat.succ (m_sub_len (a := a) (b := b) h.2)
  | [], _ :: _, h => h.elim
  | none :: _, [], h => h.elim
  | some _ :: _, [], h => h.elim
theorem m_sub_as {N0 : Nat} : ∀ {a b : List (Option mPV)} {k : Nat}, m_sub a b → ∀ q ∈ m_as N0 k a, q ∈ m_as N0 k b
  | [], [], _, _ => fun _ h => h
  | none :: a, o :: b, k, h => fun q hq => m_as_cons.mpr (Or.inr (m_sub_as (a := a) (b := b) h q hq))
  | some v :: a, o :: b, k, h => fun q hq => by
    rcases m_as_cons.mp hq with ⟨v', h1, h2⟩ | hq
    · exact m_as_cons.mpr (Or.inl ⟨v', by rw [h.1]; exact h1, h2⟩)
    · exact m_as_cons.mpr (Or.inr (m_sub_as (a := a) (b := b) h.2 q hq))
  | [], _ :: _, _, h => h.elim
  | none :: _, [], _, h => h.elim
  | some _ :: _, [], _, h => h.elim

set_option maxHeartbeats 4000000 in
set_option maxRecDepth 100000 in
theorem m_weak {X : Nat × Nat × (Nat → Int32)} {mi pc : Nat} {L : List (Option mPV)} {S : List mPV} {w : mPW} {bc bs : Nat} {Q : Option mPV → mPW → Prop} (L' : List (Option mPV)) (h : m_sub L' L) (K : m_Sem X mi (pc, L', S, w, bc, bs) Q) : m_Sem X mi (pc, L, S, w, bc, bs) Q := by
  intro p l e s m args below meth c N0 aI D Qf hC hF H locs ls k n hl hlen hP hS hk hb1 hb2
  exact K p l e s m args below meth c N0 aI D Qf hC hF H locs ls k n (m_has_mono hl (m_sub_as h)) ((m_sub_len h).trans hlen) hP hS hk hb1 hb2
theorem m_cons {X : Nat × Nat × (Nat → Int32)} {mi : Nat} {ps : mPS} {Q Q' : Option mPV → mPW → Prop} (K : m_Sem X mi ps Q) (h : ∀ r w, Q r w → Q' r w) : m_Sem X mi ps Q' := by
  intro p l e s m args below meth c N0 aI D Qf hC hF H locs ls k n hl hlen hP hS hk hb1 hb2
  exact K p l e s m args below meth c N0 aI D Qf hC (fun r w H locs n pc ls hq => hF r w H locs n pc ls (h r w hq)) H locs ls k n hl hlen hP hS hk hb1 hb2

set_option maxHeartbeats 4000000 in
set_option maxRecDepth 100000 in
theorem m_slen {b Ls : Nat} {xs : Nat → Int32} {mi pc x y : Nat} {z : Int} {L : List (Option mPV)} {S : List mPV} {w : mPW} {bc bs : Nat} {Q : Option mPV → mPW → Prop} (hf : m_fetch mi pc = some (pc, .arraylength, x, y, z)) (K : m_Sem (b, Ls, xs) mi (pc + 1, L, .inl (Ls : Int) :: S, w, bc, bs) Q) : m_Sem (b, Ls, xs) mi (pc, L, .inr (.inr (.ref b)) :: S, w, bc, bs) Q := by
  intro p l e s m args below meth c N0 aI D Qf hC hF H locs ls k n hl hlen hP hS hk hb1 hb2
  have hok := (m_fetch_ok hf).2
  obtain ⟨hx, hb, hml, hown, hts, hin, hK, h0, hX⟩ := id hC
  unfold m_okb at hok
  simp only [Bool.and_eq_true] at hok
  obtain ⟨hok1, hok2⟩ := hok
  dsimp only at hok1 hok2 hl hlen hP hS hk hb1 hb2
  have hdec := of_decide_eq_true hok1
  dsimp only [m_len] at hdec
  obtain ⟨hX1, hX2⟩ := hX
  dsimp only at hX1 hX2
  refine va_slen hx hb hX1 (show b < s.heap.size by omega) (show ¬ N0 ≤ b by omega) hS hdec ?_
  rw [show Int32.ofNat Ls = Int32.ofInt (Ls : Int) from Int32.ofInt_eq_ofNat.symm]
  exact K p l e s m args below meth c N0 aI D Qf hC hF H locs ls k n hl hlen hP hS hk hb1 hb2

set_option maxHeartbeats 4000000 in
set_option maxRecDepth 100000 in
theorem m_sld {b Ls : Nat} {xs : Nat → Int32} {mi pc x y : Nat} {z : Int} {L : List (Option mPV)} {S : List mPV} {w : mPW} {bc bs : Nat} {Q : Option mPV → mPW → Prop} {j : Int} (hf : m_fetch mi pc = some (pc, .iaload, x, y, z)) (h1 : 0 ≤ j) (h2 : j < Ls) (h3 : Ls < 2147483648) (K : m_Sem (b, Ls, xs) mi (pc + 1, L, .inl (xs j.toNat).toInt :: S, w, bc, bs) Q) : m_Sem (b, Ls, xs) mi (pc, L, .inl j :: .inr (.inr (.ref b)) :: S, w, bc, bs) Q := by
  intro p l e s m args below meth c N0 aI D Qf hC hF H locs ls k n hl hlen hP hS hk hb1 hb2
  have hok := (m_fetch_ok hf).2
  obtain ⟨hx, hb, hml, hown, hts, hin, hK, h0, hX⟩ := id hC
  unfold m_okb at hok
  simp only [Bool.and_eq_true] at hok
  obtain ⟨hok1, hok2⟩ := hok
  dsimp only at hok1 hok2 hl hlen hP hS hk hb1 hb2
  have hdec := of_decide_eq_true hok1
  dsimp only [m_len] at hdec
  obtain ⟨hX1, hX2⟩ := hX
  dsimp only at hX1 hX2
  refine va_sld hx hb hX1 (show b < s.heap.size by omega) (show ¬ N0 ≤ b by omega) hS (m_vin h1 h2 h3) hdec ?_
  rw [m_nat h1 h2 h3]
  have hv : xs j.toNat = Int32.ofInt (xs j.toNat).toInt := (Int32.ofInt_toInt _).symm
  rw [hv]
  exact K p l e s m args below meth c N0 aI D Qf hC hF H locs ls k n hl hlen hP hS hk hb1 hb2


def m_cpy (f g : Int → Int) (sp dp n : Int) : Int → Int := fun k => if dp ≤ k ∧ k < dp + n then f (sp + (k - dp)) else g k
theorem m_cpy_cv (f g : Int → Int) {sp dp n : Int} (h1 : 0 ≤ sp) (h2 : 0 ≤ dp) (h3 : 0 ≤ n) : (fun i : Nat => Int32.ofInt (m_cpy f g sp dp n (i : Int))) = va_cpy (fun i : Nat => Int32.ofInt (f (i : Int))) (fun i : Nat => Int32.ofInt (g (i : Int))) sp.toNat dp.toNat n.toNat := by
  funext i
  unfold m_cpy va_cpy
  by_cases h : dp ≤ (i : Int) ∧ (i : Int) < dp + n
  · have h' : dp.toNat ≤ i ∧ i < dp.toNat + n.toNat := by omega
    rw [if_pos h, if_pos h']
    show _ = Int32.ofInt (f ((sp.toNat + (i - dp.toNat) : Nat) : Int))
    rw [show ((sp.toNat + (i - dp.toNat) : Nat) : Int) = sp + ((i : Int) - dp) by omega]
  · have h' : ¬ (dp.toNat ≤ i ∧ i < dp.toNat + n.toNat) := by omega
    rw [if_neg h, if_neg h']

set_option maxHeartbeats 4000000 in
set_option maxRecDepth 100000 in
theorem m_acp {X : Nat × Nat × (Nat → Int32)} {mi pc y : Nat} {z : Int} {L : List (Option mPV)} {S : List mPV} {w : mPW} {bc bs : Nat} {Q : Option mPV → mPW → Prop} {i : Nat} {sp dp v : Int} {q q' a b : Nat} {f g : Int → Int} (hf : m_fetch mi pc = some (pc, .invokestatic i, 1001, y, z)) (hw : w[q]? = some (.inl (0, a, .inl f))) (hw' : w[q']? = some (.inl (0, b, .inl g))) (h1 : 0 ≤ sp) (h2 : 0 ≤ dp) (h3 : 0 ≤ v) (h4 : sp + v ≤ a) (h5 : dp + v ≤ b) (h6 : a < 2147483648) (h7 : b < 2147483648) (hr : Nat.ble 1 (m_rm mi).frames = true) (hr2 : Nat.ble ((S.map m_cat).sum + 18) (m_rm mi).locals = true) (K : m_Sem X mi (pc + 3, L, S, w.set q' (.inl (0, b, .inl (m_cpy f g sp dp v))), bc, bs) Q) : m_Sem X mi (pc, L, .inl v :: .inl dp :: .inr (.inl q') :: .inl sp :: .inr (.inl q) :: S, w, bc, bs) Q := by
  intro p l e s m args below meth c N0 aI D Qf hC hF H locs ls k n hl hlen hP hS hk hb1 hb2
  have hok := (m_fetch_ok hf).2
  obtain ⟨hx, hb, hml, hown, hts, hin, hK, h0, hX⟩ := id hC
  unfold m_okb at hok
  simp only [Bool.and_eq_true] at hok
  obtain ⟨hok1, hok2⟩ := hok
  dsimp only at hok1 hok2 hl hlen hP hS hk hb1 hb2
  have hdec := of_decide_eq_true hok1
  dsimp only [m_len] at hdec
  have hlk := m_mths_w _ (of_decide_eq_true hok2.1)
  have nn : ∀ u : Int, 0 ≤ u → m_R u → ¬ Int32.ofInt u < 0 := by
    intro u hu hR h
    have h8 := (m_R_lt hR m_R_0).mp h
    omega
  have R1 : m_R sp := ⟨by omega, by omega⟩
  have R2 : m_R dp := ⟨by omega, by omega⟩
  have R3 : m_R v := ⟨by omega, by omega⟩
  have hnw : nativeFrameWords "java/lang/System" "arraycopy" 5 ≤ 7 := by decide
  have hr2 := Nat.le_of_ble_eq_true hr2
  refine va_copyi hx hb (by rw [hml]; exact hl.1.symm) hown (hts _ hlk) (hts _ m_acp_w.1) (hts _ m_acp_w.2.1) (hts _ m_acp_w.2.2) hK hP m_cw_D hS q q' 0 0 (m_cw_at hw) (m_cw_at hw') rfl rfl rfl (nn sp h1 R1) (nn dp h2 R2) (nn v h3 R3) (by rw [m_R_nat R1, m_R_nat R3]; omega) (by rw [m_R_nat R2, m_R_nat R3]; omega) (fun _ _ => rfl) (Nat.le_of_ble_eq_true hr) (by rw [m_cats]; omega) hdec (fun H1 locs1 hP1 _ hS1 => ?_)
  have hP2 : va_P D vwCl (m_cw N0 aI 0 (w.set q' (.inl (0, b, .inl (m_cpy f g sp dp v))))) H1 := by
    rw [m_cw_set, Nat.zero_add]
    show va_P D vwCl ((m_cw N0 aI 0 w).set q' (N0 + q', .inl (aI 0, b, .inl (fun i : Nat => Int32.ofInt (m_cpy f g sp dp v (i : Int)))))) H1
    rw [m_cpy_cv f g h1 h2 h3]
    rw [m_R_nat R1, m_R_nat R2, m_R_nat R3] at hP1
    exact hP1
  exact K p l e s m args below meth c N0 aI D Qf hC hF H1 locs1 ls k n hl hlen hP2 hS1 (by rw [hk, List.length_set]) hb1 hb2


def m_ws (mi : Nat) : List Cond := Cond.code (m_y mi) (m_cd mi) (m_ml mi) (m_ret mi) :: lw_g
def m_Pc (X : Nat × Nat × (Nat → Int32)) (N0 : Nat) (aI : Nat → ClassId) (D : va_G) (as : List mPV) (w : mPW) : Array Value → State → Prop := fun a U => a = (as.map (m_cv N0)).toArray ∧ va_P D vwCl (m_cw N0 aI 0 w) U.heap ∧ U.heap.size = N0 + w.length ∧ va_K D vwCl (m_tys aI) U ∧ va_X X.1 X.2.1 X.2.2 U U.heap ∧ X.1 < N0
def m_Qc (mi N0 : Nat) (aI : Nat → ClassId) (D : va_G) (w : mPW) (Q : Option mPV → mPW → Prop) : Array Value → State → Outcome → State → Prop := fun _ st oc t => ∃ (r : Option mPV) (w' : mPW), Q r w' ∧ m_rok mi r ∧ oc = .returned (r.map (m_cv N0)) ∧ va_P D vwCl (m_cw N0 aI 0 w') t.heap ∧ w'.length = w.length + (m_rm mi).cells ∧ va_F (fun q => N0 ≤ q) st t
/-- a method's run from its entry -/
def m_Run (X : Nat × Nat × (Nat → Int32)) (mi : Nat) (as : List mPV) (w : mPW) (Q : Option mPV → mPW → Prop) : Prop := m_Sem X mi (0, m_ent as (m_ml mi), [], w, (m_rm mi).cells, (m_rm mi).slots) Q
theorem m_ofW {l : Launch} {y : MethodName} {ws ws' : List Cond} {rm : Room} {Pc : Array Value → State → Prop} {Qc : Array Value → State → Outcome → State → Prop} {mc ms : Nat} {free : Addr → Prop} {cc : ByteArray} {maxL : Nat} {ret : Option FieldType}
    (hy : plainFor y = true) (hw : ws = Cond.code y cc maxL ret :: ws')
    (body : ∀ p e s m args below meth c s₁, BodyLoose p l y (headSpec ws rm) cc maxL ret e s m args below meth c s₁ → c.maxLocals = maxL → Pc args s →
      W p l e (headSpec ws rm).room s m args below meth c s.heap [] 0 0 (MQ below Qc args s mc ms free) (entryFrame m args maxL)) : Met l y ws rm Pc Qc mc ms free := by
  refine MetFree.of_bodySF (code := cc) (maxLocals := maxL) (ret := ret) hy ?_ ?_
  · intro args s m h hn
    obtain ⟨meth, c, h1, h2, h3, h4, h5, h6, -, -⟩ := Cond.code_spec hn (atoms_spec (ws := ws) h _ (by rw [hw]; exact List.mem_cons_self))
    exact ⟨meth, c, h1, h2, h3, h4, h5, h6⟩
  · intro p e s m args below meth c s₁ B hml hP _
    have hh0 : s₁.heap = s.heap := by rw [B.state]; rfl
    obtain ⟨t, a1, o, b1, b2, b3⟩ := body p e s m args below meth c s₁ B hml hP s₁ hh0 (Stand.of_body B)
    exact ⟨t, o, a1, b1, b2, ⟨b3.1, b3.2⟩⟩
theorem m_blind {X : Nat × Nat × (Nat → Int32)} {N0 : Nat} {aI : Nat → ClassId} {D : va_G} {as : List mPV} {w : mPW} : FrameBlind (m_Pc X N0 aI D as w) := fun a U g mk h => ⟨h.1, h.2.1, h.2.2.1, va_K.moved (u := U) (U := U.calling g mk a) (Vm.Alike.refl U.vm) h.2.2.2.1, va_X.moved (u := U) (U := U.calling g mk a) (Vm.Alike.refl U.vm) h.2.2.2.2.1, h.2.2.2.2.2⟩

set_option maxHeartbeats 4000000 in
set_option maxRecDepth 100000 in
theorem m_met {X : Nat × Nat × (Nat → Int32)} {mi : Nat} {as : List mPV} {w : mPW} {Q : Option mPV → mPW → Prop} (l : Launch) (N0 : Nat) (aI : Nat → ClassId) (D : va_G) (h0 : 0 < mi) (h1 : mi < 62) (hwd : m_words as ≤ m_ml mi) (hr : m_Run X mi as w Q) : Met l (m_y mi) (m_ws mi) (m_rm mi) (m_Pc X N0 aI D as w) (m_Qc mi N0 aI D w Q) (m_rm mi).cells (m_rm mi).slots (fun q => N0 ≤ q) := by
  obtain ⟨g1, g2, g3, g4, g5, g6, ⟨g7, -, -, -⟩, g8⟩ := m_met_w mi h0 h1
  refine m_ofW (cc := m_cd mi) (maxL := m_ml mi) (ret := m_ret mi) g8 rfl ?_
  intro p e s m args below meth c s₁ B hml hv
  obtain ⟨rfl, hP, hz, hK, hX9⟩ := hv
  have hx := B.exec
  have hb := B.bytes
  have hret := B.returns
  have hts0 := atoms_spec (ws := m_ws mi) B.pre
  have hts : ∀ w ∈ lw_g, w.before _ s = true := fun w hw => hts0 w (List.mem_cons_of_mem _ hw)
  have hown : s.vm.findClass (m_y mi).cls = some m.cls := findClass_of_methodNamed B.named
  have hlocks := B.notSynchronized
  rw [g7] at hown
  obtain ⟨ls, hls, hl⟩ := m_entry (N0 := N0) as hwd
  rw [hls]
  refine hr p l e s m _ below meth c N0 aI D _ ⟨hx, hb, hml, hown, hts, fun hk => ?_, hK, by omega, hX9⟩ ?_ s.heap [] ls 0 0 hl (m_ent_len as _ hwd) hP va_S.rf (by show s.heap.size + 0 = N0 + w.length; omega) (by show 0 + (m_rm mi).cells = _; omega) (by show 0 + (m_rm mi).slots ≤ _; omega)
  · rw [(name_of_methodNamed B.named B.method).1]
    exact (g6 hk).1
  · intro r w' H locs n pc ls hq hrok hP' hS hk hn hdec
    have hk : s.heap.size + (m_rm mi).cells = N0 + w'.length := hk.resolve_left (by omega)
    refine W.widen (Nat.le_refl _) hn ?_
    have hend : ∀ t : State, t.heap = H → m_Qc mi N0 aI D w Q (as.map (m_cv N0)).toArray s (.returned (r.map (m_cv N0))) t := fun t ht => ⟨r, w', hq, hrok, rfl, by rw [ht]; exact hP', by omega, hS.F ht⟩
    rcases r with _ | v
    · have hr0 : m_ret mi = none := hrok
      exact W.vret hx hb (hret.trans hr0) (fun t ht _ => hend t ht) hS.2.2 hdec
    · rcases v with a | v
      · rcases (show m_ret mi = some .int ∨ (m_ret mi = some .boolean ∧ (a = 0 ∨ a = 1)) from hrok) with hr1 | ⟨hr1, ha⟩
        · exact W.iret hx hb (hret.trans hr1) (fun t ht _ => hend t ht) hS.2.2 hdec
        · exact W.zret hx hb (hret.trans hr1) (by rcases ha with rfl | rfl <;> rfl) (fun t ht _ => hend t ht) hS.2.2 hdec
      · exact absurd hrok id
theorem m_back {p : Program} {l : Launch} {e : Env} {R : Room} {s : State} {m : MethodId} {args : Array Value} {below : List Frame} {meth : Method} {c : Code} {H : Heap} {locs : List Loc} {k n mc ms pc mi N0 : Nat} {ls : Array Slot} {st0 rest : List Value} {aI : Nat → ClassId} {D : va_G} {w : mPW} {Q' : Option mPV → mPW → Prop} {a : Array Value} {Qf : State → Prop}
    (hr : va_Run p l e R s m args below meth c H locs k n mc ms (F0 m pc ls st0) rest (m_Qc mi N0 aI D w Q' a) (fun q => N0 ≤ q)) (hS : va_S (fun q => N0 ≤ q) s.heap H locs)
    (kk : ∀ (r : Option mPV) (w1 : mPW) (H1 : Heap) (locs1 : List Loc), Q' r w1 → m_rok mi r → va_P D vwCl (m_cw N0 aI 0 w1) H1 → va_S (fun q => N0 ≤ q) s.heap H1 locs1 → w1.length = w.length + (m_rm mi).cells → W p l e R s m args below meth c H1 locs1 (k + mc) (n + ms) Qf (F0 m (pc + 3) ls ((r.map (m_cv N0)).toList ++ rest))) : W p l e R s m args below meth c H locs k n Qf (F0 m pc ls st0) := by
  intro T hT X
  obtain ⟨v, st₀, t, T', L, h0, X', hL, e1, e2, ⟨r, w1, hq1, hrok, hv, hP1, hlen1, hz, hk⟩, st⟩ := hr T hT X
  have hv := Outcome.returned.inj hv
  subst hv
  rw [h0] at hz hk
  obtain ⟨t2, a1, b1⟩ := kk r w1 T'.heap (locs ++ L) hq1 hrok (by rw [e1]; exact hP1) ⟨Nat.le_trans hS.1 (by rw [e1]; exact hz), fun q h1 h2 => by rw [e1, hk q (Nat.lt_of_lt_of_le h1 hS.1) h2]; exact hS.2.1 q h1 h2, fun q hq => by
      rcases List.mem_append.mp hq with h | h
      · exact hS.2.2 q h
      · exact hL q h⟩ hlen1 T' rfl X'
  exact ⟨t2, st t2 a1, b1⟩
theorem m_good {ws : List Cond} (h : ∀ w ∈ ws, w ∈ lw_g) : GoodIn lw_g ws := fun w hw => ⟨h w hw, good_of_word (List.mem_filter.mp (h w hw)).2⟩
theorem m_ws_in {mi : Nat} (h0 : 0 < mi) (h1 : mi < 62) : ∀ w ∈ m_ws mi, w ∈ lw_g := by
  intro w hw
  rcases List.mem_cons.mp hw with rfl | hw
  · exact (m_met_w mi h0 h1).1
  · exact hw
/-- what a call asks of the room, by numbers -/
def m_cok (mi mi' na nw : Nat) (S : List mPV) (bc bs : Nat) : Bool :=
  (Nat.ble ((m_rm mi').frames + 1) (m_rm mi).frames && Nat.ble (8 + (m_ml mi' + 11) + (m_rm mi').locals) (m_rm mi).locals) && ((Nat.ble ((S.map m_cat).sum) 8 && Nat.ble nw (m_ml mi')) && ((Nat.beq na (m_np mi') && Nat.blt mi' 62) && (Nat.ble (m_rm mi').cells bc && Nat.ble (m_rm mi').slots bs)))
theorem m_cok_ok {mi mi' na nw : Nat} {S : List mPV} {bc bs : Nat} (h : m_cok mi mi' na nw S bc bs = true) : ((m_rm mi').frames + 1 ≤ (m_rm mi).frames ∧ 8 + (m_ml mi' + 11) + (m_rm mi').locals ≤ (m_rm mi).locals) ∧ (S.map m_cat).sum ≤ 8 ∧ nw ≤ m_ml mi' ∧ na = m_np mi' ∧ mi' < 62 ∧ (m_rm mi').cells ≤ bc ∧ (m_rm mi').slots ≤ bs := by
  unfold m_cok at h
  simp only [Bool.and_eq_true] at h
  obtain ⟨⟨h1, h2⟩, ⟨h3, h4⟩, ⟨h5, h6⟩, h7, h8⟩ := h
  exact ⟨⟨Nat.le_of_ble_eq_true h1, Nat.le_of_ble_eq_true h2⟩, Nat.le_of_ble_eq_true h3, Nat.le_of_ble_eq_true h4, Nat.eq_of_beq_eq_true h5, Nat.le_of_ble_eq_true h6, Nat.le_of_ble_eq_true h7, Nat.le_of_ble_eq_true h8⟩

set_option maxHeartbeats 4000000 in
set_option maxRecDepth 100000 in
theorem m_callV {X : Nat × Nat × (Nat → Int32)} {mi pc i mi' y : Nat} {z : Int} {L : List (Option mPV)} {S : List mPV} {w : mPW} {bc bs : Nat} {Q Q' : Option mPV → mPW → Prop} {q ci : Nat} {fs : List mPV} (as S' : List mPV) (hf : m_fetch mi pc = some (pc, .invokevirtual i, mi', y, z)) (hw : w[q]? = some (.inr (ci, fs))) (hc : ∃ r : vw_C, vwCl[ci]? = some r ∧ r.1 = (m_y mi').cls) (hst : S = as.reverse ++ .inr (.inl q) :: S') (hok0 : m_cok mi mi' as.length (m_words (.inr (.inl q) :: as)) S' bc bs = true) (C : m_Run X mi' (.inr (.inl q) :: as) w Q') (K : ∀ r w1, Q' r w1 → m_rok mi' r → m_Sem X mi (pc + 3, L, r.toList ++ S', w1, bc - (m_rm mi').cells, bs - (m_rm mi').slots) Q) : m_Sem X mi (pc, L, S, w, bc, bs) Q := by
  intro p l e s m args below meth c N0 aI D Qf hC hF H locs ls k n hl hlen hP hS hk hb1 hb2
  have hok := (m_fetch_ok hf).2
  obtain ⟨hx, hb, hml, hown, hts, hin, hK, h0, hX⟩ := id hC
  unfold m_okb at hok
  simp only [Bool.and_eq_true] at hok
  obtain ⟨hok1, hok2⟩ := hok
  dsimp only at hok1 hok2 hl hlen hP hS hk hb1 hb2
  have hdec := of_decide_eq_true hok1
  dsimp only [m_len] at hdec
  obtain ⟨hr1, hr2, hr3, hr4, hr5, hr6, hr7⟩ := m_cok_ok hok0
  have hlk := m_mths_w _ (of_decide_eq_true hok2.1)
  have hkd := of_decide_eq_true hok2.2
  have hkk : 0 < mi' ∧ m_kind mi' = 1 := ⟨hkd.2.1, hkd.2.2⟩
  have hlk : Cond.methodLink (m_own mi) i (m_y mi') ∈ lw_g := by
    have h : Cond.methodLink (m_own mi) i (m_yy mi') ∈ lw_g := hlk
    unfold m_yy at h
    rw [if_pos (by omega)] at h
    exact h
  obtain ⟨g1, g2, g3, g4, g5, g6, ⟨g7, g9, g10, g11⟩, g8⟩ := m_met_w mi' hkk.1 hr5
  intro T hT XT
  subst hT
  have hz := m_size (X := X) (mi := mi) h0 hP hS hk XT
  suffices key : W p l e (m_rm mi) s m args below meth c T.heap locs k n Qf (F0 m pc ls (S.map (m_cv N0))) from key T rfl XT
  have cw : CallW (m_rm mi) s args (m_own mi) (m_y mi').cls i (m_y mi') (m_cd mi') (m_ml mi') (m_ret mi') (m_ws mi') (m_rm mi') (m_rm mi').cells (m_rm mi').slots (m_np mi') := cwV (m_np mi') hts (m_good (fun w hw => by
    rcases List.mem_append.mp (show w ∈ ([.methodLink (m_own mi) i (m_y mi'), .instanceMethod (m_y mi'), .selects (m_y mi').cls (m_y mi') (m_y mi'), .initialized (m_y mi').cls] : List Cond) ++ m_ws mi' from hw) with hw | hw
    · simp only [List.mem_cons, List.not_mem_nil, or_false] at hw
      rcases hw with rfl | rfl | rfl | rfl
      · exact hlk
      · exact g4 (by omega)
      · exact g5 hkk.2
      · exact g2
    · exact m_ws_in hkk.1 hr5 w hw)) rfl rfl rfl ⟨rfl, g9, g10, g11⟩ hr1
  obtain ⟨rr, hc1, hc2⟩ := hc
  have hrecv := va_recv hK hP hc1 (m_cw_at hw)
  rw [hc2] at hrecv
  refine m_back (va_runV (b := N0 + q) (As := as.map (m_cv N0)) (rest := S'.map (m_cv N0)) ⟨hx, hb, hml, hown, hts⟩ (m_met l N0 aI D hkk.1 hr5 hr3 C) cw ⟨m_blind, hrecv, fun U hU hW => ⟨rfl, by rw [hU]; exact hP, by rw [hU]; exact hz, va_K.moved hW.alike hK, by rw [hU]; exact (hX.1.kept (hS.2.1 _ (Nat.lt_of_lt_of_le hX.2 h0) (Nat.not_le.mpr hX.2))).moved hW.alike, hX.2⟩⟩ rfl (by rw [List.length_map]; exact hr4) hl.1 (by rw [hst]; show (List.map (m_cv N0) _) = _; simp [List.map_append, List.map_reverse, m_cv]) (by show 2 * 0 + _ ≤ 8; rw [m_cats]; omega) hdec ⟨by omega, by omega⟩) hS ?_
  intro r w1 H1 locs1 hq hrok hP1 hS1 hlen1
  have hst2 : (r.map (m_cv N0)).toList ++ S'.map (m_cv N0) = (r.toList ++ S').map (m_cv N0) := by cases r <;> rfl
  rw [hst2]
  exact K r w1 hq hrok p l e s m args below meth c N0 aI D Qf hC hF H1 locs1 ls (k + (m_rm mi').cells) (n + (m_rm mi').slots) hl hlen hP1 hS1 (by rw [hlen1]; omega) (by show k + (m_rm mi').cells + (bc - (m_rm mi').cells) = _; omega) (by show n + (m_rm mi').slots + (bs - (m_rm mi').slots) ≤ _; omega)

set_option maxHeartbeats 4000000 in
set_option maxRecDepth 100000 in
theorem m_callS {X : Nat × Nat × (Nat → Int32)} {mi pc i mi' y : Nat} {z : Int} {L : List (Option mPV)} {S : List mPV} {w : mPW} {bc bs : Nat} {Q Q' : Option mPV → mPW → Prop} (as S' : List mPV) (hf : m_fetch mi pc = some (pc, .invokestatic i, mi', y, z)) (hst : S = as.reverse ++ S') (hok0 : m_cok mi mi' as.length (m_words as) S' bc bs = true) (C : m_Run X mi' as w Q') (K : ∀ r w1, Q' r w1 → m_rok mi' r → m_Sem X mi (pc + 3, L, r.toList ++ S', w1, bc - (m_rm mi').cells, bs - (m_rm mi').slots) Q) : m_Sem X mi (pc, L, S, w, bc, bs) Q := by
  intro p l e s m args below meth c N0 aI D Qf hC hF H locs ls k n hl hlen hP hS hk hb1 hb2
  have hok := (m_fetch_ok hf).2
  obtain ⟨hx, hb, hml, hown, hts, hin, hK, h0, hX⟩ := id hC
  unfold m_okb at hok
  simp only [Bool.and_eq_true] at hok
  obtain ⟨hok1, hok2⟩ := hok
  dsimp only at hok1 hok2 hl hlen hP hS hk hb1 hb2
  have hdec := of_decide_eq_true hok1
  dsimp only [m_len] at hdec
  obtain ⟨hr1, hr2, hr3, hr4, hr5, hr6, hr7⟩ := m_cok_ok hok0
  have hlk := m_mths_w _ (of_decide_eq_true hok2.1)
  have hkd := of_decide_eq_true hok2.2
  have hkk : 0 < mi' ∧ m_kind mi' = 0 := by
    rcases hkd with h | h | h
    · omega
    · omega
    · exact ⟨h.2.1, h.2.2⟩
  have hlk : Cond.methodLink (m_own mi) i (m_y mi') ∈ lw_g := by
    have h : Cond.methodLink (m_own mi) i (m_yy mi') ∈ lw_g := hlk
    unfold m_yy at h
    rw [if_pos (by omega)] at h
    exact h
  obtain ⟨g1, g2, g3, g4, g5, g6, ⟨g7, g9, g10, g11⟩, g8⟩ := m_met_w mi' hkk.1 hr5
  intro T hT XT
  subst hT
  have hz := m_size (X := X) (mi := mi) h0 hP hS hk XT
  suffices key : W p l e (m_rm mi) s m args below meth c T.heap locs k n Qf (F0 m pc ls (S.map (m_cv N0))) from key T rfl XT
  have cw : CallB (m_rm mi) s args (m_own mi) i (m_y mi') (m_cd mi') (m_ml mi') (m_ret mi') (m_ws mi') (m_rm mi') (m_rm mi').cells (m_rm mi').slots (m_np mi') ∧ (Cond.static (m_y mi')).before args s = true := ⟨callB_of (m_np mi') hts (m_good (m_ws_in hkk.1 hr5)) rfl rfl rfl (hts _ g2) (hts _ hlk) ⟨g9, g10, g11⟩ hr1, hts _ (g3 hkk.2)⟩
  refine m_back (va_runS (As := as.map (m_cv N0)) (rest := S'.map (m_cv N0)) ⟨hx, hb, hml, hown, hts⟩ (m_met l N0 aI D hkk.1 hr5 hr3 C) cw ⟨m_blind, fun U hU hW => ⟨rfl, by rw [hU]; exact hP, by rw [hU]; exact hz, va_K.moved hW.alike hK, by rw [hU]; exact (hX.1.kept (hS.2.1 _ (Nat.lt_of_lt_of_le hX.2 h0) (Nat.not_le.mpr hX.2))).moved hW.alike, hX.2⟩⟩ rfl (by rw [List.length_map]; exact hr4) hl.1 (by rw [hst]; show (List.map (m_cv N0) _) = _; simp [List.map_append, List.map_reverse, m_cv]) (by show 2 * 0 + _ ≤ 8; rw [m_cats]; omega) hdec ⟨by omega, by omega⟩) hS ?_
  intro r w1 H1 locs1 hq hrok hP1 hS1 hlen1
  have hst2 : (r.map (m_cv N0)).toList ++ S'.map (m_cv N0) = (r.toList ++ S').map (m_cv N0) := by cases r <;> rfl
  rw [hst2]
  exact K r w1 hq hrok p l e s m args below meth c N0 aI D Qf hC hF H1 locs1 ls (k + (m_rm mi').cells) (n + (m_rm mi').slots) hl hlen hP1 hS1 (by rw [hlen1]; omega) (by show k + (m_rm mi').cells + (bc - (m_rm mi').cells) = _; omega) (by show n + (m_rm mi').slots + (bs - (m_rm mi').slots) ≤ _; omega)

set_option maxHeartbeats 4000000 in
set_option maxRecDepth 100000 in
theorem m_callI {X : Nat × Nat × (Nat → Int32)} {mi pc i mi' y : Nat} {z : Int} {L : List (Option mPV)} {S : List mPV} {w : mPW} {bc bs : Nat} {Q Q' : Option mPV → mPW → Prop} {q : Nat} (as S' : List mPV) (hf : m_fetch mi pc = some (pc, .invokespecial i, mi', y, z)) (hst : S = as.reverse ++ .inr (.inl q) :: S') (hok0 : m_cok mi mi' as.length (m_words (.inr (.inl q) :: as)) S' bc bs = true) (C : m_Run X mi' (.inr (.inl q) :: as) w Q') (K : ∀ r w1, Q' r w1 → m_rok mi' r → m_Sem X mi (pc + 3, L, r.toList ++ S', w1, bc - (m_rm mi').cells, bs - (m_rm mi').slots) Q) : m_Sem X mi (pc, L, S, w, bc, bs) Q := by
  intro p l e s m args below meth c N0 aI D Qf hC hF H locs ls k n hl hlen hP hS hk hb1 hb2
  have hok := (m_fetch_ok hf).2
  obtain ⟨hx, hb, hml, hown, hts, hin, hK, h0, hX⟩ := id hC
  unfold m_okb at hok
  simp only [Bool.and_eq_true] at hok
  obtain ⟨hok1, hok2⟩ := hok
  dsimp only at hok1 hok2 hl hlen hP hS hk hb1 hb2
  have hdec := of_decide_eq_true hok1
  dsimp only [m_len] at hdec
  obtain ⟨hr1, hr2, hr3, hr4, hr5, hr6, hr7⟩ := m_cok_ok hok0
  have hlk := m_mths_w _ (of_decide_eq_true hok2.1)
  have hkd := of_decide_eq_true hok2.2
  have hkk : 0 < mi' ∧ m_kind mi' = 2 := by
    rcases hkd with h | h
    · omega
    · exact ⟨h.2.1, h.2.2⟩
  have hlk : Cond.methodLink (m_own mi) i (m_y mi') ∈ lw_g := by
    have h : Cond.methodLink (m_own mi) i (m_yy mi') ∈ lw_g := hlk
    unfold m_yy at h
    rw [if_pos (by omega)] at h
    exact h
  obtain ⟨g1, g2, g3, g4, g5, g6, ⟨g7, g9, g10, g11⟩, g8⟩ := m_met_w mi' hkk.1 hr5
  intro T hT XT
  subst hT
  have hz := m_size (X := X) (mi := mi) h0 hP hS hk XT
  suffices key : W p l e (m_rm mi) s m args below meth c T.heap locs k n Qf (F0 m pc ls (S.map (m_cv N0))) from key T rfl XT
  have hret := (g6 hkk.2).2
  have cw : CallB (m_rm mi) s args (m_own mi) i (m_y mi') (m_cd mi') (m_ml mi') none (m_ws mi') (m_rm mi') (m_rm mi').cells (m_rm mi').slots (m_np mi') ∧ (m_y mi').name = "<init>" ∧ (Cond.instanceMethod (m_y mi')).before args s = true := cwI (m_np mi') hts (m_good (m_ws_in hkk.1 hr5)) (by unfold m_ws; rw [hret]) rfl rfl (hts _ g2) (hts _ hlk) (hts _ (g4 (by omega))) (g6 hkk.2).1 ⟨g9, g10, g11⟩ hr1
  refine m_back (va_runI (b := N0 + q) (As := as.map (m_cv N0)) (rest := S'.map (m_cv N0)) ⟨hx, hb, hml, hown, hts⟩ (m_met l N0 aI D hkk.1 hr5 hr3 C) cw ⟨m_blind, fun U hU hW => ⟨rfl, by rw [hU]; exact hP, by rw [hU]; exact hz, va_K.moved hW.alike hK, by rw [hU]; exact (hX.1.kept (hS.2.1 _ (Nat.lt_of_lt_of_le hX.2 h0) (Nat.not_le.mpr hX.2))).moved hW.alike, hX.2⟩⟩ rfl (by rw [List.length_map]; exact hr4) hl.1 (by rw [hst]; show (List.map (m_cv N0) _) = _; simp [List.map_append, List.map_reverse, m_cv]) (by show 2 * 0 + _ ≤ 8; rw [m_cats]; omega) hdec ⟨by omega, by omega⟩) hS ?_
  intro r w1 H1 locs1 hq hrok hP1 hS1 hlen1
  have hst2 : (r.map (m_cv N0)).toList ++ S'.map (m_cv N0) = (r.toList ++ S').map (m_cv N0) := by cases r <;> rfl
  rw [hst2]
  exact K r w1 hq hrok p l e s m args below meth c N0 aI D Qf hC hF H1 locs1 ls (k + (m_rm mi').cells) (n + (m_rm mi').slots) hl hlen hP1 hS1 (by rw [hlen1]; omega) (by show k + (m_rm mi').cells + (bc - (m_rm mi').cells) = _; omega) (by show n + (m_rm mi').slots + (bs - (m_rm mi').slots) ≤ _; omega)

set_option maxHeartbeats 4000000 in
set_option maxRecDepth 100000 in
theorem m_callS2 {X : Nat × Nat × (Nat → Int32)} {mi pc i mi' mi0 y : Nat} {z : Int} {L : List (Option mPV)} {S : List mPV} {w : mPW} {bc bs : Nat} {Q Q' : Option mPV → mPW → Prop} (as S' : List mPV) (hf : m_fetch mi pc = some (pc, .invokestatic i, mi0, y, z)) (h90 : m_y mi' = m_y mi0) (h91 : mi0 < 1000) (h92 : 0 < mi' ∧ m_kind mi' = 0) (hst : S = as.reverse ++ S') (hok0 : m_cok mi mi' as.length (m_words as) S' bc bs = true) (C : m_Run X mi' as w Q') (K : ∀ r w1, Q' r w1 → m_rok mi' r → m_Sem X mi (pc + 3, L, r.toList ++ S', w1, bc - (m_rm mi').cells, bs - (m_rm mi').slots) Q) : m_Sem X mi (pc, L, S, w, bc, bs) Q := by
  intro p l e s m args below meth c N0 aI D Qf hC hF H locs ls k n hl hlen hP hS hk hb1 hb2
  have hok := (m_fetch_ok hf).2
  obtain ⟨hx, hb, hml, hown, hts, hin, hK, h0, hX⟩ := id hC
  unfold m_okb at hok
  simp only [Bool.and_eq_true] at hok
  obtain ⟨hok1, hok2⟩ := hok
  dsimp only at hok1 hok2 hl hlen hP hS hk hb1 hb2
  have hdec := of_decide_eq_true hok1
  dsimp only [m_len] at hdec
  obtain ⟨hr1, hr2, hr3, hr4, hr5, hr6, hr7⟩ := m_cok_ok hok0
  have hlk := m_mths_w _ (of_decide_eq_true hok2.1)
  have hkd := of_decide_eq_true hok2.2
  have hkk := h92
  have hlk : Cond.methodLink (m_own mi) i (m_y mi') ∈ lw_g := by
    have h : Cond.methodLink (m_own mi) i (m_yy mi0) ∈ lw_g := hlk
    unfold m_yy at h
    rw [if_pos h91] at h
    rw [h90]
    exact h
  obtain ⟨g1, g2, g3, g4, g5, g6, ⟨g7, g9, g10, g11⟩, g8⟩ := m_met_w mi' hkk.1 hr5
  intro T hT XT
  subst hT
  have hz := m_size (X := X) (mi := mi) h0 hP hS hk XT
  suffices key : W p l e (m_rm mi) s m args below meth c T.heap locs k n Qf (F0 m pc ls (S.map (m_cv N0))) from key T rfl XT
  have cw : CallB (m_rm mi) s args (m_own mi) i (m_y mi') (m_cd mi') (m_ml mi') (m_ret mi') (m_ws mi') (m_rm mi') (m_rm mi').cells (m_rm mi').slots (m_np mi') ∧ (Cond.static (m_y mi')).before args s = true := ⟨callB_of (m_np mi') hts (m_good (m_ws_in hkk.1 hr5)) rfl rfl rfl (hts _ g2) (hts _ hlk) ⟨g9, g10, g11⟩ hr1, hts _ (g3 hkk.2)⟩
  refine m_back (va_runS (As := as.map (m_cv N0)) (rest := S'.map (m_cv N0)) ⟨hx, hb, hml, hown, hts⟩ (m_met l N0 aI D hkk.1 hr5 hr3 C) cw ⟨m_blind, fun U hU hW => ⟨rfl, by rw [hU]; exact hP, by rw [hU]; exact hz, va_K.moved hW.alike hK, by rw [hU]; exact (hX.1.kept (hS.2.1 _ (Nat.lt_of_lt_of_le hX.2 h0) (Nat.not_le.mpr hX.2))).moved hW.alike, hX.2⟩⟩ rfl (by rw [List.length_map]; exact hr4) hl.1 (by rw [hst]; show (List.map (m_cv N0) _) = _; simp [List.map_append, List.map_reverse, m_cv]) (by show 2 * 0 + _ ≤ 8; rw [m_cats]; omega) hdec ⟨by omega, by omega⟩) hS ?_
  intro r w1 H1 locs1 hq hrok hP1 hS1 hlen1
  have hst2 : (r.map (m_cv N0)).toList ++ S'.map (m_cv N0) = (r.toList ++ S').map (m_cv N0) := by cases r <;> rfl
  rw [hst2]
  exact K r w1 hq hrok p l e s m args below meth c N0 aI D Qf hC hF H1 locs1 ls (k + (m_rm mi').cells) (n + (m_rm mi').slots) hl hlen hP1 hS1 (by rw [hlen1]; omega) (by show k + (m_rm mi').cells + (bc - (m_rm mi').cells) = _; omega) (by show n + (m_rm mi').slots + (bs - (m_rm mi').slots) ≤ _; omega)
end
section
/-! The world of one run: the class's thirteen cells, then the law's own. Truth values, ends of calls, loops. -/
def bI (b : Bool) : Int := bif b then 1 else 0
theorem bI_e0 {b : Bool} : bI b = 0 ↔ b = false := by cases b <;> decide
theorem bI_n0 {b : Bool} : ¬ bI b = 0 ↔ b = true := by cases b <;> decide
theorem bI_01 (b : Bool) : bI b = 0 ∨ bI b = 1 := by cases b <;> decide
theorem bI_R (b : Bool) : m_R (bI b) := by cases b <;> exact ⟨by decide, by decide⟩
abbrev HS : Type := Int × (Int → Int) × (Int → Int)
abbrev TS : Type := Int × (Int → Int)
abbrev XS : Type := (Int → Int) × (Int → Int) × (Int → Int) × Int × Int × Int
abbrev CS : Type := Int × (Int → Int) × HS × TS × XS
/-- the cells that the class does not have: the law's own -/
abbrev MS : Type := mPW
def mW (c : CS) (m : MS) : mPW :=
  .inr (5, [.inr (.inl 1), .inr (.inl 2), .inr (.inl 4), .inr (.inl 7), .inr (.inl 9)]) ::
   .inr (2, [.inr (.inl 2)]) ::
   .inr (3, [.inl c.1, .inr (.inl 3)]) ::
   .inl (0, 81, .inl c.2.1) ::
   .inr (0, [.inr (.inl 5), .inr (.inl 6), .inl c.2.2.1.1]) ::
   .inl (0, 4, .inl c.2.2.1.2.1) ::
   .inl (0, 324, .inl c.2.2.1.2.2) ::
   .inr (4, [.inr (.inl 8), .inl c.2.2.2.1.1]) ::
   .inl (1, 60, .inl c.2.2.2.1.2) ::
   .inr (1, [.inr (.inl 10), .inr (.inl 11), .inr (.inl 12), .inl c.2.2.2.2.2.2.2.1, .inl c.2.2.2.2.2.2.2.2.1, .inl c.2.2.2.2.2.2.2.2.2]) ::
   .inl (0, 91, .inl c.2.2.2.2.1) ::
   .inl (0, 91, .inl c.2.2.2.2.2.1) ::
   .inl (0, 91, .inl c.2.2.2.2.2.2.1) :: m
def m_V (v : Int) (w' : mPW) : Option mPV → mPW → Prop := fun r w => r = some (.inl v) ∧ w = w'
def m_U (w' : mPW) : Option mPV → mPW → Prop := fun r w => r = none ∧ w = w'
theorem m_Vi {v a : Int} {w : mPW} (h : a = v) : m_V v w (some (.inl a)) w := ⟨by rw [h], rfl⟩
theorem m_Vw {v a : Int} {w w' : mPW} (h : a = v) (hw : w = w') : m_V v w' (some (.inl a)) w := ⟨by rw [h], hw⟩
theorem m_callVF {X : Nat × Nat × (Nat → Int32)} {mi pc i mi' y : Nat} {z : Int} {L : List (Option mPV)} {S : List mPV} {w w1 : mPW} {bc bs : Nat} {Q : Option mPV → mPW → Prop} {v : Int} {q ci : Nat} {fs : List mPV} (as S' : List mPV) (hf : m_fetch mi pc = some (pc, .invokevirtual i, mi', y, z)) (hw : w[q]? = some (.inr (ci, fs))) (hc : ∃ r : vw_C, vwCl[ci]? = some r ∧ r.1 = (m_y mi').cls) (hst : S = as.reverse ++ .inr (.inl q) :: S') (hok0 : m_cok mi mi' as.length (m_words (.inr (.inl q) :: as)) S' bc bs = true) (C : m_Run X mi' (.inr (.inl q) :: as) w (m_V v w1)) (K : m_Sem X mi (pc + 3, L, .inl v :: S', w1, bc - (m_rm mi').cells, bs - (m_rm mi').slots) Q) : m_Sem X mi (pc, L, S, w, bc, bs) Q :=
  m_callV as S' hf hw hc hst hok0 C (fun r w2 hq _ => by obtain ⟨rfl, rfl⟩ := hq; exact K)
theorem m_callVU {X : Nat × Nat × (Nat → Int32)} {mi pc i mi' y : Nat} {z : Int} {L : List (Option mPV)} {S : List mPV} {w w1 : mPW} {bc bs : Nat} {Q : Option mPV → mPW → Prop} {q ci : Nat} {fs : List mPV} (as S' : List mPV) (hf : m_fetch mi pc = some (pc, .invokevirtual i, mi', y, z)) (hw : w[q]? = some (.inr (ci, fs))) (hc : ∃ r : vw_C, vwCl[ci]? = some r ∧ r.1 = (m_y mi').cls) (hst : S = as.reverse ++ .inr (.inl q) :: S') (hok0 : m_cok mi mi' as.length (m_words (.inr (.inl q) :: as)) S' bc bs = true) (C : m_Run X mi' (.inr (.inl q) :: as) w (m_U w1)) (K : m_Sem X mi (pc + 3, L, S', w1, bc - (m_rm mi').cells, bs - (m_rm mi').slots) Q) : m_Sem X mi (pc, L, S, w, bc, bs) Q :=
  m_callV as S' hf hw hc hst hok0 C (fun r w2 hq _ => by obtain ⟨rfl, rfl⟩ := hq; exact K)
theorem m_callSF {X : Nat × Nat × (Nat → Int32)} {mi pc i mi' y : Nat} {z : Int} {L : List (Option mPV)} {S : List mPV} {w w1 : mPW} {bc bs : Nat} {Q : Option mPV → mPW → Prop} {v : Int} (as S' : List mPV) (hf : m_fetch mi pc = some (pc, .invokestatic i, mi', y, z)) (hst : S = as.reverse ++ S') (hok0 : m_cok mi mi' as.length (m_words as) S' bc bs = true) (C : m_Run X mi' as w (m_V v w1)) (K : m_Sem X mi (pc + 3, L, .inl v :: S', w1, bc - (m_rm mi').cells, bs - (m_rm mi').slots) Q) : m_Sem X mi (pc, L, S, w, bc, bs) Q :=
  m_callS as S' hf hst hok0 C (fun r w2 hq _ => by obtain ⟨rfl, rfl⟩ := hq; exact K)
theorem m_callIU {X : Nat × Nat × (Nat → Int32)} {mi pc i mi' y : Nat} {z : Int} {L : List (Option mPV)} {S : List mPV} {w w1 : mPW} {bc bs : Nat} {Q : Option mPV → mPW → Prop} {q : Nat} (as S' : List mPV) (hf : m_fetch mi pc = some (pc, .invokespecial i, mi', y, z)) (hst : S = as.reverse ++ .inr (.inl q) :: S') (hok0 : m_cok mi mi' as.length (m_words (.inr (.inl q) :: as)) S' bc bs = true) (C : m_Run X mi' (.inr (.inl q) :: as) w (m_U w1)) (K : m_Sem X mi (pc + 3, L, S', w1, bc - (m_rm mi').cells, bs - (m_rm mi').slots) Q) : m_Sem X mi (pc, L, S, w, bc, bs) Q :=
  m_callI as S' hf hst hok0 C (fun r w2 hq _ => by obtain ⟨rfl, rfl⟩ := hq; exact K)
/-- a loop that counts up: from its end backwards -/
theorem m_down {P : Int → Prop} (lo hi : Int) (h1 : P hi) (h2 : ∀ i, lo ≤ i → i < hi → P (i + 1) → P i) : ∀ i, lo ≤ i → i ≤ hi → P i := by
  have key : ∀ (k : Nat) (i : Int), lo ≤ i → i + k = hi → P i := by
    intro k
    induction k with
    | zero => intro i _ h; rw [show i = hi by omega]; exact h1
    | succ k ih => intro i h h'; exact h2 i h (by omega) (ih (i + 1) (by omega) (by omega))
  intro i h h'
  exact key (hi - i).toNat i h (by omega)
def okN (n : Int) : Prop := n = 2 ∨ n = 3 ∨ n = 4 ∨ n = 5 ∨ n = 7 ∨ n = 9
theorem okN_lo {n : Int} (h : okN n) : 2 ≤ n ∧ n ≤ 9 := by unfold okN at h; omega
def repC (n : Int) (T : Int → Int) (tb : Int → Int → Int) : Prop := okN n ∧ ∀ a b, 0 ≤ a → a < n → 0 ≤ b → b < n → T (9 * a + b) = tb a b ∧ 0 ≤ tb a b ∧ tb a b < n
def repM (n : Int) (s : Int → Int) (tb : Int → Int → Int) : Prop := okN n ∧ s 0 = n ∧ ∀ a b, 0 ≤ a → a < n → 0 ≤ b → b < n → s (1 + 9 * a + b) = tb a b ∧ 0 ≤ tb a b ∧ tb a b < n
def sumS (n a b : Int) : Int := if n = 4 then (Int32.ofInt a ^^^ Int32.ofInt b).toInt else if n = 9 then 3 * ((a / 3 + b / 3) % 3) + (a % 3 + b % 3) % 3 else if a + b < n then a + b else a + b - n
def difS (n a b : Int) : Int := if n = 4 then (Int32.ofInt a ^^^ Int32.ofInt b).toInt else if n = 9 then 3 * ((a / 3 - b / 3 + 3) % 3) + (a % 3 - b % 3 + 3) % 3 else if a < b then a - b + n else a - b
def fpS (n a b : Int) : Int := if n = 4 then (if a = 0 ∨ b = 0 then 0 else 1 + (a + b - 2) % 3) else if n = 9 then 3 * ((a / 3 * (b % 3) + a % 3 * (b / 3)) % 3) + (a % 3 * (b % 3) - a / 3 * (b / 3) + 6) % 3 else a * b % n
/-- what a program decides for all sizes and elements -/
theorem all2 {P : Int → Int → Int → Prop} (h : ∀ n ∈ ([2, 3, 4, 5, 7, 9] : List Nat), ∀ a, a < n → ∀ b, b < n → P (n : Int) (a : Int) (b : Int)) {n a b : Int} (hn : okN n) (ha : 0 ≤ a) (ha' : a < n) (hb : 0 ≤ b) (hb' : b < n) : P n a b := by
  have hl := okN_lo hn
  have h1 := h n.toNat (by unfold okN at hn; simp only [List.mem_cons, List.not_mem_nil, or_false]; omega) a.toNat (by omega) b.toNat (by omega)
  rw [Int.toNat_of_nonneg (by omega), Int.toNat_of_nonneg ha, Int.toNat_of_nonneg hb] at h1
  exact h1
theorem sumS_in {n a b : Int} (hn : okN n) (ha : 0 ≤ a) (ha' : a < n) (hb : 0 ≤ b) (hb' : b < n) : 0 ≤ sumS n a b ∧ sumS n a b < n := all2 (P := fun n a b => 0 ≤ sumS n a b ∧ sumS n a b < n) (by decide +kernel) hn ha ha' hb hb'
theorem difS_in {n a b : Int} (hn : okN n) (ha : 0 ≤ a) (ha' : a < n) (hb : 0 ≤ b) (hb' : b < n) : 0 ≤ difS n a b ∧ difS n a b < n := all2 (P := fun n a b => 0 ≤ difS n a b ∧ difS n a b < n) (by decide +kernel) hn ha ha' hb hb'
theorem fpS_in {n a b : Int} (hn : okN n) (ha : 0 ≤ a) (ha' : a < n) (hb : 0 ≤ b) (hb' : b < n) : 0 ≤ fpS n a b ∧ fpS n a b < n := all2 (P := fun n a b => 0 ≤ fpS n a b ∧ fpS n a b < n) (by decide +kernel) hn ha ha' hb hb'
theorem sum_dif {n a b : Int} (hn : okN n) (ha : 0 ≤ a) (ha' : a < n) (hb : 0 ≤ b) (hb' : b < n) : sumS n b (difS n a b) = a := all2 (P := fun n a b => sumS n b (difS n a b) = a) (by decide +kernel) hn ha ha' hb hb'
theorem dif_sum {n a b : Int} (hn : okN n) (ha : 0 ≤ a) (ha' : a < n) (hb : 0 ≤ b) (hb' : b < n) : difS n (sumS n b a) b = a := all2 (P := fun n a b => difS n (sumS n b a) b = a) (by decide +kernel) hn ha ha' hb hb'
theorem sum_comm {n a b : Int} (hn : okN n) (ha : 0 ≤ a) (ha' : a < n) (hb : 0 ≤ b) (hb' : b < n) : sumS n a b = sumS n b a := all2 (P := fun n a b => sumS n a b = sumS n b a) (by decide +kernel) hn ha ha' hb hb'
end
section
/-! What the loops compute: the first, the sum, all, the first of some kind; k steps from i on. -/
def fstF (p : Int → Bool) : Nat → Int → Int
  | 0, _ => -1
  | k + 1, i => bif p i then i else fstF p k (i + 1)
def sumF (f : Int → Int) : Nat → Int → Int
  | 0, _ => 0
  | k + 1, i => f i + sumF f k (i + 1)
def allF (p : Int → Bool) : Nat → Int → Bool
  | 0, _ => true
  | k + 1, i => p i && allF p k (i + 1)
def optF {α : Type} (f : Int → Option α) : Nat → Int → Option α
  | 0, _ => none
  | k + 1, i => match f i with
    | some a => some a
    | none => optF f k (i + 1)
theorem nat_end (n : Int) : (n - n).toNat = 0 := by omega
theorem nat_step {n i : Int} (h : i < n) : (n - i).toNat = (n - (i + 1)).toNat + 1 := by omega
theorem fst_end (p : Int → Bool) (n : Int) : fstF p (n - n).toNat n = -1 := by rw [nat_end]; rfl
theorem fst_t {p : Int → Bool} {n i : Int} (h : i < n) (hp : p i = true) : fstF p (n - i).toNat i = i := by
  rw [nat_step h]
  show (bif p i then i else fstF p (n - (i + 1)).toNat (i + 1)) = _
  rw [hp]; rfl
theorem fst_f {p : Int → Bool} {n i : Int} (h : i < n) (hp : p i = false) : fstF p (n - i).toNat i = fstF p (n - (i + 1)).toNat (i + 1) := by
  rw [nat_step h]
  show (bif p i then i else fstF p (n - (i + 1)).toNat (i + 1)) = _
  rw [hp]; rfl
theorem sum_end (f : Int → Int) (n : Int) : sumF f (n - n).toNat n = 0 := by rw [nat_end]; rfl
theorem sum_step {f : Int → Int} {n i : Int} (h : i < n) : sumF f (n - i).toNat i = f i + sumF f (n - (i + 1)).toNat (i + 1) := by rw [nat_step h]; rfl
theorem all_end (p : Int → Bool) (n : Int) : allF p (n - n).toNat n = true := by rw [nat_end]; rfl
theorem all_t {p : Int → Bool} {n i : Int} (h : i < n) (hp : p i = true) : allF p (n - i).toNat i = allF p (n - (i + 1)).toNat (i + 1) := by
  rw [nat_step h]
  show (p i && allF p (n - (i + 1)).toNat (i + 1)) = _
  rw [hp]; rfl
theorem all_f {p : Int → Bool} {n i : Int} (h : i < n) (hp : p i = false) : allF p (n - i).toNat i = false := by
  rw [nat_step h]
  show (p i && allF p (n - (i + 1)).toNat (i + 1)) = _
  rw [hp]; rfl
theorem opt_end {α : Type} (f : Int → Option α) (n : Int) : optF f (n - n).toNat n = none := by rw [nat_end]; rfl
theorem opt_s {α : Type} {f : Int → Option α} {n i : Int} {a : α} (h : i < n) (hp : f i = some a) : optF f (n - i).toNat i = some a := by
  rw [nat_step h]
  show (match f i with | some a => some a | none => optF f (n - (i + 1)).toNat (i + 1)) = _
  rw [hp]
theorem opt_n {α : Type} {f : Int → Option α} {n i : Int} (h : i < n) (hp : f i = none) : optF f (n - i).toNat i = optF f (n - (i + 1)).toNat (i + 1) := by
  rw [nat_step h]
  show (match f i with | some a => some a | none => optF f (n - (i + 1)).toNat (i + 1)) = _
  rw [hp]
theorem z_sub (n : Int) : (n - 0).toNat = n.toNat := by rw [Int.sub_zero]
theorem fst_congr {p q : Int → Bool} : ∀ (k : Nat) (i : Int), (∀ j, i ≤ j → j < i + k → p j = q j) → fstF p k i = fstF q k i
  | 0, _, _ => rfl
  | k + 1, i, h => by
    unfold fstF
    rw [h i (by omega) (by omega), fst_congr k (i + 1) (fun j h1 h2 => h j (by omega) (by omega))]
theorem sum_congr {p q : Int → Int} : ∀ (k : Nat) (i : Int), (∀ j, i ≤ j → j < i + k → p j = q j) → sumF p k i = sumF q k i
  | 0, _, _ => rfl
  | k + 1, i, h => by
    unfold sumF
    rw [h i (by omega) (by omega), sum_congr k (i + 1) (fun j h1 h2 => h j (by omega) (by omega))]
theorem all_congr {p q : Int → Bool} : ∀ (k : Nat) (i : Int), (∀ j, i ≤ j → j < i + k → p j = q j) → allF p k i = allF q k i
  | 0, _, _ => rfl
  | k + 1, i, h => by
    unfold allF
    rw [h i (by omega) (by omega), all_congr k (i + 1) (fun j h1 h2 => h j (by omega) (by omega))]
theorem opt_congr {α : Type} {p q : Int → Option α} : ∀ (k : Nat) (i : Int), (∀ j, i ≤ j → j < i + k → p j = q j) → optF p k i = optF q k i
  | 0, _, _ => rfl
  | k + 1, i, h => by
    unfold optF
    rw [h i (by omega) (by omega), opt_congr k (i + 1) (fun j h1 h2 => h j (by omega) (by omega))]
theorem all_iff {p : Int → Bool} : ∀ (k : Nat) (i : Int), allF p k i = true ↔ ∀ j, i ≤ j → j < i + k → p j = true
  | 0, i => ⟨fun _ j h1 h2 => absurd h2 (by omega), fun _ => rfl⟩
  | k + 1, i => by
    unfold allF
    rw [Bool.and_eq_true, all_iff k (i + 1)]
    refine ⟨fun h j h1 h2 => ?_, fun h => ⟨h i (by omega) (by omega), fun j h1 h2 => h j (by omega) (by omega)⟩⟩
    by_cases hj : j = i
    · rw [hj]; exact h.1
    · exact h.2 j (by omega) (by omega)
theorem sum_bound {f : Int → Int} {B : Int} : ∀ (k : Nat) (i : Int), (∀ j, i ≤ j → j < i + k → 0 ≤ f j ∧ f j ≤ B) → 0 ≤ sumF f k i ∧ sumF f k i ≤ k * B
  | 0, _, _ => ⟨Int.le_refl 0, by simp [sumF]⟩
  | k + 1, i, h => by
    have h1 := h i (by omega) (by omega)
    have h2 := sum_bound k (i + 1) (fun j h1 h2 => h j (by omega) (by omega))
    unfold sumF
    have h3 : ((k + 1 : Nat) : Int) * B = k * B + B := by rw [Int.natCast_add, Int.add_mul]; simp
    omega
end
section
/-! Sums and counts. -/
theorem cn_split (f : Int → Int) : ∀ (a b : Nat) (i : Int), sumF f (a + b) i = sumF f a i + sumF f b (i + a)
  | 0, b, i => by rw [Nat.zero_add]; show _ = 0 + sumF f b (i + ((0 : Nat) : Int)); rw [Int.zero_add]; congr 1; omega
  | a + 1, b, i => by
    rw [show a + 1 + b = (a + b) + 1 by omega]
    show f i + sumF f (a + b) (i + 1) = f i + sumF f a (i + 1) + sumF f b (i + ((a + 1 : Nat) : Int))
    rw [cn_split f a b (i + 1), show i + 1 + (a : Int) = i + ((a + 1 : Nat) : Int) by omega]
    omega
theorem cn_zero {f : Int → Int} : ∀ (k : Nat) (i : Int), (∀ j, i ≤ j → j < i + k → f j = 0) → sumF f k i = 0
  | 0, _, _ => rfl
  | k + 1, i, h => by
    unfold sumF
    rw [h i (by omega) (by omega), cn_zero k (i + 1) (fun j h1 h2 => h j (by omega) (by omega))]
    rfl
theorem cn_const {f : Int → Int} {c : Int} : ∀ (k : Nat) (i : Int), (∀ j, i ≤ j → j < i + k → f j = c) → sumF f k i = k * c
  | 0, _, _ => by simp [sumF]
  | k + 1, i, h => by
    unfold sumF
    rw [h i (by omega) (by omega), cn_const k (i + 1) (fun j h1 h2 => h j (by omega) (by omega)), Int.natCast_add, Int.add_mul]
    simp
    omega
theorem cn_add (f g : Int → Int) : ∀ (k : Nat) (i : Int), sumF (fun j => f j + g j) k i = sumF f k i + sumF g k i
  | 0, _ => rfl
  | k + 1, i => by
    unfold sumF
    rw [cn_add f g k (i + 1)]
    omega
theorem cn_swap (f : Int → Int → Int) (b : Nat) (j : Int) : ∀ (a : Nat) (i : Int), sumF (fun x => sumF (fun y => f x y) b j) a i = sumF (fun y => sumF (fun x => f x y) a i) b j
  | 0, i => by
    rw [show sumF (fun x => sumF (fun y => f x y) b j) 0 i = 0 from rfl]
    exact (cn_zero b j (fun y _ _ => rfl)).symm
  | a + 1, i => by
    rw [show sumF (fun x => sumF (fun y => f x y) b j) (a + 1) i = sumF (fun y => f i y) b j + sumF (fun x => sumF (fun y => f x y) b j) a (i + 1) from rfl]
    rw [cn_swap f b j a (i + 1), ← cn_add]
    rfl
theorem cn_le {f g : Int → Int} : ∀ (k : Nat) (i : Int), (∀ j, i ≤ j → j < i + k → f j ≤ g j) → sumF f k i ≤ sumF g k i
  | 0, _, _ => Int.le_refl _
  | k + 1, i, h => by
    unfold sumF
    have h1 := h i (by omega) (by omega)
    have h2 := cn_le k (i + 1) (fun j h1 h2 => h j (by omega) (by omega))
    omega
theorem cn_pos {f : Int → Int} {j0 c : Int} : ∀ (k : Nat) (i : Int), (∀ j, i ≤ j → j < i + k → 0 ≤ f j) → i ≤ j0 → j0 < i + k → c ≤ f j0 → c ≤ sumF f k i
  | 0, _, _, h1, h2, _ => by omega
  | k + 1, i, h, h1, h2, h3 => by
    unfold sumF
    have h4 := h i (by omega) (by omega)
    have h6 : ∀ j, i + 1 ≤ j → j < i + 1 + k → 0 ≤ f j := fun j h1 h2 => h j (by omega) (by omega)
    have h7 : 0 ≤ sumF f k (i + 1) := by
      have h8 := cn_le (f := fun _ => 0) (g := f) k (i + 1) h6
      rw [cn_zero k (i + 1) (fun _ _ _ => rfl)] at h8
      exact h8
    by_cases he : i = j0
    · subst he; omega
    · have h5 := cn_pos k (i + 1) h6 (by omega) (by omega) h3
      omega
/-- how many there are -/
def cnP (p : Int → Bool) (k : Nat) (i : Int) : Int := sumF (fun j => bI (p j)) k i
theorem bI_in (b : Bool) : 0 ≤ bI b ∧ bI b ≤ 1 := by cases b <;> decide
theorem cnP_0 (p : Int → Bool) (i : Int) : cnP p 0 i = 0 := rfl
theorem cnP_s (p : Int → Bool) (k : Nat) (i : Int) : cnP p (k + 1) i = bI (p i) + cnP p k (i + 1) := rfl
theorem cnP_in (p : Int → Bool) : ∀ (k : Nat) (i : Int), 0 ≤ cnP p k i ∧ cnP p k i ≤ k
  | 0, _ => ⟨Int.le_refl 0, Int.le_refl 0⟩
  | k + 1, i => by
    have h := cnP_in p k (i + 1)
    have h1 := bI_in (p i)
    rw [cnP_s]
    omega
theorem cnP_congr {p q : Int → Bool} (k : Nat) (i : Int) (h : ∀ j, i ≤ j → j < i + k → p j = q j) : cnP p k i = cnP q k i := sum_congr k i (fun j h1 h2 => by rw [h j h1 h2])
theorem cnP_zero {p : Int → Bool} : ∀ (k : Nat) (i : Int), cnP p k i = 0 ↔ ∀ j, i ≤ j → j < i + k → p j = false
  | 0, i => ⟨fun _ j h1 h2 => absurd h2 (by omega), fun _ => rfl⟩
  | k + 1, i => by
    rw [cnP_s]
    have h1 := bI_in (p i)
    have h2 := cnP_in p k (i + 1)
    refine ⟨fun h j g1 g2 => ?_, fun h => ?_⟩
    · by_cases he : j = i
      · rw [he]; exact bI_e0.mp (by omega)
      · exact (cnP_zero k (i + 1)).mp (by omega) j (by omega) (by omega)
    · rw [bI_e0.mpr (h i (by omega) (by omega)), (cnP_zero k (i + 1)).mpr (fun j h1 h2 => h j (by omega) (by omega))]
      rfl
theorem cnP_one {p : Int → Bool} : ∀ (k : Nat) (i : Int), cnP p k i = 1 ↔ ∃ j, (i ≤ j ∧ j < i + k ∧ p j = true) ∧ ∀ j', i ≤ j' → j' < i + k → p j' = true → j' = j
  | 0, i => ⟨fun h => by rw [cnP_0] at h; omega, fun ⟨j, h1, _⟩ => by omega⟩
  | k + 1, i => by
    rw [cnP_s]
    have h2 := cnP_in p k (i + 1)
    cases hp : p i with
    | true =>
      show 1 + cnP p k (i + 1) = 1 ↔ _
      refine ⟨fun h => ⟨i, ⟨by omega, by omega, hp⟩, fun j' g1 g2 g3 => ?_⟩, fun ⟨j, h3, h4⟩ => ?_⟩
      · by_cases he : j' = i
        · exact he
        · have h5 := (cnP_zero (p := p) k (i + 1)).mp (by omega) j' (by omega) (by omega)
          rw [h5] at g3; cases g3
      · have h5 := h4 i (by omega) (by omega) hp
        rw [(cnP_zero k (i + 1)).mpr (fun j' g1 g2 => ?_)]
        · rfl
        · cases h6 : p j' with
          | false => rfl
          | true => have h7 := h4 j' (by omega) (by omega) h6; omega
    | false =>
      show 0 + cnP p k (i + 1) = 1 ↔ _
      rw [Int.zero_add, cnP_one k (i + 1)]
      refine ⟨fun ⟨j, h3, h4⟩ => ⟨j, ⟨by omega, by omega, h3.2.2⟩, fun j' g1 g2 g3 => ?_⟩, fun ⟨j, h3, h4⟩ => ⟨j, ⟨?_, by omega, h3.2.2⟩, fun j' g1 g2 g3 => h4 j' (by omega) (by omega) g3⟩⟩
      · by_cases he : j' = i
        · rw [he, hp] at g3; cases g3
        · exact h4 j' (by omega) (by omega) g3
      · by_cases he : j = i
        · rw [he, hp] at h3; exact absurd h3.2.2 (by decide)
        · omega
theorem cnP_le1 {p : Int → Bool} : ∀ (k : Nat) (i : Int), (∀ j j', i ≤ j → j < j' → j' < i + k → p j = true → p j' = false) → cnP p k i ≤ 1
  | 0, i, _ => by rw [cnP_0]; decide
  | k + 1, i, h => by
    rw [cnP_s]
    cases hp : p i with
    | true =>
      rw [(cnP_zero k (i + 1)).mpr (fun j g1 g2 => h i j (by omega) (by omega) (by omega) hp)]
      decide
    | false =>
      have h3 := cnP_le1 k (i + 1) (fun j j' g1 g2 g3 => h j j' (by omega) g2 (by omega))
      show 0 + _ ≤ _
      omega
theorem cnP_ge1 {p : Int → Bool} {j0 : Int} (k : Nat) (i : Int) (h1 : i ≤ j0) (h2 : j0 < i + k) (h3 : p j0 = true) : 1 ≤ cnP p k i :=
  cn_pos k i (fun j _ _ => (bI_in (p j)).1) h1 h2 (by rw [h3]; decide)
theorem cnP_ge2 {p : Int → Bool} {j0 j1 : Int} : ∀ (k : Nat) (i : Int), i ≤ j0 → j0 < j1 → j1 < i + k → p j0 = true → p j1 = true → 2 ≤ cnP p k i
  | 0, i, h1, h2, h3, _, _ => by omega
  | k + 1, i, h1, h2, h3, h4, h5 => by
    rw [cnP_s]
    by_cases he : i = j0
    · subst he
      have h6 := cnP_ge1 (p := p) (j0 := j1) k (i + 1) (by omega) (by omega) h5
      rw [h4]
      show 2 ≤ 1 + _
      omega
    · have h6 := cnP_ge2 k (i + 1) (by omega) h2 (by omega) h4 h5
      have h7 := (bI_in (p i)).1
      omega
theorem cnP_miss {p : Int → Bool} {j0 : Int} : ∀ (k : Nat) (i : Int), i ≤ j0 → j0 < i + k → p j0 = false → cnP p k i < k
  | 0, i, h1, h2, _ => by omega
  | k + 1, i, h1, h2, h3 => by
    rw [cnP_s]
    have h6 := cnP_in p k (i + 1)
    by_cases he : i = j0
    · subst he
      rw [h3]
      show 0 + _ < _
      omega
    · have h4 := cnP_miss k (i + 1) (by omega) (by omega) h3
      have h5 := (bI_in (p i)).2
      omega
theorem cnP_all {p : Int → Bool} (k : Nat) (i : Int) : cnP p k i = k ↔ ∀ j, i ≤ j → j < i + k → p j = true := by
  refine ⟨fun h j h1 h2 => ?_, fun h => ?_⟩
  · cases hp : p j with
    | true => rfl
    | false => have h3 := cnP_miss k i h1 h2 hp; omega
  · unfold cnP
    rw [cn_const (c := 1) k i (fun j h1 h2 => by rw [h j h1 h2]; rfl)]
    omega
/-- how often a value comes -/
def cnV (f : Int → Int) (v : Int) (k : Nat) (i : Int) : Int := cnP (fun m => decide (f m = v)) k i
theorem pw_bit (d v : Nat) : (2 ^ d).testBit v = decide (d = v) := Nat.testBit_two_pow
def onB (sb eb : Bool) (c : Int) : Bool := !eb && (bif sb then decide (c = 0) else decide (c = 1))
theorem onB_s (sb eb : Bool) {c : Int} (h : 0 ≤ c) : onB true (eb || sb) c = onB sb eb (1 + c) := by
  unfold onB
  cases sb <;> cases eb <;> simp <;> omega
theorem b_full (k : Nat) (v : Nat) (h : v < 9) : (k ^^^ 4294967295).testBit v = ! k.testBit v := by
  rw [Nat.testBit_xor, show (4294967295 : Nat) = 2 ^ 32 - 1 by decide, Nat.testBit_two_pow_sub_one, decide_eq_true (by omega)]
  cases k.testBit v <;> rfl
theorem once_bits (f : Int → Int) : ∀ (k : Nat) (i : Int) (s e : Nat), (∀ j, i ≤ j → j < i + k → 0 ≤ f j) → onceK f k i s e = sumF (fun v => bI (onB (s.testBit v.toNat) (e.testBit v.toNat) (cnV f v k i))) 9 0
  | 0, i, s, e, _ => by
    show popc (s &&& (e ^^^ 4294967295)) = _
    unfold popc
    refine sum_congr 9 0 (fun v h1 h2 => ?_)
    rw [Nat.testBit_and, b_full e v.toNat (by omega)]
    show bI _ = bI (onB _ _ 0)
    unfold onB
    cases s.testBit v.toNat <;> cases e.testBit v.toNat <;> rfl
  | k + 1, i, s, e, h => by
    show onceK f k (i + 1) (s ||| 2 ^ (f i).toNat) (e ||| (s &&& 2 ^ (f i).toNat)) = _
    rw [once_bits f k (i + 1) _ _ (fun j h1 h2 => h j (by omega) (by omega))]
    refine sum_congr 9 0 (fun v h1 h2 => ?_)
    have h3 := h i (by omega) (by omega)
    have h4 := (cnP_in (fun m => decide (f m = v)) k (i + 1)).1
    have e1 : cnV f v (k + 1) i = bI (decide (f i = v)) + cnV f v k (i + 1) := rfl
    rw [Nat.testBit_or, Nat.testBit_or, Nat.testBit_and, pw_bit, e1]
    by_cases he : f i = v
    · rw [decide_eq_true he, decide_eq_true (by omega), Bool.or_true, Bool.and_true]
      exact congrArg bI (onB_s _ _ h4)
    · rw [decide_eq_false he, decide_eq_false (by omega), Bool.or_false, Bool.and_false, Bool.or_false]
      rw [show bI false + cnV f v k (i + 1) = cnV f v k (i + 1) from Int.zero_add _]
theorem once_cnt {n : Int} {f : Int → Int} (h1 : 0 ≤ n) (h2 : n ≤ 9) (hf : ∀ j, 0 ≤ j → j < n → 0 ≤ f j ∧ f j < n) : onceK f n.toNat 0 0 0 = cnP (fun v => decide (cnV f v n.toNat 0 = 1)) n.toNat 0 := by
  rw [once_bits f n.toNat 0 0 0 (fun j g1 g2 => (hf j g1 (by omega)).1)]
  rw [show (9 : Nat) = n.toNat + (9 - n.toNat) by omega, cn_split]
  have hz : sumF (fun v => bI (onB (Nat.testBit 0 v.toNat) (Nat.testBit 0 v.toNat) (cnV f v n.toNat 0))) (9 - n.toNat) (0 + (n.toNat : Int)) = 0 := by
    refine cn_zero _ _ (fun v g1 g2 => ?_)
    have h0 : cnV f v n.toNat 0 = 0 := (cnP_zero _ _).mpr (fun j g3 g4 => decide_eq_false (by have := hf j g3 (by omega); omega))
    rw [h0, Nat.zero_testBit]
    rfl
  rw [hz, Int.add_zero]
  refine sum_congr _ _ (fun v g1 g2 => ?_)
  rw [Nat.zero_testBit]
  unfold onB
  simp
/-- no number comes twice -/
def distK (f : Int → Int) : Nat → Int → Nat → Bool
  | 0, _, _ => true
  | k + 1, i, s => if s.testBit (f i).toNat = true then false else distK f k (i + 1) (s ||| 2 ^ (f i).toNat)
theorem dist_end (f : Int → Int) (n : Int) (s : Nat) : distK f (n - n).toNat n s = true := by rw [nat_end]; rfl
theorem dist_step {f : Int → Int} {n i : Int} {s : Nat} (h : i < n) : distK f (n - i).toNat i s = if s.testBit (f i).toNat = true then false else distK f (n - (i + 1)).toNat (i + 1) (s ||| 2 ^ (f i).toNat) := by rw [nat_step h]; rfl
theorem dist_iff (f : Int → Int) : ∀ (k : Nat) (i : Int) (s : Nat), (∀ j, i ≤ j → j < i + k → 0 ≤ f j) → (distK f k i s = true ↔ (∀ j, i ≤ j → j < i + k → s.testBit (f j).toNat = false) ∧ ∀ j j', i ≤ j → j < j' → j' < i + k → f j ≠ f j')
  | 0, i, s, _ => ⟨fun _ => ⟨fun j h1 h2 => absurd h2 (by omega), fun j j' h1 h2 h3 => absurd h3 (by omega)⟩, fun _ => rfl⟩
  | k + 1, i, s, h => by
    unfold distK
    have h0 := h i (by omega) (by omega)
    have ih := dist_iff f k (i + 1) (s ||| 2 ^ (f i).toNat) (fun j h1 h2 => h j (by omega) (by omega))
    split
    next hb =>
      refine ⟨fun h9 => (by cases h9), fun h9 => ?_⟩
      have h8 := h9.1 i (by omega) (by omega)
      rw [hb] at h8; cases h8
    next hb =>
      rw [ih]
      refine ⟨fun ⟨h1, h2⟩ => ⟨fun j g1 g2 => ?_, fun j j' g1 g2 g3 => ?_⟩, fun ⟨h1, h2⟩ => ⟨fun j g1 g2 => ?_, fun j j' g1 g2 g3 => h2 j j' (by omega) g2 (by omega)⟩⟩
      · by_cases he : j = i
        · rw [he]; exact Bool.eq_false_iff.mpr hb
        · have h3 := h1 j (by omega) (by omega)
          rw [Nat.testBit_or] at h3
          exact (Bool.or_eq_false_iff.mp h3).1
      · by_cases he : j = i
        · rw [he]
          have h3 := h1 j' (by omega) (by omega)
          rw [Nat.testBit_or, pw_bit] at h3
          intro h4
          rw [h4] at h3
          have h5 := (Bool.or_eq_false_iff.mp h3).2
          exact absurd h5 (by simp)
        · exact h2 j j' (by omega) g2 (by omega)
      · rw [Nat.testBit_or, pw_bit, h1 j (by omega) (by omega), Bool.false_or]
        have h3 := h2 i j (by omega) (by omega) (by omega)
        have h4 := h j (by omega) (by omega)
        exact decide_eq_false (by omega)
theorem dist_once {n : Int} {f : Int → Int} (h1 : 0 ≤ n) (h2 : n ≤ 9) (hf : ∀ j, 0 ≤ j → j < n → 0 ≤ f j ∧ f j < n) : distK f n.toNat 0 0 = decide (onceK f n.toNat 0 0 0 = n) := by
  have hd := dist_iff f n.toNat 0 0 (fun j g1 g2 => (hf j g1 (by omega)).1)
  rw [once_cnt h1 h2 hf]
  cases hk : distK f n.toNat 0 0 with
  | true =>
    have h3 := (hd.mp hk).2
    symm
    refine decide_eq_true ?_
    have hle : ∀ v, cnV f v n.toNat 0 ≤ 1 := fun v => cnP_le1 _ _ (fun j j' g1 g2 g3 g4 => decide_eq_false (fun g5 => h3 j j' g1 g2 g3 ((of_decide_eq_true g4).trans g5.symm)))
    have e1 : cnP (fun v => decide (cnV f v n.toNat 0 = 1)) n.toNat 0 = sumF (fun v => sumF (fun m => bI (decide (f m = v))) n.toNat 0) n.toNat 0 := by
      refine sum_congr _ _ (fun v g1 g2 => ?_)
      have g3 := hle v
      have g4 := (cnP_in (fun m => decide (f m = v)) n.toNat 0).1
      show bI (decide (cnV f v n.toNat 0 = 1)) = cnV f v n.toNat 0
      have g5 : 0 ≤ cnV f v n.toNat 0 := g4
      rcases (show cnV f v n.toNat 0 = 0 ∨ cnV f v n.toNat 0 = 1 by omega) with h | h <;> rw [h] <;> rfl
    rw [e1, cn_swap (fun v m => bI (decide (f m = v)))]
    rw [cn_const (c := 1) n.toNat 0 (fun m g1 g2 => ?_)]
    · omega
    · have g3 := hf m g1 (by omega)
      exact (cnP_one (p := fun v => decide (f m = v)) n.toNat 0).mpr ⟨f m, ⟨g3.1, by omega, decide_eq_true rfl⟩, fun j' _ _ g6 => (of_decide_eq_true g6).symm⟩
  | false =>
    symm
    refine decide_eq_false (fun h9 => ?_)
    have h10 := (cnP_all (p := fun v => decide (cnV f v n.toNat 0 = 1)) n.toNat 0).mp (by rw [h9]; omega)
    have h11 : distK f n.toNat 0 0 = true := hd.mpr ⟨fun j _ _ => Nat.zero_testBit _, fun j j' g1 g2 g3 g4 => by
      have g5 := hf j g1 (by omega)
      have g6 := of_decide_eq_true (h10 (f j) g5.1 (by omega))
      have g7 := cnP_ge2 (p := fun m => decide (f m = f j)) (j0 := j) (j1 := j') n.toNat 0 g1 g2 g3 (decide_eq_true rfl) (decide_eq_true g4.symm)
      have g8 : cnV f (f j) n.toNat 0 = cnP (fun m => decide (f m = f j)) n.toNat 0 := rfl
      omega⟩
    rw [h11] at hk
    cases hk
end
