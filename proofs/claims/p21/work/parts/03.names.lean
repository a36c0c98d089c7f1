/-! ===== BEGIN printed: names, fields, word lists, decode rows ===== -/
def RX0 : String := "RadixHearth$Embers"
def TX0 : u_T := fun k => match k with
  | 0 => ("RadixHearth$Embers", "heats", "[I", true)
  | 1 => ("RadixHearth$Embers", "homes", "[I", true)
  | 2 => ("RadixHearth$Embers", "moved", "[I", true)
  | 3 => ("RadixHearth$Embers", "raked", "[Z", true)
  | _ => ("RadixHearth$Embers", "lit", "I", false)
def tyX0 : Nat → FieldType := fun k => match k with
  | 0 => .array .int
  | 1 => .array .int
  | 2 => .array .int
  | 3 => .array .boolean
  | _ => .int
abbrev wsX00 : List Cond := u_ws RX0 TX0 5
theorem nmX0 : ∀ a, a < 5 → ∀ b, b < 5 → a ≠ b → (TX0 a).2.1 ≠ (TX0 b).2.1 := by decide +kernel
theorem tyX0_ok : ∀ k, k < 5 → parseFieldDescriptor (TX0 k).2.2.1 = some (tyX0 k) := by decide +kernel
abbrev cX0_init : ByteArray := prog_2_method_1_code
def yX0_init : MethodName := ⟨RX0, "<init>", "()V"⟩
abbrev cX0_lit : ByteArray := prog_2_method_2_code
def yX0_lit : MethodName := ⟨RX0, "lit", "()I"⟩
abbrev cX0_has : ByteArray := prog_2_method_3_code
def yX0_has : MethodName := ⟨RX0, "has", "(I)Z"⟩
abbrev cX0_add : ByteArray := prog_2_method_4_code
def yX0_add : MethodName := ⟨RX0, "add", "(II)I"⟩
abbrev cX0_heatOf : ByteArray := prog_2_method_5_code
def yX0_heatOf : MethodName := ⟨RX0, "heatOf", "(I)I"⟩
abbrev cX0_setHeat : ByteArray := prog_2_method_6_code
def yX0_setHeat : MethodName := ⟨RX0, "setHeat", "(II)V"⟩
abbrev cX0_homeOf : ByteArray := prog_2_method_7_code
def yX0_homeOf : MethodName := ⟨RX0, "homeOf", "(I)I"⟩
abbrev cX0_setHome : ByteArray := prog_2_method_8_code
def yX0_setHome : MethodName := ⟨RX0, "setHome", "(II)V"⟩
abbrev cX0_goOut : ByteArray := prog_2_method_9_code
def yX0_goOut : MethodName := ⟨RX0, "goOut", "(IZ)V"⟩
abbrev cX0_isRaked : ByteArray := prog_2_method_10_code
def yX0_isRaked : MethodName := ⟨RX0, "isRaked", "(I)Z"⟩
abbrev cX0_movedOf : ByteArray := prog_2_method_11_code
def yX0_movedOf : MethodName := ⟨RX0, "movedOf", "(I)I"⟩
abbrev cX0_noteMove : ByteArray := prog_2_method_12_code
def yX0_noteMove : MethodName := ⟨RX0, "noteMove", "(I)V"⟩
def RX1 : String := "RadixHearth$Hearth"
def TX1 : u_T := fun k => match k with
  | 0 => ("RadixHearth$Hearth", "embers", "LRadixHearth$Embers;", true)
  | 1 => ("RadixHearth$Hearth", "noting", "Z", true)
  | 2 => ("RadixHearth$Hearth", "row", "LRadixHearth$Row;", true)
  | 3 => ("RadixHearth$Hearth", "taken", "LRadixHearth$Row;", true)
  | 4 => ("RadixHearth$Hearth", "sizes", "[I", true)
  | 5 => ("RadixHearth$Hearth", "low", "I", false)
  | 6 => ("RadixHearth$Hearth", "movesMade", "I", false)
  | _ => ("RadixHearth$Hearth", "rakes", "I", false)
def tyX1 : Nat → FieldType := fun k => match k with
  | 0 => .object "RadixHearth$Embers"
  | 1 => .boolean
  | 2 => .object "RadixHearth$Row"
  | 3 => .object "RadixHearth$Row"
  | 4 => .array .int
  | 5 => .int
  | 6 => .int
  | _ => .int
abbrev wsX10 : List Cond := u_ws RX1 TX1 8
theorem nmX1 : ∀ a, a < 8 → ∀ b, b < 8 → a ≠ b → (TX1 a).2.1 ≠ (TX1 b).2.1 := by decide +kernel
theorem tyX1_ok : ∀ k, k < 8 → parseFieldDescriptor (TX1 k).2.2.1 = some (tyX1 k) := by decide +kernel
abbrev cX1_init : ByteArray := prog_3_method_1_code
def yX1_init : MethodName := ⟨RX1, "<init>", "(LRadixHearth$Embers;Z)V"⟩
abbrev cX1_size : ByteArray := prog_3_method_2_code
def yX1_size : MethodName := ⟨RX1, "size", "()I"⟩
abbrev cX1_low : ByteArray := prog_3_method_3_code
def yX1_low : MethodName := ⟨RX1, "low", "()I"⟩
abbrev cX1_movesMade : ByteArray := prog_3_method_4_code
def yX1_movesMade : MethodName := ⟨RX1, "movesMade", "()I"⟩
abbrev cX1_rakes : ByteArray := prog_3_method_5_code
def yX1_rakes : MethodName := ⟨RX1, "rakes", "()I"⟩
abbrev cX1_takesHeat : ByteArray := prog_3_method_6_code
def yX1_takesHeat : MethodName := ⟨RX1, "takesHeat", "(I)Z"⟩
abbrev cX1_bucketFor : ByteArray := prog_3_method_7_code
def yX1_bucketFor : MethodName := ⟨RX1, "bucketFor", "(I)I"⟩
abbrev cX1_sizeOf : ByteArray := prog_3_method_8_code
def yX1_sizeOf : MethodName := ⟨RX1, "sizeOf", "(I)I"⟩
abbrev cX1_emberAt : ByteArray := prog_3_method_9_code
def yX1_emberAt : MethodName := ⟨RX1, "emberAt", "(II)I"⟩
abbrev cX1_firstBucket : ByteArray := prog_3_method_10_code
def yX1_firstBucket : MethodName := ⟨RX1, "firstBucket", "()I"⟩
abbrev cX1_lastBucket : ByteArray := prog_3_method_11_code
def yX1_lastBucket : MethodName := ⟨RX1, "lastBucket", "()I"⟩
abbrev cX1_leastHeat : ByteArray := prog_3_method_12_code
def yX1_leastHeat : MethodName := ⟨RX1, "leastHeat", "()I"⟩
abbrev cX1_mostHeat : ByteArray := prog_3_method_13_code
def yX1_mostHeat : MethodName := ⟨RX1, "mostHeat", "()I"⟩
abbrev cX1_heatInAll : ByteArray := prog_3_method_14_code
def yX1_heatInAll : MethodName := ⟨RX1, "heatInAll", "()I"⟩
abbrev cX1_put : ByteArray := prog_3_method_15_code
def yX1_put : MethodName := ⟨RX1, "put", "(I)V"⟩
abbrev cX1_takeOut : ByteArray := prog_3_method_16_code
def yX1_takeOut : MethodName := ⟨RX1, "takeOut", "(I)V"⟩
abbrev cX1_moveIn : ByteArray := prog_3_method_17_code
def yX1_moveIn : MethodName := ⟨RX1, "moveIn", "(LRadixHearth$Row;)I"⟩
abbrev cX1_rakeOnce : ByteArray := prog_3_method_18_code
def yX1_rakeOnce : MethodName := ⟨RX1, "rakeOnce", "()I"⟩
abbrev cX1_rakeOften : ByteArray := prog_3_method_19_code
def yX1_rakeOften : MethodName := ⟨RX1, "rakeOften", "(I)V"⟩
abbrev cX1_riseTo : ByteArray := prog_3_method_20_code
def yX1_riseTo : MethodName := ⟨RX1, "riseTo", "(I)I"⟩
abbrev cX1_pourOut : ByteArray := prog_3_method_21_code
def yX1_pourOut : MethodName := ⟨RX1, "pourOut", "()LRadixHearth$Row;"⟩
abbrev cX1_becomeLike : ByteArray := prog_3_method_22_code
def yX1_becomeLike : MethodName := ⟨RX1, "becomeLike", "(LRadixHearth$Hearth;)V"⟩
abbrev cX1_takeBucketsTo : ByteArray := prog_3_method_23_code
def yX1_takeBucketsTo : MethodName := ⟨RX1, "takeBucketsTo", "(I)V"⟩
abbrev cX1_startOf : ByteArray := prog_3_method_24_code
def yX1_startOf : MethodName := ⟨RX1, "startOf", "(I)I"⟩
abbrev cX1_resize : ByteArray := prog_3_method_25_code
def yX1_resize : MethodName := ⟨RX1, "resize", "(II)V"⟩
def RX2 : String := "RadixHearth$Row"
def TX2 : u_T := fun k => match k with
  | 0 => ("RadixHearth$Row", "numbers", "[I", true)
  | _ => ("RadixHearth$Row", "size", "I", false)
def tyX2 : Nat → FieldType := fun k => match k with
  | 0 => .array .int
  | _ => .int
abbrev wsX20 : List Cond := u_ws RX2 TX2 2
theorem nmX2 : ∀ a, a < 2 → ∀ b, b < 2 → a ≠ b → (TX2 a).2.1 ≠ (TX2 b).2.1 := by decide +kernel
theorem tyX2_ok : ∀ k, k < 2 → parseFieldDescriptor (TX2 k).2.2.1 = some (tyX2 k) := by decide +kernel
abbrev cX2_init : ByteArray := prog_4_method_1_code
def yX2_init : MethodName := ⟨RX2, "<init>", "()V"⟩
abbrev cX2_size : ByteArray := prog_4_method_2_code
def yX2_size : MethodName := ⟨RX2, "size", "()I"⟩
abbrev cX2_at : ByteArray := prog_4_method_3_code
def yX2_at : MethodName := ⟨RX2, "at", "(I)I"⟩
abbrev cX2_placeOf : ByteArray := prog_4_method_4_code
def yX2_placeOf : MethodName := ⟨RX2, "placeOf", "(I)I"⟩
abbrev cX2_insert : ByteArray := prog_4_method_5_code
def yX2_insert : MethodName := ⟨RX2, "insert", "(II)V"⟩
abbrev cX2_removeAt : ByteArray := prog_4_method_6_code
def yX2_removeAt : MethodName := ⟨RX2, "removeAt", "(I)V"⟩
abbrev cX2_becomeLike : ByteArray := prog_4_method_7_code
def yX2_becomeLike : MethodName := ⟨RX2, "becomeLike", "(LRadixHearth$Row;)V"⟩
abbrev cX2_becomeFirstOf : ByteArray := prog_4_method_8_code
def yX2_becomeFirstOf : MethodName := ⟨RX2, "becomeFirstOf", "(LRadixHearth$Row;I)V"⟩
def RX3 : String := "RadixHearth"
def TX3 : u_T := fun k => match k with
  | 0 => ("RadixHearth", "embers", "LRadixHearth$Embers;", true)
  | 1 => ("RadixHearth", "zero", "LRadixHearth$Hearth;", true)
  | 2 => ("RadixHearth", "one", "LRadixHearth$Hearth;", true)
  | 3 => ("RadixHearth", "trial", "LRadixHearth$Hearth;", true)
  | _ => ("RadixHearth", "quenched", "I", false)
def tyX3 : Nat → FieldType := fun k => match k with
  | 0 => .object "RadixHearth$Embers"
  | 1 => .object "RadixHearth$Hearth"
  | 2 => .object "RadixHearth$Hearth"
  | 3 => .object "RadixHearth$Hearth"
  | _ => .int
abbrev wsX30 : List Cond := u_ws RX3 TX3 5
theorem nmX3 : ∀ a, a < 5 → ∀ b, b < 5 → a ≠ b → (TX3 a).2.1 ≠ (TX3 b).2.1 := by decide +kernel
theorem tyX3_ok : ∀ k, k < 5 → parseFieldDescriptor (TX3 k).2.2.1 = some (tyX3 k) := by decide +kernel
abbrev cX3_init : ByteArray := prog_1_method_1_code
def yX3_init : MethodName := ⟨RX3, "<init>", "()V"⟩
abbrev cX3_light : ByteArray := prog_1_method_2_code
def yX3_light : MethodName := ⟨RX3, "light", "(II)I"⟩
abbrev cX3_fade : ByteArray := prog_1_method_3_code
def yX3_fade : MethodName := ⟨RX3, "fade", "(II)I"⟩
abbrev cX3_quench : ByteArray := prog_1_method_4_code
def yX3_quench : MethodName := ⟨RX3, "quench", "(I)I"⟩
abbrev cX3_rake : ByteArray := prog_1_method_5_code
def yX3_rake : MethodName := ⟨RX3, "rake", "(I)I"⟩
abbrev cX3_raise : ByteArray := prog_1_method_6_code
def yX3_raise : MethodName := ⟨RX3, "raise", "(II)I"⟩
abbrev cX3_pour : ByteArray := prog_1_method_7_code
def yX3_pour : MethodName := ⟨RX3, "pour", "(I)I"⟩
abbrev cX3_many : ByteArray := prog_1_method_8_code
def yX3_many : MethodName := ⟨RX3, "many", "(II)I"⟩
abbrev cX3_lies : ByteArray := prog_1_method_9_code
def yX3_lies : MethodName := ⟨RX3, "lies", "(III)I"⟩
abbrev cX3_bucketOf : ByteArray := prog_1_method_10_code
def yX3_bucketOf : MethodName := ⟨RX3, "bucketOf", "(II)I"⟩
abbrev cX3_about : ByteArray := prog_1_method_11_code
def yX3_about : MethodName := ⟨RX3, "about", "(II)I"⟩
abbrev cX3_told : ByteArray := prog_1_method_12_code
def yX3_told : MethodName := ⟨RX3, "told", "(II)I"⟩
abbrev cX3_count : ByteArray := prog_1_method_13_code
def yX3_count : MethodName := ⟨RX3, "count", "(I)I"⟩
abbrev cX3_next : ByteArray := prog_1_method_14_code
def yX3_next : MethodName := ⟨RX3, "next", "(II)I"⟩
abbrev cX3_moves : ByteArray := prog_1_method_15_code
def yX3_moves : MethodName := ⟨RX3, "moves", "(II)I"⟩
abbrev cX3_highest : ByteArray := prog_1_method_16_code
def yX3_highest : MethodName := ⟨RX3, "highest", "(I)I"⟩
abbrev cX3_advise : ByteArray := prog_1_method_17_code
def yX3_advise : MethodName := ⟨RX3, "advise", "(I)I"⟩
abbrev cX3_mean : ByteArray := prog_1_method_18_code
def yX3_mean : MethodName := ⟨RX3, "mean", "()D"⟩
abbrev cX3_digest : ByteArray := prog_1_method_19_code
def yX3_digest : MethodName := ⟨RX3, "digest", "()J"⟩
abbrev cX3_joinedHearth : ByteArray := prog_1_method_20_code
def yX3_joinedHearth : MethodName := ⟨RX3, "joinedHearth", "(JI)J"⟩
abbrev cX3_joined : ByteArray := prog_1_method_21_code
def yX3_joined : MethodName := ⟨RX3, "joined", "(JI)J"⟩
abbrev cX3_bucketWith : ByteArray := prog_1_method_22_code
def yX3_bucketWith : MethodName := ⟨RX3, "bucketWith", "(I)I"⟩
abbrev cX3_hearthOf : ByteArray := prog_1_method_23_code
def yX3_hearthOf : MethodName := ⟨RX3, "hearthOf", "(I)LRadixHearth$Hearth;"⟩
abbrev cX3_homeOfBurning : ByteArray := prog_1_method_24_code
def yX3_homeOfBurning : MethodName := ⟨RX3, "homeOfBurning", "(I)LRadixHearth$Hearth;"⟩
abbrev cX3_refuseUnlit : ByteArray := prog_1_method_25_code
def yX3_refuseUnlit : MethodName := ⟨RX3, "refuseUnlit", "(I)V"⟩
abbrev cX3_refuseBucket : ByteArray := prog_1_method_26_code
def yX3_refuseBucket : MethodName := ⟨RX3, "refuseBucket", "(I)V"⟩
def RX4 : String := "RadixHearthLaw$Sim"
def TX4 : u_T := fun k => match k with
  | 0 => ("RadixHearthLaw$Sim", "low", "[I", false)
  | 1 => ("RadixHearthLaw$Sim", "rakes", "[I", false)
  | 2 => ("RadixHearthLaw$Sim", "hearths", "[[[I", false)
  | 3 => ("RadixHearthLaw$Sim", "embers", "[[I", false)
  | 4 => ("RadixHearthLaw$Sim", "moves", "I", false)
  | _ => ("RadixHearthLaw$Sim", "quenched", "I", false)
def tyX4 : Nat → FieldType := fun k => match k with
  | 0 => .array .int
  | 1 => .array .int
  | 2 => .array (.array (.array .int))
  | 3 => .array (.array .int)
  | 4 => .int
  | _ => .int
abbrev wsX40 : List Cond := u_ws RX4 TX4 6
theorem nmX4 : ∀ a, a < 6 → ∀ b, b < 6 → a ≠ b → (TX4 a).2.1 ≠ (TX4 b).2.1 := by decide +kernel
theorem tyX4_ok : ∀ k, k < 6 → parseFieldDescriptor (TX4 k).2.2.1 = some (tyX4 k) := by decide +kernel
abbrev cX4_init : ByteArray := prog_6_method_1_code
def yX4_init : MethodName := ⟨RX4, "<init>", "()V"⟩
abbrev cX4_with : ByteArray := prog_6_method_2_code
def yX4_with : MethodName := ⟨RX4, "with", "([II)[I"⟩
abbrev cX4_without : ByteArray := prog_6_method_3_code
def yX4_without : MethodName := ⟨RX4, "without", "([II)[I"⟩
abbrev cX4_bucket : ByteArray := prog_6_method_5_code
def yX4_bucket : MethodName := ⟨RX4, "bucket", "(II)I"⟩
abbrev cX4_put : ByteArray := prog_6_method_6_code
def yX4_put : MethodName := ⟨RX4, "put", "(II)V"⟩
abbrev cX4_move : ByteArray := prog_6_method_7_code
def yX4_move : MethodName := ⟨RX4, "move", "(I[I)V"⟩
abbrev cX4_light : ByteArray := prog_6_method_8_code
def yX4_light : MethodName := ⟨RX4, "light", "(II)I"⟩
abbrev cX4_where : ByteArray := prog_6_method_9_code
def yX4_where : MethodName := ⟨RX4, "where", "(I)[I"⟩
abbrev cX4_takeOut : ByteArray := prog_6_method_10_code
def yX4_takeOut : MethodName := ⟨RX4, "takeOut", "(I)V"⟩
abbrev cX4_all : ByteArray := prog_6_method_11_code
def yX4_all : MethodName := ⟨RX4, "all", "(I)[I"⟩
abbrev cX4_least : ByteArray := prog_6_method_12_code
def yX4_least : MethodName := ⟨RX4, "least", "(I)I"⟩
abbrev cX4_rake : ByteArray := prog_6_method_13_code
def yX4_rake : MethodName := ⟨RX4, "rake", "(I)I"⟩
abbrev cX4_raise : ByteArray := prog_6_method_14_code
def yX4_raise : MethodName := ⟨RX4, "raise", "(II)I"⟩
abbrev cX4_pour : ByteArray := prog_6_method_15_code
def yX4_pour : MethodName := ⟨RX4, "pour", "(I)I"⟩
abbrev cX4_isSame : ByteArray := prog_6_method_16_code
def yX4_isSame : MethodName := ⟨RX4, "isSame", "(LRadixHearth;)Z"⟩
def RX5 : String := "RadixHearthModel$State"
def TX5 : u_T := fun k => match k with
  | _ => ("", "", "", false)
def tyX5 : Nat → FieldType := fun k => match k with
  | _ => .int
abbrev wsX50 : List Cond := u_ws RX5 TX5 0
theorem nmX5 : ∀ a, a < 0 → ∀ b, b < 0 → a ≠ b → (TX5 a).2.1 ≠ (TX5 b).2.1 := by decide +kernel
theorem tyX5_ok : ∀ k, k < 0 → parseFieldDescriptor (TX5 k).2.2.1 = some (tyX5 k) := by decide +kernel
def RX6 : String := "RadixHearthModel"
def TX6 : u_T := fun k => match k with
  | _ => ("", "", "", false)
def tyX6 : Nat → FieldType := fun k => match k with
  | _ => .int
abbrev wsX60 : List Cond := u_ws RX6 TX6 0
theorem nmX6 : ∀ a, a < 0 → ∀ b, b < 0 → a ≠ b → (TX6 a).2.1 ≠ (TX6 b).2.1 := by decide +kernel
theorem tyX6_ok : ∀ k, k < 0 → parseFieldDescriptor (TX6 k).2.2.1 = some (tyX6 k) := by decide +kernel
def RJ9 : String := "java/lang/Math"
def TJ9 : u_T := fun k => match k with
  | _ => ("", "", "", false)
def tyJ9 : Nat → FieldType := fun k => match k with
  | _ => .int
abbrev wsJ90 : List Cond := u_ws RJ9 TJ9 0
theorem nmJ9 : ∀ a, a < 0 → ∀ b, b < 0 → a ≠ b → (TJ9 a).2.1 ≠ (TJ9 b).2.1 := by decide +kernel
theorem tyJ9_ok : ∀ k, k < 0 → parseFieldDescriptor (TJ9 k).2.2.1 = some (tyJ9 k) := by decide +kernel
abbrev cJ9_max_7cf53 : ByteArray := prog_13_method_65_code
def yJ9_max_7cf53 : MethodName := ⟨RJ9, "max", "(II)I"⟩
abbrev cJ9_min_7cf53 : ByteArray := prog_13_method_69_code
def yJ9_min_7cf53 : MethodName := ⟨RJ9, "min", "(II)I"⟩
def RJ0 : String := "java/lang/String"
def TJ0 : u_T := fun k => match k with
  | _ => ("", "", "", false)
def tyJ0 : Nat → FieldType := fun k => match k with
  | _ => .int
abbrev wsJ00 : List Cond := u_ws RJ0 TJ0 0
theorem nmJ0 : ∀ a, a < 0 → ∀ b, b < 0 → a ≠ b → (TJ0 a).2.1 ≠ (TJ0 b).2.1 := by decide +kernel
theorem tyJ0_ok : ∀ k, k < 0 → parseFieldDescriptor (TJ0 k).2.2.1 = some (tyJ0 k) := by decide +kernel
def RJ10 : String := "java/lang/System"
def TJ10 : u_T := fun k => match k with
  | _ => ("", "", "", false)
def tyJ10 : Nat → FieldType := fun k => match k with
  | _ => .int
abbrev wsJ100 : List Cond := u_ws RJ10 TJ10 0
theorem nmJ10 : ∀ a, a < 0 → ∀ b, b < 0 → a ≠ b → (TJ10 a).2.1 ≠ (TJ10 b).2.1 := by decide +kernel
theorem tyJ10_ok : ∀ k, k < 0 → parseFieldDescriptor (TJ10 k).2.2.1 = some (tyJ10 k) := by decide +kernel
def RL : String := "RadixHearthLaw"
abbrev cL_below : ByteArray := method_2_code
def yL_below : MethodName := ⟨RL, "below", "(II)I"⟩
abbrev cL_cell : ByteArray := method_3_code
def yL_cell : MethodName := ⟨RL, "cell", "([II)I"⟩
abbrev cL_heatOf : ByteArray := method_4_code
def yL_heatOf : MethodName := ⟨RL, "heatOf", "(II)I"⟩
abbrev cL_act : ByteArray := method_5_code
def yL_act : MethodName := ⟨RL, "act", "(LRadixHearth;LRadixHearthLaw$Sim;I)Z"⟩
abbrev cL_build : ByteArray := method_6_code
def yL_build : MethodName := ⟨RL, "build", "(LRadixHearth;[I)LRadixHearthLaw$Sim;"⟩
abbrev cL_law : ByteArray := code
def yL_law : MethodName := ⟨RL, "law", "([I)Z"⟩
abbrev vwCl : List vw_C := [(RX0, TX0, 5), (RX1, TX1, 8), (RX2, TX2, 2), (RX3, TX3, 5), (RX4, TX4, 6)]
