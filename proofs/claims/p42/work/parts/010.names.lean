def RX0 : String := "PinnedLeaves$Children"
def TX0 : u_T := fun k => match k with
  | 0 => ("PinnedLeaves$Children", "here", "LPinnedLeaves$Row;", true)
  | 1 => ("PinnedLeaves$Children", "cameInAt", "LPinnedLeaves$Row;", true)
  | 2 => ("PinnedLeaves$Children", "tookOff", "LPinnedLeaves$Row;", true)
  | 3 => ("PinnedLeaves$Children", "burnt", "LPinnedLeaves$Row;", true)
  | 4 => ("PinnedLeaves$Children", "rakings", "LPinnedLeaves$Row;", true)
  | 5 => ("PinnedLeaves$Children", "heapSize", "LPinnedLeaves$Row;", true)
  | _ => ("PinnedLeaves$Children", "heaps", "LPinnedLeaves$Row;", true)
def tyX0 : Nat → FieldType := fun k => match k with
  | 0 => .object "PinnedLeaves$Row"
  | 1 => .object "PinnedLeaves$Row"
  | 2 => .object "PinnedLeaves$Row"
  | 3 => .object "PinnedLeaves$Row"
  | 4 => .object "PinnedLeaves$Row"
  | 5 => .object "PinnedLeaves$Row"
  | _ => .object "PinnedLeaves$Row"
abbrev wsX00 : List Cond := u_ws RX0 TX0 7
theorem nmX0 : ∀ a, a < 7 → ∀ b, b < 7 → a ≠ b → (TX0 a).2.1 ≠ (TX0 b).2.1 := by decide +kernel
theorem tyX0_ok : ∀ k, k < 7 → parseFieldDescriptor (TX0 k).2.2.1 = some (tyX0 k) := by decide +kernel
abbrev cX0_init : ByteArray := prog_2_method_1_code
def yX0_init : MethodName := ⟨RX0, "<init>", "()V"⟩
abbrev cX0_isHere : ByteArray := prog_2_method_2_code
def yX0_isHere : MethodName := ⟨RX0, "isHere", "(I)Z"⟩
abbrev cX0_isInYard : ByteArray := prog_2_method_3_code
def yX0_isInYard : MethodName := ⟨RX0, "isInYard", "(I)Z"⟩
abbrev cX0_number : ByteArray := prog_2_method_4_code
def yX0_number : MethodName := ⟨RX0, "number", "()I"⟩
abbrev cX0_numberInYard : ByteArray := prog_2_method_5_code
def yX0_numberInYard : MethodName := ⟨RX0, "numberInYard", "()I"⟩
abbrev cX0_mask : ByteArray := prog_2_method_6_code
def yX0_mask : MethodName := ⟨RX0, "mask", "()I"⟩
abbrev cX0_maskOfLate : ByteArray := prog_2_method_7_code
def yX0_maskOfLate : MethodName := ⟨RX0, "maskOfLate", "(I)I"⟩
abbrev cX0_lowestFree : ByteArray := prog_2_method_8_code
def yX0_lowestFree : MethodName := ⟨RX0, "lowestFree", "()I"⟩
abbrev cX0_lowestBesides : ByteArray := prog_2_method_9_code
def yX0_lowestBesides : MethodName := ⟨RX0, "lowestBesides", "(I)I"⟩
abbrev cX0_fillPlace : ByteArray := prog_2_method_10_code
def yX0_fillPlace : MethodName := ⟨RX0, "fillPlace", "(I)V"⟩
abbrev cX0_emptyPlace : ByteArray := prog_2_method_11_code
def yX0_emptyPlace : MethodName := ⟨RX0, "emptyPlace", "(I)V"⟩
abbrev cX0_leafOnHeap : ByteArray := prog_2_method_12_code
def yX0_leafOnHeap : MethodName := ⟨RX0, "leafOnHeap", "(II)I"⟩
abbrev cX0_putOnHeap : ByteArray := prog_2_method_13_code
def yX0_putOnHeap : MethodName := ⟨RX0, "putOnHeap", "(II)V"⟩
abbrev cX0_copyFrom : ByteArray := prog_2_method_14_code
def yX0_copyFrom : MethodName := ⟨RX0, "copyFrom", "(LPinnedLeaves$Children;)V"⟩
def RX1 : String := "PinnedLeaves$Hooks"
def TX1 : u_T := fun k => match k with
  | 0 => ("PinnedLeaves$Hooks", "pinned", "LPinnedLeaves$Row;", true)
  | 1 => ("PinnedLeaves$Hooks", "noted", "LPinnedLeaves$Row;", true)
  | _ => ("PinnedLeaves$Hooks", "branches", "LPinnedLeaves$Row;", true)
def tyX1 : Nat → FieldType := fun k => match k with
  | 0 => .object "PinnedLeaves$Row"
  | 1 => .object "PinnedLeaves$Row"
  | _ => .object "PinnedLeaves$Row"
abbrev wsX10 : List Cond := u_ws RX1 TX1 3
theorem nmX1 : ∀ a, a < 3 → ∀ b, b < 3 → a ≠ b → (TX1 a).2.1 ≠ (TX1 b).2.1 := by decide +kernel
theorem tyX1_ok : ∀ k, k < 3 → parseFieldDescriptor (TX1 k).2.2.1 = some (tyX1 k) := by decide +kernel
abbrev cX1_init : ByteArray := prog_3_method_1_code
def yX1_init : MethodName := ⟨RX1, "<init>", "()V"⟩
abbrev cX1_firstOf : ByteArray := prog_3_method_2_code
def yX1_firstOf : MethodName := ⟨RX1, "firstOf", "(I)I"⟩
abbrev cX1_kindOf : ByteArray := prog_3_method_3_code
def yX1_kindOf : MethodName := ⟨RX1, "kindOf", "(II)I"⟩
abbrev cX1_leafOf : ByteArray := prog_3_method_4_code
def yX1_leafOf : MethodName := ⟨RX1, "leafOf", "(II)I"⟩
abbrev cX1_branchOf : ByteArray := prog_3_method_5_code
def yX1_branchOf : MethodName := ⟨RX1, "branchOf", "(II)I"⟩
abbrev cX1_write : ByteArray := prog_3_method_6_code
def yX1_write : MethodName := ⟨RX1, "write", "(IIII)V"⟩
abbrev cX1_fasten : ByteArray := prog_3_method_7_code
def yX1_fasten : MethodName := ⟨RX1, "fasten", "(II)V"⟩
abbrev cX1_release : ByteArray := prog_3_method_8_code
def yX1_release : MethodName := ⟨RX1, "release", "(II)V"⟩
abbrev cX1_releaseAll : ByteArray := prog_3_method_9_code
def yX1_releaseAll : MethodName := ⟨RX1, "releaseAll", "(I)V"⟩
abbrev cX1_pins : ByteArray := prog_3_method_10_code
def yX1_pins : MethodName := ⟨RX1, "pins", "()I"⟩
abbrev cX1_notes : ByteArray := prog_3_method_11_code
def yX1_notes : MethodName := ⟨RX1, "notes", "()I"⟩
abbrev cX1_pinsOfChild : ByteArray := prog_3_method_12_code
def yX1_pinsOfChild : MethodName := ⟨RX1, "pinsOfChild", "(I)I"⟩
abbrev cX1_notesOfChild : ByteArray := prog_3_method_13_code
def yX1_notesOfChild : MethodName := ⟨RX1, "notesOfChild", "(I)I"⟩
abbrev cX1_pinsOn : ByteArray := prog_3_method_14_code
def yX1_pinsOn : MethodName := ⟨RX1, "pinsOn", "(I)I"⟩
abbrev cX1_notesOn : ByteArray := prog_3_method_15_code
def yX1_notesOn : MethodName := ⟨RX1, "notesOn", "(I)I"⟩
abbrev cX1_pinsOnBy : ByteArray := prog_3_method_16_code
def yX1_pinsOnBy : MethodName := ⟨RX1, "pinsOnBy", "(II)I"⟩
abbrev cX1_maskOfHolders : ByteArray := prog_3_method_17_code
def yX1_maskOfHolders : MethodName := ⟨RX1, "maskOfHolders", "(I)I"⟩
abbrev cX1_numberOfHook : ByteArray := prog_3_method_18_code
def yX1_numberOfHook : MethodName := ⟨RX1, "numberOfHook", "(III)I"⟩
abbrev cX1_copyFrom : ByteArray := prog_3_method_19_code
def yX1_copyFrom : MethodName := ⟨RX1, "copyFrom", "(LPinnedLeaves$Hooks;)V"⟩
def RX2 : String := "PinnedLeaves$Leaves"
def TX2 : u_T := fun k => match k with
  | 0 => ("PinnedLeaves$Leaves", "grown", "I", false)
  | 1 => ("PinnedLeaves$Leaves", "onBranch", "LPinnedLeaves$Row;", true)
  | 2 => ("PinnedLeaves$Leaves", "colours", "LPinnedLeaves$Row;", true)
  | 3 => ("PinnedLeaves$Leaves", "where", "LPinnedLeaves$Row;", true)
  | 4 => ("PinnedLeaves$Leaves", "lastBranch", "LPinnedLeaves$Row;", true)
  | 5 => ("PinnedLeaves$Leaves", "asideSince", "LPinnedLeaves$Row;", true)
  | _ => ("PinnedLeaves$Leaves", "heapOf", "LPinnedLeaves$Row;", true)
def tyX2 : Nat → FieldType := fun k => match k with
  | 0 => .int
  | 1 => .object "PinnedLeaves$Row"
  | 2 => .object "PinnedLeaves$Row"
  | 3 => .object "PinnedLeaves$Row"
  | 4 => .object "PinnedLeaves$Row"
  | 5 => .object "PinnedLeaves$Row"
  | _ => .object "PinnedLeaves$Row"
abbrev wsX20 : List Cond := u_ws RX2 TX2 7
theorem nmX2 : ∀ a, a < 7 → ∀ b, b < 7 → a ≠ b → (TX2 a).2.1 ≠ (TX2 b).2.1 := by decide +kernel
theorem tyX2_ok : ∀ k, k < 7 → parseFieldDescriptor (TX2 k).2.2.1 = some (tyX2 k) := by decide +kernel
abbrev cX2_init : ByteArray := prog_4_method_1_code
def yX2_init : MethodName := ⟨RX2, "<init>", "()V"⟩
abbrev cX2_sprout : ByteArray := prog_4_method_2_code
def yX2_sprout : MethodName := ⟨RX2, "sprout", "(II)I"⟩
abbrev cX2_putAside : ByteArray := prog_4_method_3_code
def yX2_putAside : MethodName := ⟨RX2, "putAside", "(III)V"⟩
abbrev cX2_burn : ByteArray := prog_4_method_4_code
def yX2_burn : MethodName := ⟨RX2, "burn", "(I)V"⟩
abbrev cX2_numberWhere : ByteArray := prog_4_method_5_code
def yX2_numberWhere : MethodName := ⟨RX2, "numberWhere", "(I)I"⟩
abbrev cX2_copyFrom : ByteArray := prog_4_method_6_code
def yX2_copyFrom : MethodName := ⟨RX2, "copyFrom", "(LPinnedLeaves$Leaves;)V"⟩
def RX3 : String := "PinnedLeaves$OrderText"
def TX3 : u_T := fun k => match k with
  | 0 => ("PinnedLeaves$OrderText", "signs", "LPinnedLeaves$Row;", true)
  | _ => ("PinnedLeaves$OrderText", "length", "I", false)
def tyX3 : Nat → FieldType := fun k => match k with
  | 0 => .object "PinnedLeaves$Row"
  | _ => .int
abbrev wsX30 : List Cond := u_ws RX3 TX3 2
theorem nmX3 : ∀ a, a < 2 → ∀ b, b < 2 → a ≠ b → (TX3 a).2.1 ≠ (TX3 b).2.1 := by decide +kernel
theorem tyX3_ok : ∀ k, k < 2 → parseFieldDescriptor (TX3 k).2.2.1 = some (tyX3 k) := by decide +kernel
abbrev cX3_init : ByteArray := prog_5_method_1_code
def yX3_init : MethodName := ⟨RX3, "<init>", "()V"⟩
def RX4 : String := "PinnedLeaves$Row"
def TX4 : u_T := fun k => match k with
  | _ => ("PinnedLeaves$Row", "cells", "[I", true)
def tyX4 : Nat → FieldType := fun k => match k with
  | _ => .array .int
abbrev wsX40 : List Cond := u_ws RX4 TX4 1
theorem nmX4 : ∀ a, a < 1 → ∀ b, b < 1 → a ≠ b → (TX4 a).2.1 ≠ (TX4 b).2.1 := by decide +kernel
theorem tyX4_ok : ∀ k, k < 1 → parseFieldDescriptor (TX4 k).2.2.1 = some (tyX4 k) := by decide +kernel
abbrev cX4_init : ByteArray := prog_6_method_1_code
def yX4_init : MethodName := ⟨RX4, "<init>", "(I)V"⟩
abbrev cX4_get : ByteArray := prog_6_method_2_code
def yX4_get : MethodName := ⟨RX4, "get", "(I)I"⟩
abbrev cX4_put : ByteArray := prog_6_method_3_code
def yX4_put : MethodName := ⟨RX4, "put", "(II)V"⟩
abbrev cX4_add : ByteArray := prog_6_method_4_code
def yX4_add : MethodName := ⟨RX4, "add", "(II)V"⟩
abbrev cX4_fill : ByteArray := prog_6_method_5_code
def yX4_fill : MethodName := ⟨RX4, "fill", "(I)V"⟩
abbrev cX4_number : ByteArray := prog_6_method_6_code
def yX4_number : MethodName := ⟨RX4, "number", "(III)I"⟩
abbrev cX4_copyFrom : ByteArray := prog_6_method_7_code
def yX4_copyFrom : MethodName := ⟨RX4, "copyFrom", "(LPinnedLeaves$Row;)V"⟩
def RX5 : String := "PinnedLeaves$SavedYards"
def TX5 : u_T := fun k => match k with
  | 0 => ("PinnedLeaves$SavedYards", "yards", "[LPinnedLeaves$Yard;", true)
  | 1 => ("PinnedLeaves$SavedYards", "next", "I", false)
  | _ => ("PinnedLeaves$SavedYards", "size", "I", false)
def tyX5 : Nat → FieldType := fun k => match k with
  | 0 => .array (.object "PinnedLeaves$Yard")
  | 1 => .int
  | _ => .int
abbrev wsX50 : List Cond := u_ws RX5 TX5 3
theorem nmX5 : ∀ a, a < 3 → ∀ b, b < 3 → a ≠ b → (TX5 a).2.1 ≠ (TX5 b).2.1 := by decide +kernel
theorem tyX5_ok : ∀ k, k < 3 → parseFieldDescriptor (TX5 k).2.2.1 = some (tyX5 k) := by decide +kernel
abbrev cX5_init : ByteArray := prog_7_method_1_code
def yX5_init : MethodName := ⟨RX5, "<init>", "()V"⟩
abbrev cX5_number : ByteArray := prog_7_method_2_code
def yX5_number : MethodName := ⟨RX5, "number", "()I"⟩
abbrev cX5_push : ByteArray := prog_7_method_3_code
def yX5_push : MethodName := ⟨RX5, "push", "(LPinnedLeaves$Yard;)V"⟩
abbrev cX5_popInto : ByteArray := prog_7_method_4_code
def yX5_popInto : MethodName := ⟨RX5, "popInto", "(LPinnedLeaves$Yard;)V"⟩
abbrev cX5_placeAt : ByteArray := prog_7_method_5_code
def yX5_placeAt : MethodName := ⟨RX5, "placeAt", "(I)LPinnedLeaves$Yard;"⟩
def RX6 : String := "PinnedLeaves$Yard"
def TX6 : u_T := fun k => match k with
  | 0 => ("PinnedLeaves$Yard", "bell", "I", false)
  | 1 => ("PinnedLeaves$Yard", "rakeAt", "I", false)
  | 2 => ("PinnedLeaves$Yard", "burnsBy", "I", false)
  | 3 => ("PinnedLeaves$Yard", "rakings", "I", false)
  | 4 => ("PinnedLeaves$Yard", "lookedThrough", "I", false)
  | 5 => ("PinnedLeaves$Yard", "failedPins", "I", false)
  | 6 => ("PinnedLeaves$Yard", "dangers", "I", false)
  | 7 => ("PinnedLeaves$Yard", "mostAside", "I", false)
  | 8 => ("PinnedLeaves$Yard", "leaves", "LPinnedLeaves$Leaves;", true)
  | 9 => ("PinnedLeaves$Yard", "children", "LPinnedLeaves$Children;", true)
  | _ => ("PinnedLeaves$Yard", "hooks", "LPinnedLeaves$Hooks;", true)
def tyX6 : Nat → FieldType := fun k => match k with
  | 0 => .int
  | 1 => .int
  | 2 => .int
  | 3 => .int
  | 4 => .int
  | 5 => .int
  | 6 => .int
  | 7 => .int
  | 8 => .object "PinnedLeaves$Leaves"
  | 9 => .object "PinnedLeaves$Children"
  | _ => .object "PinnedLeaves$Hooks"
abbrev wsX60 : List Cond := u_ws RX6 TX6 11
theorem nmX6 : ∀ a, a < 11 → ∀ b, b < 11 → a ≠ b → (TX6 a).2.1 ≠ (TX6 b).2.1 := by decide +kernel
theorem tyX6_ok : ∀ k, k < 11 → parseFieldDescriptor (TX6 k).2.2.1 = some (tyX6 k) := by decide +kernel
abbrev cX6_init : ByteArray := prog_8_method_1_code
def yX6_init : MethodName := ⟨RX6, "<init>", "()V"⟩
abbrev cX6_copyFrom : ByteArray := prog_8_method_2_code
def yX6_copyFrom : MethodName := ⟨RX6, "copyFrom", "(LPinnedLeaves$Yard;)V"⟩
abbrev cX6_addChild : ByteArray := prog_8_method_3_code
def yX6_addChild : MethodName := ⟨RX6, "addChild", "()I"⟩
abbrev cX6_removeChild : ByteArray := prog_8_method_4_code
def yX6_removeChild : MethodName := ⟨RX6, "removeChild", "(I)I"⟩
abbrev cX6_mayGoIn : ByteArray := prog_8_method_5_code
def yX6_mayGoIn : MethodName := ⟨RX6, "mayGoIn", "(I)Z"⟩
abbrev cX6_goIn : ByteArray := prog_8_method_6_code
def yX6_goIn : MethodName := ⟨RX6, "goIn", "(I)I"⟩
abbrev cX6_mayLieDown : ByteArray := prog_8_method_7_code
def yX6_mayLieDown : MethodName := ⟨RX6, "mayLieDown", "(I)Z"⟩
abbrev cX6_lieDown : ByteArray := prog_8_method_8_code
def yX6_lieDown : MethodName := ⟨RX6, "lieDown", "(I)I"⟩
abbrev cX6_mayStrike : ByteArray := prog_8_method_9_code
def yX6_mayStrike : MethodName := ⟨RX6, "mayStrike", "()Z"⟩
abbrev cX6_strike : ByteArray := prog_8_method_10_code
def yX6_strike : MethodName := ⟨RX6, "strike", "()I"⟩
abbrev cX6_maySprout : ByteArray := prog_8_method_11_code
def yX6_maySprout : MethodName := ⟨RX6, "maySprout", "(I)Z"⟩
abbrev cX6_mayWrite : ByteArray := prog_8_method_12_code
def yX6_mayWrite : MethodName := ⟨RX6, "mayWrite", "(III)Z"⟩
abbrev cX6_write : ByteArray := prog_8_method_13_code
def yX6_write : MethodName := ⟨RX6, "write", "(III)I"⟩
abbrev cX6_mayFasten : ByteArray := prog_8_method_14_code
def yX6_mayFasten : MethodName := ⟨RX6, "mayFasten", "(II)Z"⟩
abbrev cX6_fasten : ByteArray := prog_8_method_15_code
def yX6_fasten : MethodName := ⟨RX6, "fasten", "(II)I"⟩
abbrev cX6_mayRelease : ByteArray := prog_8_method_16_code
def yX6_mayRelease : MethodName := ⟨RX6, "mayRelease", "(II)Z"⟩
abbrev cX6_release : ByteArray := prog_8_method_17_code
def yX6_release : MethodName := ⟨RX6, "release", "(II)I"⟩
abbrev cX6_lookThrough : ByteArray := prog_8_method_18_code
def yX6_lookThrough : MethodName := ⟨RX6, "lookThrough", "(II)I"⟩
abbrev cX6_mayTakeOff : ByteArray := prog_8_method_19_code
def yX6_mayTakeOff : MethodName := ⟨RX6, "mayTakeOff", "(II)Z"⟩
abbrev cX6_takeOff : ByteArray := prog_8_method_20_code
def yX6_takeOff : MethodName := ⟨RX6, "takeOff", "(II)I"⟩
abbrev cX6_mayExchange : ByteArray := prog_8_method_21_code
def yX6_mayExchange : MethodName := ⟨RX6, "mayExchange", "(II)Z"⟩
abbrev cX6_exchange : ByteArray := prog_8_method_22_code
def yX6_exchange : MethodName := ⟨RX6, "exchange", "(III)I"⟩
abbrev cX6_mayClear : ByteArray := prog_8_method_23_code
def yX6_mayClear : MethodName := ⟨RX6, "mayClear", "(I)Z"⟩
abbrev cX6_clear : ByteArray := prog_8_method_24_code
def yX6_clear : MethodName := ⟨RX6, "clear", "(I)I"⟩
abbrev cX6_valueOf : ByteArray := prog_8_method_25_code
def yX6_valueOf : MethodName := ⟨RX6, "valueOf", "(I)I"⟩
abbrev cX6_change : ByteArray := prog_8_method_26_code
def yX6_change : MethodName := ⟨RX6, "change", "(II)I"⟩
abbrev cX6_mayBurn : ByteArray := prog_8_method_27_code
def yX6_mayBurn : MethodName := ⟨RX6, "mayBurn", "(III)Z"⟩
abbrev cX6_burnable : ByteArray := prog_8_method_28_code
def yX6_burnable : MethodName := ⟨RX6, "burnable", "(III)I"⟩
abbrev cX6_burnableIfRested : ByteArray := prog_8_method_29_code
def yX6_burnableIfRested : MethodName := ⟨RX6, "burnableIfRested", "(I)I"⟩
abbrev cX6_burnableIfAllRested : ByteArray := prog_8_method_30_code
def yX6_burnableIfAllRested : MethodName := ⟨RX6, "burnableIfAllRested", "()I"⟩
abbrev cX6_bestHeap : ByteArray := prog_8_method_31_code
def yX6_bestHeap : MethodName := ⟨RX6, "bestHeap", "()I"⟩
abbrev cX6_freedBy : ByteArray := prog_8_method_32_code
def yX6_freedBy : MethodName := ⟨RX6, "freedBy", "(II)I"⟩
abbrev cX6_mostPinned : ByteArray := prog_8_method_33_code
def yX6_mostPinned : MethodName := ⟨RX6, "mostPinned", "()I"⟩
abbrev cX6_whyNotBurnt : ByteArray := prog_8_method_34_code
def yX6_whyNotBurnt : MethodName := ⟨RX6, "whyNotBurnt", "(I)I"⟩
abbrev cX6_numberOfLeaf : ByteArray := prog_8_method_35_code
def yX6_numberOfLeaf : MethodName := ⟨RX6, "numberOfLeaf", "(II)I"⟩
abbrev cX6_numberOfChild : ByteArray := prog_8_method_36_code
def yX6_numberOfChild : MethodName := ⟨RX6, "numberOfChild", "(II)I"⟩
abbrev cX6_numberOfAll : ByteArray := prog_8_method_37_code
def yX6_numberOfAll : MethodName := ⟨RX6, "numberOfAll", "(I)I"⟩
def RX7 : String := "PinnedLeaves"
def TX7 : u_T := fun k => match k with
  | 0 => ("PinnedLeaves", "yard", "LPinnedLeaves$Yard;", true)
  | 1 => ("PinnedLeaves", "snapshot", "LPinnedLeaves$Yard;", true)
  | 2 => ("PinnedLeaves", "saved", "LPinnedLeaves$SavedYards;", true)
  | 3 => ("PinnedLeaves", "text", "LPinnedLeaves$OrderText;", true)
  | _ => ("PinnedLeaves", "hasSnapshot", "Z", false)
def tyX7 : Nat → FieldType := fun k => match k with
  | 0 => .object "PinnedLeaves$Yard"
  | 1 => .object "PinnedLeaves$Yard"
  | 2 => .object "PinnedLeaves$SavedYards"
  | 3 => .object "PinnedLeaves$OrderText"
  | _ => .boolean
abbrev wsX70 : List Cond := u_ws RX7 TX7 5
theorem nmX7 : ∀ a, a < 5 → ∀ b, b < 5 → a ≠ b → (TX7 a).2.1 ≠ (TX7 b).2.1 := by decide +kernel
theorem tyX7_ok : ∀ k, k < 5 → parseFieldDescriptor (TX7 k).2.2.1 = some (tyX7 k) := by decide +kernel
abbrev cX7_init : ByteArray := prog_1_method_1_code
def yX7_init : MethodName := ⟨RX7, "<init>", "()V"⟩
abbrev cX7_come : ByteArray := prog_1_method_2_code
def yX7_come : MethodName := ⟨RX7, "come", "()I"⟩
abbrev cX7_leave : ByteArray := prog_1_method_3_code
def yX7_leave : MethodName := ⟨RX7, "leave", "(I)I"⟩
abbrev cX7_enter : ByteArray := prog_1_method_4_code
def yX7_enter : MethodName := ⟨RX7, "enter", "(I)I"⟩
abbrev cX7_rest : ByteArray := prog_1_method_5_code
def yX7_rest : MethodName := ⟨RX7, "rest", "(I)I"⟩
abbrev cX7_ring : ByteArray := prog_1_method_6_code
def yX7_ring : MethodName := ⟨RX7, "ring", "()I"⟩
abbrev cX7_grow : ByteArray := prog_1_method_7_code
def yX7_grow : MethodName := ⟨RX7, "grow", "(II)I"⟩
abbrev cX7_note : ByteArray := prog_1_method_8_code
def yX7_note : MethodName := ⟨RX7, "note", "(III)I"⟩
abbrev cX7_pin : ByteArray := prog_1_method_9_code
def yX7_pin : MethodName := ⟨RX7, "pin", "(II)I"⟩
abbrev cX7_loosen : ByteArray := prog_1_method_10_code
def yX7_loosen : MethodName := ⟨RX7, "loosen", "(II)I"⟩
abbrev cX7_look : ByteArray := prog_1_method_11_code
def yX7_look : MethodName := ⟨RX7, "look", "(II)I"⟩
abbrev cX7_take : ByteArray := prog_1_method_12_code
def yX7_take : MethodName := ⟨RX7, "take", "(II)I"⟩
abbrev cX7_swap : ByteArray := prog_1_method_13_code
def yX7_swap : MethodName := ⟨RX7, "swap", "(III)I"⟩
abbrev cX7_rake : ByteArray := prog_1_method_14_code
def yX7_rake : MethodName := ⟨RX7, "rake", "(I)I"⟩
abbrev cX7_set : ByteArray := prog_1_method_15_code
def yX7_set : MethodName := ⟨RX7, "set", "(II)I"⟩
abbrev cX7_undo : ByteArray := prog_1_method_22_code
def yX7_undo : MethodName := ⟨RX7, "undo", "()I"⟩
abbrev cX7_branch : ByteArray := prog_1_method_23_code
def yX7_branch : MethodName := ⟨RX7, "branch", "(I)I"⟩
abbrev cX7_leaf : ByteArray := prog_1_method_24_code
def yX7_leaf : MethodName := ⟨RX7, "leaf", "(II)I"⟩
abbrev cX7_child : ByteArray := prog_1_method_25_code
def yX7_child : MethodName := ⟨RX7, "child", "(II)I"⟩
abbrev cX7_hook : ByteArray := prog_1_method_26_code
def yX7_hook : MethodName := ⟨RX7, "hook", "(III)I"⟩
abbrev cX7_heap : ByteArray := prog_1_method_27_code
def yX7_heap : MethodName := ⟨RX7, "heap", "(II)I"⟩
abbrev cX7_count : ByteArray := prog_1_method_28_code
def yX7_count : MethodName := ⟨RX7, "count", "(I)I"⟩
abbrev cX7_setting : ByteArray := prog_1_method_29_code
def yX7_setting : MethodName := ⟨RX7, "setting", "(I)I"⟩
abbrev cX7_why : ByteArray := prog_1_method_30_code
def yX7_why : MethodName := ⟨RX7, "why", "(I)I"⟩
abbrev cX7_ifRaked : ByteArray := prog_1_method_31_code
def yX7_ifRaked : MethodName := ⟨RX7, "ifRaked", "(II)I"⟩
abbrev cX7_bestRake : ByteArray := prog_1_method_32_code
def yX7_bestRake : MethodName := ⟨RX7, "bestRake", "()I"⟩
abbrev cX7_ifLoosened : ByteArray := prog_1_method_33_code
def yX7_ifLoosened : MethodName := ⟨RX7, "ifLoosened", "(II)I"⟩
abbrev cX7_late : ByteArray := prog_1_method_34_code
def yX7_late : MethodName := ⟨RX7, "late", "()I"⟩
abbrev cX7_ifRested : ByteArray := prog_1_method_35_code
def yX7_ifRested : MethodName := ⟨RX7, "ifRested", "(I)I"⟩
abbrev cX7_ifAllRested : ByteArray := prog_1_method_36_code
def yX7_ifAllRested : MethodName := ⟨RX7, "ifAllRested", "()I"⟩
abbrev cX7_mostHeld : ByteArray := prog_1_method_37_code
def yX7_mostHeld : MethodName := ⟨RX7, "mostHeld", "()I"⟩
abbrev cX7_burntShare : ByteArray := prog_1_method_38_code
def yX7_burntShare : MethodName := ⟨RX7, "burntShare", "()D"⟩
abbrev cX7_fullness : ByteArray := prog_1_method_39_code
def yX7_fullness : MethodName := ⟨RX7, "fullness", "()F"⟩
abbrev cX7_needChild : ByteArray := prog_1_method_41_code
def yX7_needChild : MethodName := ⟨RX7, "needChild", "(I)V"⟩
abbrev cX7_needHook : ByteArray := prog_1_method_42_code
def yX7_needHook : MethodName := ⟨RX7, "needHook", "(II)V"⟩
abbrev cX7_needLeaf : ByteArray := prog_1_method_43_code
def yX7_needLeaf : MethodName := ⟨RX7, "needLeaf", "(I)V"⟩
abbrev cX7_needBranch : ByteArray := prog_1_method_44_code
def yX7_needBranch : MethodName := ⟨RX7, "needBranch", "(I)V"⟩
abbrev cX7_needSetting : ByteArray := prog_1_method_45_code
def yX7_needSetting : MethodName := ⟨RX7, "needSetting", "(I)V"⟩
abbrev cX7_needColour : ByteArray := prog_1_method_46_code
def yX7_needColour : MethodName := ⟨RX7, "needColour", "(I)V"⟩
abbrev cX7_needWhat : ByteArray := prog_1_method_47_code
def yX7_needWhat : MethodName := ⟨RX7, "needWhat", "(II)V"⟩
abbrev cX7_isValueOf : ByteArray := prog_1_method_48_code
def yX7_isValueOf : MethodName := ⟨RX7, "isValueOf", "(II)Z"⟩
abbrev cX7_counted : ByteArray := prog_1_method_50_code
def yX7_counted : MethodName := ⟨RX7, "counted", "(I)I"⟩
def RX8 : String := "PinnedLeavesModel"
def TX8 : u_T := fun k => match k with
  | _ => ("", "", "", false)
def tyX8 : Nat → FieldType := fun k => match k with
  | _ => .int
abbrev wsX80 : List Cond := u_ws RX8 TX8 0
theorem nmX8 : ∀ a, a < 0 → ∀ b, b < 0 → a ≠ b → (TX8 a).2.1 ≠ (TX8 b).2.1 := by decide +kernel
theorem tyX8_ok : ∀ k, k < 0 → parseFieldDescriptor (TX8 k).2.2.1 = some (tyX8 k) := by decide +kernel
def RJ9 : String := "java/lang/Math"
def TJ9 : u_T := fun k => match k with
  | _ => ("", "", "", false)
def tyJ9 : Nat → FieldType := fun k => match k with
  | _ => .int
abbrev wsJ90 : List Cond := u_ws RJ9 TJ9 0
theorem nmJ9 : ∀ a, a < 0 → ∀ b, b < 0 → a ≠ b → (TJ9 a).2.1 ≠ (TJ9 b).2.1 := by decide +kernel
theorem tyJ9_ok : ∀ k, k < 0 → parseFieldDescriptor (TJ9 k).2.2.1 = some (tyJ9 k) := by decide +kernel
abbrev cJ9_max_7cf53 : ByteArray := prog_15_method_65_code
def yJ9_max_7cf53 : MethodName := ⟨RJ9, "max", "(II)I"⟩
abbrev cJ9_min_7cf53 : ByteArray := prog_15_method_69_code
def yJ9_min_7cf53 : MethodName := ⟨RJ9, "min", "(II)I"⟩
def RJ0 : String := "java/lang/String"
def TJ0 : u_T := fun k => match k with
  | _ => ("", "", "", false)
def tyJ0 : Nat → FieldType := fun k => match k with
  | _ => .int
abbrev wsJ00 : List Cond := u_ws RJ0 TJ0 0
theorem nmJ0 : ∀ a, a < 0 → ∀ b, b < 0 → a ≠ b → (TJ0 a).2.1 ≠ (TJ0 b).2.1 := by decide +kernel
theorem tyJ0_ok : ∀ k, k < 0 → parseFieldDescriptor (TJ0 k).2.2.1 = some (tyJ0 k) := by decide +kernel
def RJ10 : String := "java/lang/System"
def TJ10 : u_T := fun k => match k with
  | _ => ("", "", "", false)
def tyJ10 : Nat → FieldType := fun k => match k with
  | _ => .int
abbrev wsJ100 : List Cond := u_ws RJ10 TJ10 0
theorem nmJ10 : ∀ a, a < 0 → ∀ b, b < 0 → a ≠ b → (TJ10 a).2.1 ≠ (TJ10 b).2.1 := by decide +kernel
theorem tyJ10_ok : ∀ k, k < 0 → parseFieldDescriptor (TJ10 k).2.2.1 = some (tyJ10 k) := by decide +kernel
def RL : String := "PinnedLeavesLaw"
abbrev cL_cell : ByteArray := method_2_code
def yL_cell : MethodName := ⟨RL, "cell", "([II)I"⟩
abbrev cL_low : ByteArray := method_3_code
def yL_low : MethodName := ⟨RL, "low", "(II)I"⟩
abbrev cL_come : ByteArray := method_4_code
def yL_come : MethodName := ⟨RL, "come", "(LPinnedLeaves;)I"⟩
abbrev cL_leave : ByteArray := method_5_code
def yL_leave : MethodName := ⟨RL, "leave", "(LPinnedLeaves;I)I"⟩
abbrev cL_enter : ByteArray := method_6_code
def yL_enter : MethodName := ⟨RL, "enter", "(LPinnedLeaves;I)I"⟩
abbrev cL_rest : ByteArray := method_7_code
def yL_rest : MethodName := ⟨RL, "rest", "(LPinnedLeaves;I)I"⟩
abbrev cL_ring : ByteArray := method_8_code
def yL_ring : MethodName := ⟨RL, "ring", "(LPinnedLeaves;)I"⟩
abbrev cL_grow : ByteArray := method_9_code
def yL_grow : MethodName := ⟨RL, "grow", "(LPinnedLeaves;II)I"⟩
abbrev cL_note : ByteArray := method_10_code
def yL_note : MethodName := ⟨RL, "note", "(LPinnedLeaves;III)I"⟩
abbrev cL_pin : ByteArray := method_11_code
def yL_pin : MethodName := ⟨RL, "pin", "(LPinnedLeaves;II)I"⟩
abbrev cL_loosen : ByteArray := method_12_code
def yL_loosen : MethodName := ⟨RL, "loosen", "(LPinnedLeaves;II)I"⟩
abbrev cL_look : ByteArray := method_13_code
def yL_look : MethodName := ⟨RL, "look", "(LPinnedLeaves;II)I"⟩
abbrev cL_take : ByteArray := method_14_code
def yL_take : MethodName := ⟨RL, "take", "(LPinnedLeaves;II)I"⟩
abbrev cL_swap : ByteArray := method_15_code
def yL_swap : MethodName := ⟨RL, "swap", "(LPinnedLeaves;III)I"⟩
abbrev cL_rake : ByteArray := method_16_code
def yL_rake : MethodName := ⟨RL, "rake", "(LPinnedLeaves;I)I"⟩
abbrev cL_set : ByteArray := method_17_code
def yL_set : MethodName := ⟨RL, "set", "(LPinnedLeaves;II)I"⟩
abbrev cL_undo : ByteArray := method_18_code
def yL_undo : MethodName := ⟨RL, "undo", "(LPinnedLeaves;)I"⟩
abbrev cL_child : ByteArray := method_19_code
def yL_child : MethodName := ⟨RL, "child", "(LPinnedLeaves;II)I"⟩
abbrev cL_where : ByteArray := method_20_code
def yL_where : MethodName := ⟨RL, "where", "(I[I)I"⟩
abbrev cL_put : ByteArray := method_21_code
def yL_put : MethodName := ⟨RL, "put", "(II[I)V"⟩
abbrev cL_branch : ByteArray := method_22_code
def yL_branch : MethodName := ⟨RL, "branch", "(I[I)I"⟩
abbrev cL_noted : ByteArray := method_23_code
def yL_noted : MethodName := ⟨RL, "noted", "(I[I)I"⟩
abbrev cL_pins : ByteArray := method_24_code
def yL_pins : MethodName := ⟨RL, "pins", "(III[I)I"⟩
abbrev cL_may : ByteArray := method_25_code
def yL_may : MethodName := ⟨RL, "may", "(III[I[I[I)Z"⟩
abbrev cL_heap : ByteArray := method_26_code
def yL_heap : MethodName := ⟨RL, "heap", "(I[I[I[I)I"⟩
abbrev cL_children : ByteArray := method_27_code
def yL_children : MethodName := ⟨RL, "children", "([I)I"⟩
abbrev cL_raked : ByteArray := method_28_code
def yL_raked : MethodName := ⟨RL, "raked", "(I[I[I[I[I[I)I"⟩
abbrev cL_taken : ByteArray := method_29_code
def yL_taken : MethodName := ⟨RL, "taken", "(II[I[I[I[I[I[I)I"⟩
abbrev cL_grown : ByteArray := method_30_code
def yL_grown : MethodName := ⟨RL, "grown", "(II[I[I[I)I"⟩
abbrev cL_late : ByteArray := method_31_code
def yL_late : MethodName := ⟨RL, "late", "([I[I)I"⟩
abbrev cL_without : ByteArray := method_32_code
def yL_without : MethodName := ⟨RL, "without", "(I[I[I)V"⟩
abbrev cL_goes : ByteArray := method_33_code
def yL_goes : MethodName := ⟨RL, "goes", "(LPinnedLeaves;II[I[I[I[I[I)Z"⟩
abbrev cL_hooks : ByteArray := method_34_code
def yL_hooks : MethodName := ⟨RL, "hooks", "(LPinnedLeaves;II[I[I[I[I[I)Z"⟩
abbrev cL_leaves : ByteArray := method_35_code
def yL_leaves : MethodName := ⟨RL, "leaves", "(LPinnedLeaves;II[I[I[I[I[I[I)Z"⟩
abbrev cL_areLeaves : ByteArray := method_36_code
def yL_areLeaves : MethodName := ⟨RL, "areLeaves", "(LPinnedLeaves;[I[I[I[I)Z"⟩
abbrev cL_isChild : ByteArray := method_37_code
def yL_isChild : MethodName := ⟨RL, "isChild", "(LPinnedLeaves;I[I[I[I[I[I)Z"⟩
abbrev cL_burns : ByteArray := method_38_code
def yL_burns : MethodName := ⟨RL, "burns", "(II[I[I[I[I)I"⟩
abbrev cL_areChildren : ByteArray := method_39_code
def yL_areChildren : MethodName := ⟨RL, "areChildren", "(LPinnedLeaves;[I[I[I[I[I)Z"⟩
abbrev cL_isSo : ByteArray := method_40_code
def yL_isSo : MethodName := ⟨RL, "isSo", "(LPinnedLeaves;[I[I[I[I[I[I)Z"⟩
abbrev cL_law : ByteArray := code
def yL_law : MethodName := ⟨RL, "law", "([I)Z"⟩
theorem inJ9 : ∀ w ∈ wsJ90, w ∈ lw_tbl := by decide +kernel
theorem inJ0 : ∀ w ∈ wsJ00, w ∈ lw_tbl := by decide +kernel
theorem inJ10 : ∀ w ∈ wsJ100, w ∈ lw_tbl := by decide +kernel
abbrev vwCl : List vw_C := [(RX0, TX0, 7), (RX1, TX1, 3), (RX2, TX2, 7), (RX3, TX3, 2), (RX4, TX4, 1), (RX5, TX5, 3), (RX6, TX6, 11), (RX7, TX7, 5)]
/-! the words of all methods: the good ones of the tables -/
def gw : List Cond := lw_tbl.filter goodWord
theorem gw_good : GoodIn gw gw := fun w h => ⟨h, good_of_word (List.mem_filter.mp h).2⟩
theorem gw_tbl : ∀ w ∈ gw, w ∈ lw_tbl := fun w h => (List.mem_filter.mp h).1
theorem gw_t {w : Cond} (h : w ∈ tables_1) (g : goodWord w = true) : w ∈ gw := List.mem_filter.mpr ⟨List.mem_append_right _ h, g⟩
theorem gw_p {y : MethodName} {n : Nat} (h : (y, n) ∈ lw_privs) : Cond.selects y.cls y y ∈ gw := List.mem_filter.mpr ⟨List.mem_append_left _ (List.mem_map.mpr ⟨(y, n), h, rfl⟩), rfl⟩
theorem gw_t1 {w : Cond} (h : w ∈ tables_1_1) (g : goodWord w = true) : w ∈ gw := gw_t (List.mem_append_left _ h) g
theorem gw_t2 {w : Cond} (h : w ∈ tables_1_2) (g : goodWord w = true) : w ∈ gw := gw_t (List.mem_append_right _ (List.mem_append_left _ h)) g
theorem gw_t3 {w : Cond} (h : w ∈ tables_1_3) (g : goodWord w = true) : w ∈ gw := gw_t (List.mem_append_right _ (List.mem_append_right _ (List.mem_append_left _ h))) g
theorem gw_t4 {w : Cond} (h : w ∈ tables_1_4) (g : goodWord w = true) : w ∈ gw := gw_t (List.mem_append_right _ (List.mem_append_right _ (List.mem_append_right _ (List.mem_append_left _ h)))) g
theorem gw_t5 {w : Cond} (h : w ∈ tables_1_5) (g : goodWord w = true) : w ∈ gw := gw_t (List.mem_append_right _ (List.mem_append_right _ (List.mem_append_right _ (List.mem_append_right _ (h))))) g
theorem wq0 : Cond.classLink RL 10 RX7 ∈ gw := gw_t1 (List.mem_of_getElem? (i := 17) rfl) rfl
theorem wq1 : Cond.instantiable RX7 5 ∈ gw := gw_t1 (List.mem_of_getElem? (i := 18) rfl) rfl
theorem wq2 : Cond.initialized RX7 ∈ gw := gw_t1 (List.mem_of_getElem? (i := 1) rfl) rfl
theorem wq3 : Cond.arrayClass .int ∈ gw := gw_t1 (List.mem_of_getElem? (i := 47) rfl) rfl
theorem wq4 : Cond.methodLink RL 221 yX7_init ∈ gw := gw_t1 (List.mem_of_getElem? (i := 19) rfl) rfl
theorem wq5 : Cond.instanceMethod yX7_init ∈ gw := gw_t1 (List.mem_of_getElem? (i := 20) rfl) rfl
theorem wq6 : Cond.code yX7_init cX7_init 1 none ∈ gw := gw_t1 (List.mem_of_getElem? (i := 21) rfl) rfl
theorem wq7 : Cond.methodLink RX7 1 objectInit ∈ gw := gw_t1 (List.mem_of_getElem? (i := 22) rfl) rfl
theorem wq8 : Cond.instanceMethod objectInit ∈ gw := gw_t1 (List.mem_of_getElem? (i := 23) rfl) rfl
theorem wq9 : Cond.code objectInit ⟨#[0xb1]⟩ 1 none ∈ gw := gw_t1 (List.mem_of_getElem? (i := 24) rfl) rfl
theorem wq10 : Cond.classLink RX7 7 RX6 ∈ gw := gw_t1 (List.mem_of_getElem? (i := 25) rfl) rfl
theorem wq11 : Cond.instantiable RX6 11 ∈ gw := gw_t1 (List.mem_of_getElem? (i := 26) rfl) rfl
theorem wq12 : Cond.initialized RX6 ∈ gw := gw_t1 (List.mem_of_getElem? (i := 2) rfl) rfl
theorem wq13 : Cond.fieldLink RX7 10 "PinnedLeaves" "yard" "LPinnedLeaves$Yard;" ∈ gw := gw_t1 (List.mem_of_getElem? (i := 216) rfl) rfl
theorem wq14 : Cond.fieldLink RX7 16 "PinnedLeaves" "snapshot" "LPinnedLeaves$Yard;" ∈ gw := gw_t1 (List.mem_of_getElem? (i := 217) rfl) rfl
theorem wq15 : Cond.classLink RX7 19 RX5 ∈ gw := gw_t1 (List.mem_of_getElem? (i := 183) rfl) rfl
theorem wq16 : Cond.instantiable RX5 3 ∈ gw := gw_t1 (List.mem_of_getElem? (i := 184) rfl) rfl
theorem wq17 : Cond.initialized RX5 ∈ gw := gw_t1 (List.mem_of_getElem? (i := 7) rfl) rfl
theorem wq18 : Cond.fieldLink RX7 22 "PinnedLeaves" "saved" "LPinnedLeaves$SavedYards;" ∈ gw := gw_t1 (List.mem_of_getElem? (i := 218) rfl) rfl
theorem wq19 : Cond.classLink RX7 26 RX3 ∈ gw := gw_t1 (List.mem_of_getElem? (i := 202) rfl) rfl
theorem wq20 : Cond.instantiable RX3 2 ∈ gw := gw_t1 (List.mem_of_getElem? (i := 203) rfl) rfl
theorem wq21 : Cond.initialized RX3 ∈ gw := gw_t1 (List.mem_of_getElem? (i := 8) rfl) rfl
theorem wq22 : Cond.fieldLink RX7 29 "PinnedLeaves" "text" "LPinnedLeaves$OrderText;" ∈ gw := gw_t1 (List.mem_of_getElem? (i := 219) rfl) rfl
theorem wq23 : Cond.instanceMethod yX6_init ∈ gw := gw_t1 (List.mem_of_getElem? (i := 28) rfl) rfl
theorem wq24 : Cond.code yX6_init cX6_init 1 none ∈ gw := gw_t1 (List.mem_of_getElem? (i := 29) rfl) rfl
theorem wq25 : Cond.methodLink RX6 3 objectInit ∈ gw := gw_t1 (List.mem_of_getElem? (i := 30) rfl) rfl
theorem wq26 : Cond.fieldLink RX6 9 "PinnedLeaves$Yard" "rakeAt" "I" ∈ gw := gw_t1 (List.mem_of_getElem? (i := 146) rfl) rfl
theorem wq27 : Cond.fieldLink RX6 15 "PinnedLeaves$Yard" "burnsBy" "I" ∈ gw := gw_t1 (List.mem_of_getElem? (i := 148) rfl) rfl
theorem wq28 : Cond.classLink RX6 18 RX2 ∈ gw := gw_t1 (List.mem_of_getElem? (i := 31) rfl) rfl
theorem wq29 : Cond.instantiable RX2 7 ∈ gw := gw_t1 (List.mem_of_getElem? (i := 32) rfl) rfl
theorem wq30 : Cond.initialized RX2 ∈ gw := gw_t1 (List.mem_of_getElem? (i := 3) rfl) rfl
theorem wq31 : Cond.fieldLink RX6 21 "PinnedLeaves$Yard" "leaves" "LPinnedLeaves$Leaves;" ∈ gw := gw_t1 (List.mem_of_getElem? (i := 154) rfl) rfl
theorem wq32 : Cond.classLink RX6 25 RX0 ∈ gw := gw_t1 (List.mem_of_getElem? (i := 83) rfl) rfl
theorem wq33 : Cond.instantiable RX0 7 ∈ gw := gw_t1 (List.mem_of_getElem? (i := 84) rfl) rfl
theorem wq34 : Cond.initialized RX0 ∈ gw := gw_t1 (List.mem_of_getElem? (i := 5) rfl) rfl
theorem wq35 : Cond.fieldLink RX6 28 "PinnedLeaves$Yard" "children" "LPinnedLeaves$Children;" ∈ gw := gw_t1 (List.mem_of_getElem? (i := 156) rfl) rfl
theorem wq36 : Cond.classLink RX6 32 RX1 ∈ gw := gw_t1 (List.mem_of_getElem? (i := 124) rfl) rfl
theorem wq37 : Cond.instantiable RX1 3 ∈ gw := gw_t1 (List.mem_of_getElem? (i := 125) rfl) rfl
theorem wq38 : Cond.initialized RX1 ∈ gw := gw_t1 (List.mem_of_getElem? (i := 6) rfl) rfl
theorem wq39 : Cond.fieldLink RX6 35 "PinnedLeaves$Yard" "hooks" "LPinnedLeaves$Hooks;" ∈ gw := gw_t1 (List.mem_of_getElem? (i := 158) rfl) rfl
theorem wq40 : Cond.methodLink RX6 20 yX2_init ∈ gw := gw_t1 (List.mem_of_getElem? (i := 33) rfl) rfl
theorem wq41 : Cond.instanceMethod yX2_init ∈ gw := gw_t1 (List.mem_of_getElem? (i := 34) rfl) rfl
theorem wq42 : Cond.code yX2_init cX2_init 1 none ∈ gw := gw_t1 (List.mem_of_getElem? (i := 35) rfl) rfl
theorem wq43 : Cond.methodLink RX2 3 objectInit ∈ gw := gw_t1 (List.mem_of_getElem? (i := 36) rfl) rfl
theorem wq44 : Cond.classLink RX2 9 RX4 ∈ gw := gw_t1 (List.mem_of_getElem? (i := 37) rfl) rfl
theorem wq45 : Cond.instantiable RX4 1 ∈ gw := gw_t1 (List.mem_of_getElem? (i := 38) rfl) rfl
theorem wq46 : Cond.initialized RX4 ∈ gw := gw_t1 (List.mem_of_getElem? (i := 4) rfl) rfl
theorem wq47 : Cond.fieldLink RX2 14 "PinnedLeaves$Leaves" "onBranch" "LPinnedLeaves$Row;" ∈ gw := gw_t1 (List.mem_of_getElem? (i := 55) rfl) rfl
theorem wq48 : Cond.fieldLink RX2 20 "PinnedLeaves$Leaves" "colours" "LPinnedLeaves$Row;" ∈ gw := gw_t1 (List.mem_of_getElem? (i := 58) rfl) rfl
theorem wq49 : Cond.fieldLink RX2 23 "PinnedLeaves$Leaves" "where" "LPinnedLeaves$Row;" ∈ gw := gw_t1 (List.mem_of_getElem? (i := 60) rfl) rfl
theorem wq50 : Cond.fieldLink RX2 26 "PinnedLeaves$Leaves" "lastBranch" "LPinnedLeaves$Row;" ∈ gw := gw_t1 (List.mem_of_getElem? (i := 62) rfl) rfl
theorem wq51 : Cond.fieldLink RX2 29 "PinnedLeaves$Leaves" "asideSince" "LPinnedLeaves$Row;" ∈ gw := gw_t1 (List.mem_of_getElem? (i := 64) rfl) rfl
theorem wq52 : Cond.fieldLink RX2 32 "PinnedLeaves$Leaves" "heapOf" "LPinnedLeaves$Row;" ∈ gw := gw_t1 (List.mem_of_getElem? (i := 66) rfl) rfl
theorem wq53 : Cond.methodLink RX2 11 yX4_init ∈ gw := gw_t1 (List.mem_of_getElem? (i := 39) rfl) rfl
theorem wq54 : Cond.instanceMethod yX4_init ∈ gw := gw_t1 (List.mem_of_getElem? (i := 40) rfl) rfl
theorem wq55 : Cond.code yX4_init cX4_init 2 none ∈ gw := gw_t1 (List.mem_of_getElem? (i := 41) rfl) rfl
theorem wq56 : Cond.methodLink RX4 3 objectInit ∈ gw := gw_t1 (List.mem_of_getElem? (i := 42) rfl) rfl
theorem wq57 : Cond.fieldLink RX4 9 "PinnedLeaves$Row" "cells" "[I" ∈ gw := gw_t1 (List.mem_of_getElem? (i := 43) rfl) rfl
theorem wq58 : Cond.methodLink RX2 35 yX4_fill ∈ gw := gw_t1 (List.mem_of_getElem? (i := 48) rfl) rfl
theorem wq59 : Cond.instanceMethod yX4_fill ∈ gw := gw_t1 (List.mem_of_getElem? (i := 49) rfl) rfl
theorem wq60 : Cond.selects RX4 yX4_fill yX4_fill ∈ gw := gw_t1 (List.mem_of_getElem? (i := 50) rfl) rfl
theorem wq61 : Cond.code yX4_fill cX4_fill 3 none ∈ gw := gw_t1 (List.mem_of_getElem? (i := 51) rfl) rfl
theorem wq62 : Cond.methodLink RX6 27 yX0_init ∈ gw := gw_t1 (List.mem_of_getElem? (i := 85) rfl) rfl
theorem wq63 : Cond.instanceMethod yX0_init ∈ gw := gw_t1 (List.mem_of_getElem? (i := 86) rfl) rfl
theorem wq64 : Cond.code yX0_init cX0_init 1 none ∈ gw := gw_t1 (List.mem_of_getElem? (i := 87) rfl) rfl
theorem wq65 : Cond.methodLink RX0 3 objectInit ∈ gw := gw_t1 (List.mem_of_getElem? (i := 88) rfl) rfl
theorem wq66 : Cond.classLink RX0 9 RX4 ∈ gw := gw_t1 (List.mem_of_getElem? (i := 89) rfl) rfl
theorem wq67 : Cond.fieldLink RX0 14 "PinnedLeaves$Children" "here" "LPinnedLeaves$Row;" ∈ gw := gw_t1 (List.mem_of_getElem? (i := 96) rfl) rfl
theorem wq68 : Cond.fieldLink RX0 20 "PinnedLeaves$Children" "cameInAt" "LPinnedLeaves$Row;" ∈ gw := gw_t1 (List.mem_of_getElem? (i := 97) rfl) rfl
theorem wq69 : Cond.fieldLink RX0 23 "PinnedLeaves$Children" "tookOff" "LPinnedLeaves$Row;" ∈ gw := gw_t1 (List.mem_of_getElem? (i := 99) rfl) rfl
theorem wq70 : Cond.fieldLink RX0 26 "PinnedLeaves$Children" "burnt" "LPinnedLeaves$Row;" ∈ gw := gw_t1 (List.mem_of_getElem? (i := 101) rfl) rfl
theorem wq71 : Cond.fieldLink RX0 29 "PinnedLeaves$Children" "rakings" "LPinnedLeaves$Row;" ∈ gw := gw_t1 (List.mem_of_getElem? (i := 103) rfl) rfl
theorem wq72 : Cond.fieldLink RX0 32 "PinnedLeaves$Children" "heapSize" "LPinnedLeaves$Row;" ∈ gw := gw_t1 (List.mem_of_getElem? (i := 105) rfl) rfl
theorem wq73 : Cond.fieldLink RX0 35 "PinnedLeaves$Children" "heaps" "LPinnedLeaves$Row;" ∈ gw := gw_t1 (List.mem_of_getElem? (i := 107) rfl) rfl
theorem wq74 : Cond.methodLink RX0 11 yX4_init ∈ gw := gw_t1 (List.mem_of_getElem? (i := 90) rfl) rfl
theorem wq75 : Cond.methodLink RX0 38 yX4_fill ∈ gw := gw_t1 (List.mem_of_getElem? (i := 91) rfl) rfl
theorem wq76 : Cond.methodLink RX0 41 yX4_put ∈ gw := gw_t1 (List.mem_of_getElem? (i := 92) rfl) rfl
theorem wq77 : Cond.instanceMethod yX4_put ∈ gw := gw_t1 (List.mem_of_getElem? (i := 93) rfl) rfl
theorem wq78 : Cond.selects RX4 yX4_put yX4_put ∈ gw := gw_t1 (List.mem_of_getElem? (i := 94) rfl) rfl
theorem wq79 : Cond.code yX4_put cX4_put 3 none ∈ gw := gw_t1 (List.mem_of_getElem? (i := 95) rfl) rfl
theorem wq80 : Cond.methodLink RX6 34 yX1_init ∈ gw := gw_t1 (List.mem_of_getElem? (i := 126) rfl) rfl
theorem wq81 : Cond.instanceMethod yX1_init ∈ gw := gw_t1 (List.mem_of_getElem? (i := 127) rfl) rfl
theorem wq82 : Cond.code yX1_init cX1_init 1 none ∈ gw := gw_t1 (List.mem_of_getElem? (i := 128) rfl) rfl
theorem wq83 : Cond.methodLink RX1 3 objectInit ∈ gw := gw_t1 (List.mem_of_getElem? (i := 129) rfl) rfl
theorem wq84 : Cond.classLink RX1 9 RX4 ∈ gw := gw_t1 (List.mem_of_getElem? (i := 130) rfl) rfl
theorem wq85 : Cond.fieldLink RX1 16 "PinnedLeaves$Hooks" "pinned" "LPinnedLeaves$Row;" ∈ gw := gw_t1 (List.mem_of_getElem? (i := 133) rfl) rfl
theorem wq86 : Cond.fieldLink RX1 20 "PinnedLeaves$Hooks" "noted" "LPinnedLeaves$Row;" ∈ gw := gw_t1 (List.mem_of_getElem? (i := 135) rfl) rfl
theorem wq87 : Cond.fieldLink RX1 23 "PinnedLeaves$Hooks" "branches" "LPinnedLeaves$Row;" ∈ gw := gw_t1 (List.mem_of_getElem? (i := 136) rfl) rfl
theorem wq88 : Cond.methodLink RX1 13 yX4_init ∈ gw := gw_t1 (List.mem_of_getElem? (i := 131) rfl) rfl
theorem wq89 : Cond.methodLink RX1 26 yX4_fill ∈ gw := gw_t1 (List.mem_of_getElem? (i := 132) rfl) rfl
theorem wq90 : Cond.methodLink RX7 21 yX5_init ∈ gw := gw_t1 (List.mem_of_getElem? (i := 185) rfl) rfl
theorem wq91 : Cond.instanceMethod yX5_init ∈ gw := gw_t1 (List.mem_of_getElem? (i := 186) rfl) rfl
theorem wq92 : Cond.code yX5_init cX5_init 2 none ∈ gw := gw_t1 (List.mem_of_getElem? (i := 187) rfl) rfl
theorem wq93 : Cond.methodLink RX5 3 objectInit ∈ gw := gw_t1 (List.mem_of_getElem? (i := 188) rfl) rfl
theorem wq94 : Cond.classLink RX5 9 RX6 ∈ gw := gw_t1 (List.mem_of_getElem? (i := 189) rfl) rfl
theorem wq95 : Cond.fieldLink RX5 11 "PinnedLeaves$SavedYards" "yards" "[LPinnedLeaves$Yard;" ∈ gw := gw_t1 (List.mem_of_getElem? (i := 192) rfl) rfl
theorem wq96 : Cond.instanceMethod yX3_init ∈ gw := gw_t1 (List.mem_of_getElem? (i := 205) rfl) rfl
theorem wq97 : Cond.code yX3_init cX3_init 1 none ∈ gw := gw_t1 (List.mem_of_getElem? (i := 206) rfl) rfl
theorem wq98 : Cond.methodLink RX3 3 objectInit ∈ gw := gw_t1 (List.mem_of_getElem? (i := 207) rfl) rfl
theorem wq99 : Cond.classLink RX3 9 RX4 ∈ gw := gw_t1 (List.mem_of_getElem? (i := 208) rfl) rfl
theorem wq100 : Cond.fieldLink RX3 14 "PinnedLeaves$OrderText" "signs" "LPinnedLeaves$Row;" ∈ gw := gw_t1 (List.mem_of_getElem? (i := 210) rfl) rfl
theorem wq101 : Cond.methodLink RX3 11 yX4_init ∈ gw := gw_t1 (List.mem_of_getElem? (i := 209) rfl) rfl
theorem wq102 : Cond.methodLink RL 108 yL_without ∈ gw := gw_t2 (List.mem_of_getElem? (i := 184) rfl) rfl
theorem wq103 : Cond.static yL_without ∈ gw := gw_t2 (List.mem_of_getElem? (i := 185) rfl) rfl
theorem wq104 : Cond.initialized RL ∈ gw := gw_t1 (List.mem_of_getElem? (i := 0) rfl) rfl
theorem wq105 : Cond.code yL_without cL_without 4 none ∈ gw := gw_t2 (List.mem_of_getElem? (i := 186) rfl) rfl
theorem wq106 : Cond.methodLink RL 222 yL_isSo ∈ gw := gw_t4 (List.mem_of_getElem? (i := 114) rfl) rfl
theorem wq107 : Cond.static yL_isSo ∈ gw := gw_t4 (List.mem_of_getElem? (i := 115) rfl) rfl
theorem wq108 : Cond.code yL_isSo cL_isSo 17 (some .boolean) ∈ gw := gw_t4 (List.mem_of_getElem? (i := 116) rfl) rfl
theorem wq109 : Cond.methodLink RL 75 yL_pins ∈ gw := gw_t4 (List.mem_of_getElem? (i := 76) rfl) rfl
theorem wq110 : Cond.static yL_pins ∈ gw := gw_t4 (List.mem_of_getElem? (i := 77) rfl) rfl
theorem wq111 : Cond.code yL_pins cL_pins 6 (some .int) ∈ gw := gw_t4 (List.mem_of_getElem? (i := 78) rfl) rfl
theorem wq112 : Cond.methodLink RL 69 yL_where ∈ gw := gw_t3 (List.mem_of_getElem? (i := 139) rfl) rfl
theorem wq113 : Cond.static yL_where ∈ gw := gw_t3 (List.mem_of_getElem? (i := 140) rfl) rfl
theorem wq114 : Cond.code yL_where cL_where 2 (some .int) ∈ gw := gw_t3 (List.mem_of_getElem? (i := 141) rfl) rfl
theorem wq115 : Cond.methodLink RL 191 yX7_count ∈ gw := gw_t1 (List.mem_of_getElem? (i := 231) rfl) rfl
theorem wq116 : Cond.instanceMethod yX7_count ∈ gw := gw_t1 (List.mem_of_getElem? (i := 232) rfl) rfl
theorem wq117 : Cond.selects RX7 yX7_count yX7_count ∈ gw := gw_t1 (List.mem_of_getElem? (i := 233) rfl) rfl
theorem wq118 : Cond.code yX7_count cX7_count 2 (some .int) ∈ gw := gw_t1 (List.mem_of_getElem? (i := 234) rfl) rfl
theorem wq119 : Cond.methodLink RX7 247 yX7_needWhat ∈ gw := gw_t1 (List.mem_of_getElem? (i := 235) rfl) rfl
theorem wq120 : Cond.static yX7_needWhat ∈ gw := gw_t1 (List.mem_of_getElem? (i := 236) rfl) rfl
theorem wq121 : Cond.code yX7_needWhat cX7_needWhat 2 none ∈ gw := gw_t1 (List.mem_of_getElem? (i := 237) rfl) rfl
theorem wq122 : Cond.classLink RX7 181 "java/lang/IllegalArgumentException" ∈ gw := gw_t1 (List.mem_of_getElem? (i := 238) rfl) rfl
theorem wq123 : Cond.initialized "java/lang/IllegalArgumentException" ∈ gw := gw_t1 (List.mem_of_getElem? (i := 12) rfl) rfl
theorem wq124 : Cond.methodLink RX7 270 yX7_counted ∈ gw := gw_t2 (List.mem_of_getElem? (i := 66) rfl) rfl
theorem wq125 : Cond.instanceMethod yX7_counted ∈ gw := gw_t2 (List.mem_of_getElem? (i := 68) rfl) rfl
theorem wq126 : Cond.selects RX7 yX7_counted yX7_counted ∈ gw := gw_p (n := _) (List.mem_of_getElem? (i := 1) rfl)
theorem wq127 : Cond.code yX7_counted cX7_counted 2 (some .int) ∈ gw := gw_t2 (List.mem_of_getElem? (i := 69) rfl) rfl
theorem wq128 : Cond.methodLink RX7 229 yX5_number ∈ gw := gw_t2 (List.mem_of_getElem? (i := 70) rfl) rfl
theorem wq129 : Cond.instanceMethod yX5_number ∈ gw := gw_t2 (List.mem_of_getElem? (i := 71) rfl) rfl
theorem wq130 : Cond.selects RX5 yX5_number yX5_number ∈ gw := gw_t2 (List.mem_of_getElem? (i := 72) rfl) rfl
theorem wq131 : Cond.code yX5_number cX5_number 1 (some .int) ∈ gw := gw_t2 (List.mem_of_getElem? (i := 73) rfl) rfl
theorem wq132 : Cond.fieldLink RX5 18 "PinnedLeaves$SavedYards" "size" "I" ∈ gw := gw_t1 (List.mem_of_getElem? (i := 194) rfl) rfl
theorem wq133 : Cond.methodLink RX7 369 yX6_numberOfAll ∈ gw := gw_t2 (List.mem_of_getElem? (i := 74) rfl) rfl
theorem wq134 : Cond.instanceMethod yX6_numberOfAll ∈ gw := gw_t2 (List.mem_of_getElem? (i := 75) rfl) rfl
theorem wq135 : Cond.selects RX6 yX6_numberOfAll yX6_numberOfAll ∈ gw := gw_t2 (List.mem_of_getElem? (i := 76) rfl) rfl
theorem wq136 : Cond.code yX6_numberOfAll cX6_numberOfAll 2 (some .int) ∈ gw := gw_t2 (List.mem_of_getElem? (i := 77) rfl) rfl
theorem wq137 : Cond.fieldLink RX6 39 "PinnedLeaves$Yard" "bell" "I" ∈ gw := gw_t1 (List.mem_of_getElem? (i := 144) rfl) rfl
theorem wq138 : Cond.fieldLink RX6 127 "PinnedLeaves$Leaves" "grown" "I" ∈ gw := gw_t1 (List.mem_of_getElem? (i := 53) rfl) rfl
theorem wq139 : Cond.fieldLink RX6 42 "PinnedLeaves$Yard" "rakings" "I" ∈ gw := gw_t1 (List.mem_of_getElem? (i := 149) rfl) rfl
theorem wq140 : Cond.fieldLink RX6 45 "PinnedLeaves$Yard" "lookedThrough" "I" ∈ gw := gw_t1 (List.mem_of_getElem? (i := 150) rfl) rfl
theorem wq141 : Cond.fieldLink RX6 48 "PinnedLeaves$Yard" "failedPins" "I" ∈ gw := gw_t1 (List.mem_of_getElem? (i := 151) rfl) rfl
theorem wq142 : Cond.fieldLink RX6 51 "PinnedLeaves$Yard" "dangers" "I" ∈ gw := gw_t1 (List.mem_of_getElem? (i := 152) rfl) rfl
theorem wq143 : Cond.fieldLink RX6 54 "PinnedLeaves$Yard" "mostAside" "I" ∈ gw := gw_t1 (List.mem_of_getElem? (i := 153) rfl) rfl
theorem wq144 : Cond.methodLink RX6 237 yX0_mask ∈ gw := gw_t2 (List.mem_of_getElem? (i := 78) rfl) rfl
theorem wq145 : Cond.instanceMethod yX0_mask ∈ gw := gw_t2 (List.mem_of_getElem? (i := 79) rfl) rfl
theorem wq146 : Cond.selects RX0 yX0_mask yX0_mask ∈ gw := gw_t2 (List.mem_of_getElem? (i := 80) rfl) rfl
theorem wq147 : Cond.code yX0_mask cX0_mask 3 (some .int) ∈ gw := gw_t2 (List.mem_of_getElem? (i := 81) rfl) rfl
theorem wq148 : Cond.methodLink RX0 53 yX0_isHere ∈ gw := gw_t2 (List.mem_of_getElem? (i := 82) rfl) rfl
theorem wq149 : Cond.instanceMethod yX0_isHere ∈ gw := gw_t2 (List.mem_of_getElem? (i := 83) rfl) rfl
theorem wq150 : Cond.selects RX0 yX0_isHere yX0_isHere ∈ gw := gw_t2 (List.mem_of_getElem? (i := 84) rfl) rfl
theorem wq151 : Cond.code yX0_isHere cX0_isHere 2 (some .boolean) ∈ gw := gw_t2 (List.mem_of_getElem? (i := 85) rfl) rfl
theorem wq152 : Cond.methodLink RX0 45 yX4_get ∈ gw := gw_t2 (List.mem_of_getElem? (i := 86) rfl) rfl
theorem wq153 : Cond.instanceMethod yX4_get ∈ gw := gw_t2 (List.mem_of_getElem? (i := 87) rfl) rfl
theorem wq154 : Cond.selects RX4 yX4_get yX4_get ∈ gw := gw_t2 (List.mem_of_getElem? (i := 88) rfl) rfl
theorem wq155 : Cond.code yX4_get cX4_get 2 (some .int) ∈ gw := gw_t2 (List.mem_of_getElem? (i := 89) rfl) rfl
theorem wq156 : Cond.methodLink RX6 201 yX0_number ∈ gw := gw_t2 (List.mem_of_getElem? (i := 90) rfl) rfl
theorem wq157 : Cond.instanceMethod yX0_number ∈ gw := gw_t2 (List.mem_of_getElem? (i := 91) rfl) rfl
theorem wq158 : Cond.selects RX0 yX0_number yX0_number ∈ gw := gw_t2 (List.mem_of_getElem? (i := 92) rfl) rfl
theorem wq159 : Cond.code yX0_number cX0_number 1 (some .int) ∈ gw := gw_t2 (List.mem_of_getElem? (i := 93) rfl) rfl
theorem wq160 : Cond.methodLink RX0 49 yX4_number ∈ gw := gw_t2 (List.mem_of_getElem? (i := 94) rfl) rfl
theorem wq161 : Cond.instanceMethod yX4_number ∈ gw := gw_t2 (List.mem_of_getElem? (i := 95) rfl) rfl
theorem wq162 : Cond.selects RX4 yX4_number yX4_number ∈ gw := gw_t2 (List.mem_of_getElem? (i := 96) rfl) rfl
theorem wq163 : Cond.code yX4_number cX4_number 6 (some .int) ∈ gw := gw_t2 (List.mem_of_getElem? (i := 97) rfl) rfl
theorem wq164 : Cond.methodLink RX6 240 yX0_numberInYard ∈ gw := gw_t2 (List.mem_of_getElem? (i := 98) rfl) rfl
theorem wq165 : Cond.instanceMethod yX0_numberInYard ∈ gw := gw_t2 (List.mem_of_getElem? (i := 99) rfl) rfl
theorem wq166 : Cond.selects RX0 yX0_numberInYard yX0_numberInYard ∈ gw := gw_t2 (List.mem_of_getElem? (i := 100) rfl) rfl
theorem wq167 : Cond.code yX0_numberInYard cX0_numberInYard 1 (some .int) ∈ gw := gw_t2 (List.mem_of_getElem? (i := 101) rfl) rfl
theorem wq168 : Cond.methodLink RX6 168 yX2_numberWhere ∈ gw := gw_t2 (List.mem_of_getElem? (i := 102) rfl) rfl
theorem wq169 : Cond.instanceMethod yX2_numberWhere ∈ gw := gw_t2 (List.mem_of_getElem? (i := 103) rfl) rfl
theorem wq170 : Cond.selects RX2 yX2_numberWhere yX2_numberWhere ∈ gw := gw_t2 (List.mem_of_getElem? (i := 104) rfl) rfl
theorem wq171 : Cond.code yX2_numberWhere cX2_numberWhere 2 (some .int) ∈ gw := gw_t2 (List.mem_of_getElem? (i := 105) rfl) rfl
theorem wq172 : Cond.fieldLink RX2 38 "PinnedLeaves$Leaves" "grown" "I" ∈ gw := gw_t1 (List.mem_of_getElem? (i := 52) rfl) rfl
theorem wq173 : Cond.methodLink RX2 50 yX4_number ∈ gw := gw_t2 (List.mem_of_getElem? (i := 106) rfl) rfl
theorem wq174 : Cond.methodLink RX6 243 yX1_pins ∈ gw := gw_t2 (List.mem_of_getElem? (i := 107) rfl) rfl
theorem wq175 : Cond.instanceMethod yX1_pins ∈ gw := gw_t2 (List.mem_of_getElem? (i := 108) rfl) rfl
theorem wq176 : Cond.selects RX1 yX1_pins yX1_pins ∈ gw := gw_t2 (List.mem_of_getElem? (i := 109) rfl) rfl
theorem wq177 : Cond.code yX1_pins cX1_pins 1 (some .int) ∈ gw := gw_t2 (List.mem_of_getElem? (i := 110) rfl) rfl
theorem wq178 : Cond.methodLink RX1 43 yX4_number ∈ gw := gw_t2 (List.mem_of_getElem? (i := 111) rfl) rfl
theorem wq179 : Cond.methodLink RX6 246 yX1_notes ∈ gw := gw_t2 (List.mem_of_getElem? (i := 112) rfl) rfl
theorem wq180 : Cond.instanceMethod yX1_notes ∈ gw := gw_t2 (List.mem_of_getElem? (i := 113) rfl) rfl
theorem wq181 : Cond.selects RX1 yX1_notes yX1_notes ∈ gw := gw_t2 (List.mem_of_getElem? (i := 114) rfl) rfl
theorem wq182 : Cond.code yX1_notes cX1_notes 1 (some .int) ∈ gw := gw_t2 (List.mem_of_getElem? (i := 115) rfl) rfl
theorem wq183 : Cond.methodLink RL 90 yL_children ∈ gw := gw_t3 (List.mem_of_getElem? (i := 100) rfl) rfl
theorem wq184 : Cond.static yL_children ∈ gw := gw_t3 (List.mem_of_getElem? (i := 101) rfl) rfl
theorem wq185 : Cond.code yL_children cL_children 3 (some .int) ∈ gw := gw_t3 (List.mem_of_getElem? (i := 102) rfl) rfl
theorem wq186 : Cond.methodLink RL 194 yX7_setting ∈ gw := gw_t4 (List.mem_of_getElem? (i := 117) rfl) rfl
theorem wq187 : Cond.instanceMethod yX7_setting ∈ gw := gw_t4 (List.mem_of_getElem? (i := 118) rfl) rfl
theorem wq188 : Cond.selects RX7 yX7_setting yX7_setting ∈ gw := gw_t4 (List.mem_of_getElem? (i := 119) rfl) rfl
theorem wq189 : Cond.code yX7_setting cX7_setting 2 (some .int) ∈ gw := gw_t4 (List.mem_of_getElem? (i := 120) rfl) rfl
theorem wq190 : Cond.methodLink RX7 175 yX7_needSetting ∈ gw := gw_t3 (List.mem_of_getElem? (i := 84) rfl) rfl
theorem wq191 : Cond.static yX7_needSetting ∈ gw := gw_t3 (List.mem_of_getElem? (i := 85) rfl) rfl
theorem wq192 : Cond.code yX7_needSetting cX7_needSetting 1 none ∈ gw := gw_t3 (List.mem_of_getElem? (i := 86) rfl) rfl
theorem wq193 : Cond.classLink RX7 343 "java/lang/IndexOutOfBoundsException" ∈ gw := gw_t2 (List.mem_of_getElem? (i := 203) rfl) rfl
theorem wq194 : Cond.initialized "java/lang/IndexOutOfBoundsException" ∈ gw := gw_t1 (List.mem_of_getElem? (i := 13) rfl) rfl
theorem wq195 : Cond.methodLink RX7 273 yX6_valueOf ∈ gw := gw_t4 (List.mem_of_getElem? (i := 121) rfl) rfl
theorem wq196 : Cond.instanceMethod yX6_valueOf ∈ gw := gw_t3 (List.mem_of_getElem? (i := 97) rfl) rfl
theorem wq197 : Cond.selects RX6 yX6_valueOf yX6_valueOf ∈ gw := gw_t3 (List.mem_of_getElem? (i := 98) rfl) rfl
theorem wq198 : Cond.code yX6_valueOf cX6_valueOf 2 (some .int) ∈ gw := gw_t3 (List.mem_of_getElem? (i := 99) rfl) rfl
theorem wq199 : Cond.methodLink RL 197 yX7_late ∈ gw := gw_t4 (List.mem_of_getElem? (i := 122) rfl) rfl
theorem wq200 : Cond.instanceMethod yX7_late ∈ gw := gw_t4 (List.mem_of_getElem? (i := 123) rfl) rfl
theorem wq201 : Cond.selects RX7 yX7_late yX7_late ∈ gw := gw_t4 (List.mem_of_getElem? (i := 124) rfl) rfl
theorem wq202 : Cond.code yX7_late cX7_late 1 (some .int) ∈ gw := gw_t4 (List.mem_of_getElem? (i := 125) rfl) rfl
theorem wq203 : Cond.fieldLink RX7 33 "PinnedLeaves$Yard" "children" "LPinnedLeaves$Children;" ∈ gw := gw_t1 (List.mem_of_getElem? (i := 157) rfl) rfl
theorem wq204 : Cond.fieldLink RX7 223 "PinnedLeaves$Yard" "bell" "I" ∈ gw := gw_t1 (List.mem_of_getElem? (i := 145) rfl) rfl
theorem wq205 : Cond.methodLink RX7 290 yX0_maskOfLate ∈ gw := gw_t4 (List.mem_of_getElem? (i := 126) rfl) rfl
theorem wq206 : Cond.instanceMethod yX0_maskOfLate ∈ gw := gw_t3 (List.mem_of_getElem? (i := 46) rfl) rfl
theorem wq207 : Cond.selects RX0 yX0_maskOfLate yX0_maskOfLate ∈ gw := gw_t3 (List.mem_of_getElem? (i := 47) rfl) rfl
theorem wq208 : Cond.code yX0_maskOfLate cX0_maskOfLate 4 (some .int) ∈ gw := gw_t3 (List.mem_of_getElem? (i := 48) rfl) rfl
theorem wq209 : Cond.methodLink RX0 57 yX0_isInYard ∈ gw := gw_t3 (List.mem_of_getElem? (i := 49) rfl) rfl
theorem wq210 : Cond.instanceMethod yX0_isInYard ∈ gw := gw_t2 (List.mem_of_getElem? (i := 225) rfl) rfl
theorem wq211 : Cond.selects RX0 yX0_isInYard yX0_isInYard ∈ gw := gw_t2 (List.mem_of_getElem? (i := 226) rfl) rfl
theorem wq212 : Cond.code yX0_isInYard cX0_isInYard 2 (some .boolean) ∈ gw := gw_t2 (List.mem_of_getElem? (i := 227) rfl) rfl
theorem wq213 : Cond.methodLink RL 114 yL_late ∈ gw := gw_t3 (List.mem_of_getElem? (i := 31) rfl) rfl
theorem wq214 : Cond.static yL_late ∈ gw := gw_t3 (List.mem_of_getElem? (i := 32) rfl) rfl
theorem wq215 : Cond.code yL_late cL_late 4 (some .int) ∈ gw := gw_t3 (List.mem_of_getElem? (i := 33) rfl) rfl
theorem wq216 : Cond.methodLink RL 199 yX7_ifAllRested ∈ gw := gw_t4 (List.mem_of_getElem? (i := 127) rfl) rfl
theorem wq217 : Cond.instanceMethod yX7_ifAllRested ∈ gw := gw_t4 (List.mem_of_getElem? (i := 128) rfl) rfl
theorem wq218 : Cond.selects RX7 yX7_ifAllRested yX7_ifAllRested ∈ gw := gw_t4 (List.mem_of_getElem? (i := 129) rfl) rfl
theorem wq219 : Cond.code yX7_ifAllRested cX7_ifAllRested 1 (some .int) ∈ gw := gw_t4 (List.mem_of_getElem? (i := 130) rfl) rfl
theorem wq220 : Cond.methodLink RX7 296 yX6_burnableIfAllRested ∈ gw := gw_t4 (List.mem_of_getElem? (i := 131) rfl) rfl
theorem wq221 : Cond.instanceMethod yX6_burnableIfAllRested ∈ gw := gw_t4 (List.mem_of_getElem? (i := 132) rfl) rfl
theorem wq222 : Cond.selects RX6 yX6_burnableIfAllRested yX6_burnableIfAllRested ∈ gw := gw_t4 (List.mem_of_getElem? (i := 133) rfl) rfl
theorem wq223 : Cond.code yX6_burnableIfAllRested cX6_burnableIfAllRested 4 (some .int) ∈ gw := gw_t4 (List.mem_of_getElem? (i := 134) rfl) rfl
theorem wq224 : Cond.fieldLink RX6 207 "PinnedLeaves$Leaves" "asideSince" "LPinnedLeaves$Row;" ∈ gw := gw_t1 (List.mem_of_getElem? (i := 65) rfl) rfl
theorem wq225 : Cond.fieldLink RX6 149 "PinnedLeaves$Leaves" "where" "LPinnedLeaves$Row;" ∈ gw := gw_t1 (List.mem_of_getElem? (i := 61) rfl) rfl
theorem wq226 : Cond.methodLink RX6 79 yX4_get ∈ gw := gw_t3 (List.mem_of_getElem? (i := 116) rfl) rfl
theorem wq227 : Cond.methodLink RL 202 yX7_mostHeld ∈ gw := gw_t4 (List.mem_of_getElem? (i := 135) rfl) rfl
theorem wq228 : Cond.instanceMethod yX7_mostHeld ∈ gw := gw_t4 (List.mem_of_getElem? (i := 136) rfl) rfl
theorem wq229 : Cond.selects RX7 yX7_mostHeld yX7_mostHeld ∈ gw := gw_t4 (List.mem_of_getElem? (i := 137) rfl) rfl
theorem wq230 : Cond.code yX7_mostHeld cX7_mostHeld 1 (some .int) ∈ gw := gw_t4 (List.mem_of_getElem? (i := 138) rfl) rfl
theorem wq231 : Cond.methodLink RX7 299 yX6_mostPinned ∈ gw := gw_t4 (List.mem_of_getElem? (i := 139) rfl) rfl
theorem wq232 : Cond.instanceMethod yX6_mostPinned ∈ gw := gw_t4 (List.mem_of_getElem? (i := 140) rfl) rfl
theorem wq233 : Cond.selects RX6 yX6_mostPinned yX6_mostPinned ∈ gw := gw_t4 (List.mem_of_getElem? (i := 141) rfl) rfl
theorem wq234 : Cond.code yX6_mostPinned cX6_mostPinned 5 (some .int) ∈ gw := gw_t4 (List.mem_of_getElem? (i := 142) rfl) rfl
theorem wq235 : Cond.methodLink RX6 222 yX1_pinsOn ∈ gw := gw_t4 (List.mem_of_getElem? (i := 143) rfl) rfl
theorem wq236 : Cond.instanceMethod yX1_pinsOn ∈ gw := gw_t4 (List.mem_of_getElem? (i := 144) rfl) rfl
theorem wq237 : Cond.selects RX1 yX1_pinsOn yX1_pinsOn ∈ gw := gw_t4 (List.mem_of_getElem? (i := 145) rfl) rfl
theorem wq238 : Cond.code yX1_pinsOn cX1_pinsOn 2 (some .int) ∈ gw := gw_t4 (List.mem_of_getElem? (i := 146) rfl) rfl
theorem wq239 : Cond.methodLink RL 205 yX7_burntShare ∈ gw := gw_t4 (List.mem_of_getElem? (i := 147) rfl) rfl
theorem wq240 : Cond.instanceMethod yX7_burntShare ∈ gw := gw_t4 (List.mem_of_getElem? (i := 148) rfl) rfl
theorem wq241 : Cond.selects RX7 yX7_burntShare yX7_burntShare ∈ gw := gw_t4 (List.mem_of_getElem? (i := 149) rfl) rfl
theorem wq242 : Cond.code yX7_burntShare cX7_burntShare 3 (some .double) ∈ gw := gw_t4 (List.mem_of_getElem? (i := 150) rfl) rfl
theorem wq243 : Cond.fieldLink RX7 107 "PinnedLeaves$Yard" "leaves" "LPinnedLeaves$Leaves;" ∈ gw := gw_t1 (List.mem_of_getElem? (i := 155) rfl) rfl
theorem wq244 : Cond.methodLink RX7 302 yX2_numberWhere ∈ gw := gw_t4 (List.mem_of_getElem? (i := 151) rfl) rfl
theorem wq245 : Cond.methodLink RL 209 yX7_fullness ∈ gw := gw_t4 (List.mem_of_getElem? (i := 152) rfl) rfl
theorem wq246 : Cond.instanceMethod yX7_fullness ∈ gw := gw_t4 (List.mem_of_getElem? (i := 153) rfl) rfl
theorem wq247 : Cond.selects RX7 yX7_fullness yX7_fullness ∈ gw := gw_t4 (List.mem_of_getElem? (i := 154) rfl) rfl
theorem wq248 : Cond.code yX7_fullness cX7_fullness 2 (some .float) ∈ gw := gw_t4 (List.mem_of_getElem? (i := 155) rfl) rfl
theorem wq249 : Cond.fieldLink RX7 305 "PinnedLeaves$Yard" "rakeAt" "I" ∈ gw := gw_t1 (List.mem_of_getElem? (i := 147) rfl) rfl
theorem wq250 : Cond.methodLink RX7 61 yX0_number ∈ gw := gw_t3 (List.mem_of_getElem? (i := 110) rfl) rfl
theorem wq251 : Cond.methodLink RL 213 yL_areLeaves ∈ gw := gw_t4 (List.mem_of_getElem? (i := 156) rfl) rfl
theorem wq252 : Cond.static yL_areLeaves ∈ gw := gw_t4 (List.mem_of_getElem? (i := 157) rfl) rfl
theorem wq253 : Cond.code yL_areLeaves cL_areLeaves 9 (some .boolean) ∈ gw := gw_t4 (List.mem_of_getElem? (i := 158) rfl) rfl
theorem wq254 : Cond.methodLink RL 153 yX7_leaf ∈ gw := gw_t4 (List.mem_of_getElem? (i := 159) rfl) rfl
theorem wq255 : Cond.instanceMethod yX7_leaf ∈ gw := gw_t4 (List.mem_of_getElem? (i := 160) rfl) rfl
theorem wq256 : Cond.selects RX7 yX7_leaf yX7_leaf ∈ gw := gw_t4 (List.mem_of_getElem? (i := 161) rfl) rfl
theorem wq257 : Cond.code yX7_leaf cX7_leaf 3 (some .int) ∈ gw := gw_t4 (List.mem_of_getElem? (i := 162) rfl) rfl
theorem wq258 : Cond.methodLink RX7 244 yX7_needLeaf ∈ gw := gw_t4 (List.mem_of_getElem? (i := 163) rfl) rfl
theorem wq259 : Cond.instanceMethod yX7_needLeaf ∈ gw := gw_t4 (List.mem_of_getElem? (i := 165) rfl) rfl
theorem wq260 : Cond.selects RX7 yX7_needLeaf yX7_needLeaf ∈ gw := gw_p (n := _) (List.mem_of_getElem? (i := 5) rfl)
theorem wq261 : Cond.code yX7_needLeaf cX7_needLeaf 2 none ∈ gw := gw_t4 (List.mem_of_getElem? (i := 166) rfl) rfl
theorem wq262 : Cond.fieldLink RX7 314 "PinnedLeaves$Leaves" "grown" "I" ∈ gw := gw_t1 (List.mem_of_getElem? (i := 54) rfl) rfl
theorem wq263 : Cond.methodLink RX7 250 yX6_numberOfLeaf ∈ gw := gw_t4 (List.mem_of_getElem? (i := 168) rfl) rfl
theorem wq264 : Cond.instanceMethod yX6_numberOfLeaf ∈ gw := gw_t4 (List.mem_of_getElem? (i := 169) rfl) rfl
theorem wq265 : Cond.selects RX6 yX6_numberOfLeaf yX6_numberOfLeaf ∈ gw := gw_t4 (List.mem_of_getElem? (i := 170) rfl) rfl
theorem wq266 : Cond.code yX6_numberOfLeaf cX6_numberOfLeaf 3 (some .int) ∈ gw := gw_t4 (List.mem_of_getElem? (i := 171) rfl) rfl
theorem wq267 : Cond.fieldLink RX6 152 "PinnedLeaves$Leaves" "colours" "LPinnedLeaves$Row;" ∈ gw := gw_t1 (List.mem_of_getElem? (i := 59) rfl) rfl
theorem wq268 : Cond.fieldLink RX6 225 "PinnedLeaves$Leaves" "lastBranch" "LPinnedLeaves$Row;" ∈ gw := gw_t1 (List.mem_of_getElem? (i := 63) rfl) rfl
theorem wq269 : Cond.fieldLink RX6 96 "PinnedLeaves$Leaves" "heapOf" "LPinnedLeaves$Row;" ∈ gw := gw_t1 (List.mem_of_getElem? (i := 67) rfl) rfl
theorem wq270 : Cond.methodLink RX6 228 yX1_maskOfHolders ∈ gw := gw_t4 (List.mem_of_getElem? (i := 172) rfl) rfl
theorem wq271 : Cond.instanceMethod yX1_maskOfHolders ∈ gw := gw_t4 (List.mem_of_getElem? (i := 173) rfl) rfl
theorem wq272 : Cond.selects RX1 yX1_maskOfHolders yX1_maskOfHolders ∈ gw := gw_t4 (List.mem_of_getElem? (i := 174) rfl) rfl
theorem wq273 : Cond.code yX1_maskOfHolders cX1_maskOfHolders 4 (some .int) ∈ gw := gw_t4 (List.mem_of_getElem? (i := 175) rfl) rfl
theorem wq274 : Cond.methodLink RX1 47 yX1_pinsOnBy ∈ gw := gw_t4 (List.mem_of_getElem? (i := 176) rfl) rfl
theorem wq275 : Cond.instanceMethod yX1_pinsOnBy ∈ gw := gw_t4 (List.mem_of_getElem? (i := 177) rfl) rfl
theorem wq276 : Cond.selects RX1 yX1_pinsOnBy yX1_pinsOnBy ∈ gw := gw_t4 (List.mem_of_getElem? (i := 178) rfl) rfl
theorem wq277 : Cond.code yX1_pinsOnBy cX1_pinsOnBy 3 (some .int) ∈ gw := gw_t4 (List.mem_of_getElem? (i := 179) rfl) rfl
theorem wq278 : Cond.methodLink RX1 29 yX1_firstOf ∈ gw := gw_t3 (List.mem_of_getElem? (i := 19) rfl) rfl
theorem wq279 : Cond.static yX1_firstOf ∈ gw := gw_t3 (List.mem_of_getElem? (i := 20) rfl) rfl
theorem wq280 : Cond.code yX1_firstOf cX1_firstOf 1 (some .int) ∈ gw := gw_t3 (List.mem_of_getElem? (i := 21) rfl) rfl
theorem wq281 : Cond.methodLink RX6 231 yX1_notesOn ∈ gw := gw_t4 (List.mem_of_getElem? (i := 180) rfl) rfl
theorem wq282 : Cond.instanceMethod yX1_notesOn ∈ gw := gw_t4 (List.mem_of_getElem? (i := 181) rfl) rfl
theorem wq283 : Cond.selects RX1 yX1_notesOn yX1_notesOn ∈ gw := gw_t4 (List.mem_of_getElem? (i := 182) rfl) rfl
theorem wq284 : Cond.code yX1_notesOn cX1_notesOn 2 (some .int) ∈ gw := gw_t4 (List.mem_of_getElem? (i := 183) rfl) rfl
theorem wq285 : Cond.methodLink RL 156 yL_branch ∈ gw := gw_t4 (List.mem_of_getElem? (i := 184) rfl) rfl
theorem wq286 : Cond.static yL_branch ∈ gw := gw_t4 (List.mem_of_getElem? (i := 185) rfl) rfl
theorem wq287 : Cond.code yL_branch cL_branch 2 (some .int) ∈ gw := gw_t4 (List.mem_of_getElem? (i := 186) rfl) rfl
theorem wq288 : Cond.methodLink RL 79 yL_noted ∈ gw := gw_t4 (List.mem_of_getElem? (i := 79) rfl) rfl
theorem wq289 : Cond.static yL_noted ∈ gw := gw_t4 (List.mem_of_getElem? (i := 80) rfl) rfl
theorem wq290 : Cond.code yL_noted cL_noted 2 (some .int) ∈ gw := gw_t4 (List.mem_of_getElem? (i := 81) rfl) rfl
theorem wq291 : Cond.methodLink RL 159 yX7_why ∈ gw := gw_t4 (List.mem_of_getElem? (i := 187) rfl) rfl
theorem wq292 : Cond.instanceMethod yX7_why ∈ gw := gw_t4 (List.mem_of_getElem? (i := 188) rfl) rfl
theorem wq293 : Cond.selects RX7 yX7_why yX7_why ∈ gw := gw_t4 (List.mem_of_getElem? (i := 189) rfl) rfl
theorem wq294 : Cond.code yX7_why cX7_why 2 (some .int) ∈ gw := gw_t4 (List.mem_of_getElem? (i := 190) rfl) rfl
theorem wq295 : Cond.methodLink RX7 276 yX6_whyNotBurnt ∈ gw := gw_t4 (List.mem_of_getElem? (i := 191) rfl) rfl
theorem wq296 : Cond.instanceMethod yX6_whyNotBurnt ∈ gw := gw_t4 (List.mem_of_getElem? (i := 192) rfl) rfl
theorem wq297 : Cond.selects RX6 yX6_whyNotBurnt yX6_whyNotBurnt ∈ gw := gw_t4 (List.mem_of_getElem? (i := 193) rfl) rfl
theorem wq298 : Cond.code yX6_whyNotBurnt cX6_whyNotBurnt 3 (some .int) ∈ gw := gw_t4 (List.mem_of_getElem? (i := 194) rfl) rfl
theorem wq299 : Cond.methodLink RX6 189 yX6_mayBurn ∈ gw := gw_t4 (List.mem_of_getElem? (i := 54) rfl) rfl
theorem wq300 : Cond.instanceMethod yX6_mayBurn ∈ gw := gw_t4 (List.mem_of_getElem? (i := 55) rfl) rfl
theorem wq301 : Cond.selects RX6 yX6_mayBurn yX6_mayBurn ∈ gw := gw_t4 (List.mem_of_getElem? (i := 56) rfl) rfl
theorem wq302 : Cond.code yX6_mayBurn cX6_mayBurn 6 (some .boolean) ∈ gw := gw_t4 (List.mem_of_getElem? (i := 57) rfl) rfl
theorem wq303 : Cond.fieldLink RX6 213 "PinnedLeaves$Hooks" "pinned" "LPinnedLeaves$Row;" ∈ gw := gw_t1 (List.mem_of_getElem? (i := 134) rfl) rfl
theorem wq304 : Cond.methodLink RX6 210 yX1_firstOf ∈ gw := gw_t4 (List.mem_of_getElem? (i := 58) rfl) rfl
theorem wq305 : Cond.methodLink RX6 216 yX4_number ∈ gw := gw_t4 (List.mem_of_getElem? (i := 59) rfl) rfl
theorem wq306 : Cond.methodLink RL 82 yL_may ∈ gw := gw_t4 (List.mem_of_getElem? (i := 73) rfl) rfl
theorem wq307 : Cond.static yL_may ∈ gw := gw_t4 (List.mem_of_getElem? (i := 74) rfl) rfl
theorem wq308 : Cond.code yL_may cL_may 6 (some .boolean) ∈ gw := gw_t4 (List.mem_of_getElem? (i := 75) rfl) rfl
theorem wq309 : Cond.methodLink RL 162 yX7_branch ∈ gw := gw_t4 (List.mem_of_getElem? (i := 195) rfl) rfl
theorem wq310 : Cond.instanceMethod yX7_branch ∈ gw := gw_t4 (List.mem_of_getElem? (i := 196) rfl) rfl
theorem wq311 : Cond.selects RX7 yX7_branch yX7_branch ∈ gw := gw_t4 (List.mem_of_getElem? (i := 197) rfl) rfl
theorem wq312 : Cond.code yX7_branch cX7_branch 2 (some .int) ∈ gw := gw_t4 (List.mem_of_getElem? (i := 198) rfl) rfl
theorem wq313 : Cond.fieldLink RX7 235 "PinnedLeaves$Leaves" "onBranch" "LPinnedLeaves$Row;" ∈ gw := gw_t1 (List.mem_of_getElem? (i := 57) rfl) rfl
theorem wq314 : Cond.methodLink RX7 96 yX7_needBranch ∈ gw := gw_t3 (List.mem_of_getElem? (i := 163) rfl) rfl
theorem wq315 : Cond.static yX7_needBranch ∈ gw := gw_t3 (List.mem_of_getElem? (i := 164) rfl) rfl
theorem wq316 : Cond.code yX7_needBranch cX7_needBranch 1 none ∈ gw := gw_t3 (List.mem_of_getElem? (i := 165) rfl) rfl
theorem wq317 : Cond.methodLink RX7 239 yX4_get ∈ gw := gw_t4 (List.mem_of_getElem? (i := 199) rfl) rfl
theorem wq318 : Cond.methodLink RL 217 yL_areChildren ∈ gw := gw_t4 (List.mem_of_getElem? (i := 200) rfl) rfl
theorem wq319 : Cond.static yL_areChildren ∈ gw := gw_t4 (List.mem_of_getElem? (i := 201) rfl) rfl
theorem wq320 : Cond.code yL_areChildren cL_areChildren 10 (some .boolean) ∈ gw := gw_t4 (List.mem_of_getElem? (i := 202) rfl) rfl
theorem wq321 : Cond.methodLink RL 175 yL_child ∈ gw := gw_t4 (List.mem_of_getElem? (i := 203) rfl) rfl
theorem wq322 : Cond.static yL_child ∈ gw := gw_t4 (List.mem_of_getElem? (i := 204) rfl) rfl
theorem wq323 : Cond.codeWith yL_child cL_child 5 (some .int) [(0, 7, 10, 21), (0, 7, 15, 36)] ∈ gw := gw_t4 (List.mem_of_getElem? (i := 205) rfl) rfl
theorem wq324 : Cond.classLink RL 21 "java/lang/IndexOutOfBoundsException" ∈ gw := gw_t2 (List.mem_of_getElem? (i := 193) rfl) rfl
theorem wq325 : Cond.classLink RL 36 "java/lang/IllegalArgumentException" ∈ gw := gw_t3 (List.mem_of_getElem? (i := 79) rfl) rfl
theorem wq326 : Cond.methodLink RL 66 yX7_child ∈ gw := gw_t4 (List.mem_of_getElem? (i := 206) rfl) rfl
theorem wq327 : Cond.instanceMethod yX7_child ∈ gw := gw_t4 (List.mem_of_getElem? (i := 207) rfl) rfl
theorem wq328 : Cond.selects RX7 yX7_child yX7_child ∈ gw := gw_t4 (List.mem_of_getElem? (i := 208) rfl) rfl
theorem wq329 : Cond.code yX7_child cX7_child 3 (some .int) ∈ gw := gw_t4 (List.mem_of_getElem? (i := 209) rfl) rfl
theorem wq330 : Cond.methodLink RX7 57 yX7_needChild ∈ gw := gw_t2 (List.mem_of_getElem? (i := 198) rfl) rfl
theorem wq331 : Cond.instanceMethod yX7_needChild ∈ gw := gw_t2 (List.mem_of_getElem? (i := 200) rfl) rfl
theorem wq332 : Cond.selects RX7 yX7_needChild yX7_needChild ∈ gw := gw_p (n := _) (List.mem_of_getElem? (i := 3) rfl)
theorem wq333 : Cond.code yX7_needChild cX7_needChild 2 none ∈ gw := gw_t2 (List.mem_of_getElem? (i := 201) rfl) rfl
theorem wq334 : Cond.methodLink RX7 321 yX0_isHere ∈ gw := gw_t2 (List.mem_of_getElem? (i := 202) rfl) rfl
theorem wq335 : Cond.methodLink RX7 253 yX6_numberOfChild ∈ gw := gw_t4 (List.mem_of_getElem? (i := 210) rfl) rfl
theorem wq336 : Cond.instanceMethod yX6_numberOfChild ∈ gw := gw_t4 (List.mem_of_getElem? (i := 211) rfl) rfl
theorem wq337 : Cond.selects RX6 yX6_numberOfChild yX6_numberOfChild ∈ gw := gw_t4 (List.mem_of_getElem? (i := 212) rfl) rfl
theorem wq338 : Cond.code yX6_numberOfChild cX6_numberOfChild 3 (some .int) ∈ gw := gw_t4 (List.mem_of_getElem? (i := 213) rfl) rfl
theorem wq339 : Cond.fieldLink RX6 115 "PinnedLeaves$Children" "cameInAt" "LPinnedLeaves$Row;" ∈ gw := gw_t1 (List.mem_of_getElem? (i := 98) rfl) rfl
theorem wq340 : Cond.fieldLink RX6 75 "PinnedLeaves$Children" "heapSize" "LPinnedLeaves$Row;" ∈ gw := gw_t1 (List.mem_of_getElem? (i := 106) rfl) rfl
theorem wq341 : Cond.fieldLink RX6 159 "PinnedLeaves$Children" "tookOff" "LPinnedLeaves$Row;" ∈ gw := gw_t1 (List.mem_of_getElem? (i := 100) rfl) rfl
theorem wq342 : Cond.fieldLink RX6 196 "PinnedLeaves$Children" "burnt" "LPinnedLeaves$Row;" ∈ gw := gw_t1 (List.mem_of_getElem? (i := 102) rfl) rfl
theorem wq343 : Cond.fieldLink RX6 199 "PinnedLeaves$Children" "rakings" "LPinnedLeaves$Row;" ∈ gw := gw_t1 (List.mem_of_getElem? (i := 104) rfl) rfl
theorem wq344 : Cond.methodLink RX6 112 yX0_isInYard ∈ gw := gw_t2 (List.mem_of_getElem? (i := 224) rfl) rfl
theorem wq345 : Cond.methodLink RX6 118 yX1_pinsOfChild ∈ gw := gw_t3 (List.mem_of_getElem? (i := 15) rfl) rfl
theorem wq346 : Cond.instanceMethod yX1_pinsOfChild ∈ gw := gw_t3 (List.mem_of_getElem? (i := 16) rfl) rfl
theorem wq347 : Cond.selects RX1 yX1_pinsOfChild yX1_pinsOfChild ∈ gw := gw_t3 (List.mem_of_getElem? (i := 17) rfl) rfl
theorem wq348 : Cond.code yX1_pinsOfChild cX1_pinsOfChild 2 (some .int) ∈ gw := gw_t3 (List.mem_of_getElem? (i := 18) rfl) rfl
theorem wq349 : Cond.methodLink RX6 234 yX1_notesOfChild ∈ gw := gw_t4 (List.mem_of_getElem? (i := 214) rfl) rfl
theorem wq350 : Cond.instanceMethod yX1_notesOfChild ∈ gw := gw_t4 (List.mem_of_getElem? (i := 215) rfl) rfl
theorem wq351 : Cond.selects RX1 yX1_notesOfChild yX1_notesOfChild ∈ gw := gw_t4 (List.mem_of_getElem? (i := 216) rfl) rfl
theorem wq352 : Cond.code yX1_notesOfChild cX1_notesOfChild 2 (some .int) ∈ gw := gw_t4 (List.mem_of_getElem? (i := 217) rfl) rfl
theorem wq353 : Cond.methodLink RL 177 yL_isChild ∈ gw := gw_t4 (List.mem_of_getElem? (i := 218) rfl) rfl
theorem wq354 : Cond.static yL_isChild ∈ gw := gw_t4 (List.mem_of_getElem? (i := 219) rfl) rfl
theorem wq355 : Cond.code yL_isChild cL_isChild 13 (some .boolean) ∈ gw := gw_t4 (List.mem_of_getElem? (i := 220) rfl) rfl
theorem wq356 : Cond.methodLink RL 164 yX7_hook ∈ gw := gw_t4 (List.mem_of_getElem? (i := 221) rfl) rfl
theorem wq357 : Cond.instanceMethod yX7_hook ∈ gw := gw_t4 (List.mem_of_getElem? (i := 222) rfl) rfl
theorem wq358 : Cond.selects RX7 yX7_hook yX7_hook ∈ gw := gw_t4 (List.mem_of_getElem? (i := 223) rfl) rfl
theorem wq359 : Cond.code yX7_hook cX7_hook 4 (some .int) ∈ gw := gw_t4 (List.mem_of_getElem? (i := 224) rfl) rfl
theorem wq360 : Cond.fieldLink RX7 256 "PinnedLeaves$Yard" "hooks" "LPinnedLeaves$Hooks;" ∈ gw := gw_t1 (List.mem_of_getElem? (i := 159) rfl) rfl
theorem wq361 : Cond.methodLink RX7 117 yX7_needHook ∈ gw := gw_t3 (List.mem_of_getElem? (i := 158) rfl) rfl
theorem wq362 : Cond.instanceMethod yX7_needHook ∈ gw := gw_t3 (List.mem_of_getElem? (i := 160) rfl) rfl
theorem wq363 : Cond.selects RX7 yX7_needHook yX7_needHook ∈ gw := gw_p (n := _) (List.mem_of_getElem? (i := 4) rfl)
theorem wq364 : Cond.code yX7_needHook cX7_needHook 3 none ∈ gw := gw_t3 (List.mem_of_getElem? (i := 161) rfl) rfl
theorem wq365 : Cond.methodLink RX7 260 yX1_numberOfHook ∈ gw := gw_t4 (List.mem_of_getElem? (i := 225) rfl) rfl
theorem wq366 : Cond.instanceMethod yX1_numberOfHook ∈ gw := gw_t4 (List.mem_of_getElem? (i := 226) rfl) rfl
theorem wq367 : Cond.selects RX1 yX1_numberOfHook yX1_numberOfHook ∈ gw := gw_t4 (List.mem_of_getElem? (i := 227) rfl) rfl
theorem wq368 : Cond.code yX1_numberOfHook cX1_numberOfHook 4 (some .int) ∈ gw := gw_t4 (List.mem_of_getElem? (i := 228) rfl) rfl
theorem wq369 : Cond.methodLink RX1 51 yX1_kindOf ∈ gw := gw_t4 (List.mem_of_getElem? (i := 229) rfl) rfl
theorem wq370 : Cond.instanceMethod yX1_kindOf ∈ gw := gw_t3 (List.mem_of_getElem? (i := 172) rfl) rfl
theorem wq371 : Cond.selects RX1 yX1_kindOf yX1_kindOf ∈ gw := gw_t3 (List.mem_of_getElem? (i := 173) rfl) rfl
theorem wq372 : Cond.code yX1_kindOf cX1_kindOf 4 (some .int) ∈ gw := gw_t3 (List.mem_of_getElem? (i := 174) rfl) rfl
theorem wq373 : Cond.methodLink RX1 33 yX4_get ∈ gw := gw_t3 (List.mem_of_getElem? (i := 175) rfl) rfl
theorem wq374 : Cond.methodLink RX1 54 yX1_leafOf ∈ gw := gw_t4 (List.mem_of_getElem? (i := 230) rfl) rfl
theorem wq375 : Cond.instanceMethod yX1_leafOf ∈ gw := gw_t3 (List.mem_of_getElem? (i := 202) rfl) rfl
theorem wq376 : Cond.selects RX1 yX1_leafOf yX1_leafOf ∈ gw := gw_t3 (List.mem_of_getElem? (i := 203) rfl) rfl
theorem wq377 : Cond.code yX1_leafOf cX1_leafOf 4 (some .int) ∈ gw := gw_t3 (List.mem_of_getElem? (i := 204) rfl) rfl
theorem wq378 : Cond.methodLink RX1 57 yX1_branchOf ∈ gw := gw_t4 (List.mem_of_getElem? (i := 231) rfl) rfl
theorem wq379 : Cond.instanceMethod yX1_branchOf ∈ gw := gw_t3 (List.mem_of_getElem? (i := 206) rfl) rfl
theorem wq380 : Cond.selects RX1 yX1_branchOf yX1_branchOf ∈ gw := gw_t3 (List.mem_of_getElem? (i := 207) rfl) rfl
theorem wq381 : Cond.code yX1_branchOf cX1_branchOf 3 (some .int) ∈ gw := gw_t3 (List.mem_of_getElem? (i := 208) rfl) rfl
theorem wq382 : Cond.methodLink RL 167 yX7_ifLoosened ∈ gw := gw_t4 (List.mem_of_getElem? (i := 232) rfl) rfl
theorem wq383 : Cond.instanceMethod yX7_ifLoosened ∈ gw := gw_t4 (List.mem_of_getElem? (i := 233) rfl) rfl
theorem wq384 : Cond.selects RX7 yX7_ifLoosened yX7_ifLoosened ∈ gw := gw_t4 (List.mem_of_getElem? (i := 234) rfl) rfl
theorem wq385 : Cond.code yX7_ifLoosened cX7_ifLoosened 3 (some .int) ∈ gw := gw_t4 (List.mem_of_getElem? (i := 235) rfl) rfl
theorem wq386 : Cond.methodLink RX7 287 yX6_freedBy ∈ gw := gw_t4 (List.mem_of_getElem? (i := 236) rfl) rfl
theorem wq387 : Cond.instanceMethod yX6_freedBy ∈ gw := gw_t4 (List.mem_of_getElem? (i := 237) rfl) rfl
theorem wq388 : Cond.selects RX6 yX6_freedBy yX6_freedBy ∈ gw := gw_t4 (List.mem_of_getElem? (i := 238) rfl) rfl
theorem wq389 : Cond.code yX6_freedBy cX6_freedBy 5 (some .int) ∈ gw := gw_t4 (List.mem_of_getElem? (i := 239) rfl) rfl
theorem wq390 : Cond.methodLink RX6 137 yX1_leafOf ∈ gw := gw_t3 (List.mem_of_getElem? (i := 201) rfl) rfl
theorem wq391 : Cond.methodLink RX6 130 yX1_kindOf ∈ gw := gw_t3 (List.mem_of_getElem? (i := 171) rfl) rfl
theorem wq392 : Cond.methodLink RL 170 yX7_heap ∈ gw := gw_t5 (List.mem_of_getElem? (i := 0) rfl) rfl
theorem wq393 : Cond.instanceMethod yX7_heap ∈ gw := gw_t5 (List.mem_of_getElem? (i := 1) rfl) rfl
theorem wq394 : Cond.selects RX7 yX7_heap yX7_heap ∈ gw := gw_t5 (List.mem_of_getElem? (i := 2) rfl) rfl
theorem wq395 : Cond.code yX7_heap cX7_heap 3 (some .int) ∈ gw := gw_t5 (List.mem_of_getElem? (i := 3) rfl) rfl
theorem wq396 : Cond.methodLink RX7 267 yX0_leafOnHeap ∈ gw := gw_t5 (List.mem_of_getElem? (i := 5) rfl) rfl
theorem wq397 : Cond.instanceMethod yX0_leafOnHeap ∈ gw := gw_t3 (List.mem_of_getElem? (i := 122) rfl) rfl
theorem wq398 : Cond.selects RX0 yX0_leafOnHeap yX0_leafOnHeap ∈ gw := gw_t3 (List.mem_of_getElem? (i := 123) rfl) rfl
theorem wq399 : Cond.code yX0_leafOnHeap cX0_leafOnHeap 4 (some .int) ∈ gw := gw_t3 (List.mem_of_getElem? (i := 124) rfl) rfl
theorem wq400 : Cond.methodLink RL 172 yX7_ifRested ∈ gw := gw_t5 (List.mem_of_getElem? (i := 6) rfl) rfl
theorem wq401 : Cond.instanceMethod yX7_ifRested ∈ gw := gw_t5 (List.mem_of_getElem? (i := 7) rfl) rfl
theorem wq402 : Cond.selects RX7 yX7_ifRested yX7_ifRested ∈ gw := gw_t5 (List.mem_of_getElem? (i := 8) rfl) rfl
theorem wq403 : Cond.code yX7_ifRested cX7_ifRested 2 (some .int) ∈ gw := gw_t5 (List.mem_of_getElem? (i := 9) rfl) rfl
theorem wq404 : Cond.methodLink RX7 293 yX6_burnableIfRested ∈ gw := gw_t5 (List.mem_of_getElem? (i := 10) rfl) rfl
theorem wq405 : Cond.instanceMethod yX6_burnableIfRested ∈ gw := gw_t5 (List.mem_of_getElem? (i := 11) rfl) rfl
theorem wq406 : Cond.selects RX6 yX6_burnableIfRested yX6_burnableIfRested ∈ gw := gw_t5 (List.mem_of_getElem? (i := 12) rfl) rfl
theorem wq407 : Cond.code yX6_burnableIfRested cX6_burnableIfRested 4 (some .int) ∈ gw := gw_t5 (List.mem_of_getElem? (i := 13) rfl) rfl
theorem wq408 : Cond.methodLink RX6 219 yX6_burnable ∈ gw := gw_t5 (List.mem_of_getElem? (i := 14) rfl) rfl
theorem wq409 : Cond.instanceMethod yX6_burnable ∈ gw := gw_t5 (List.mem_of_getElem? (i := 15) rfl) rfl
theorem wq410 : Cond.selects RX6 yX6_burnable yX6_burnable ∈ gw := gw_t5 (List.mem_of_getElem? (i := 16) rfl) rfl
theorem wq411 : Cond.code yX6_burnable cX6_burnable 7 (some .int) ∈ gw := gw_t5 (List.mem_of_getElem? (i := 17) rfl) rfl
theorem wq412 : Cond.methodLink RX6 88 yX0_leafOnHeap ∈ gw := gw_t3 (List.mem_of_getElem? (i := 121) rfl) rfl
theorem wq413 : Cond.methodLink RL 181 yX7_ifRaked ∈ gw := gw_t5 (List.mem_of_getElem? (i := 18) rfl) rfl
theorem wq414 : Cond.instanceMethod yX7_ifRaked ∈ gw := gw_t5 (List.mem_of_getElem? (i := 19) rfl) rfl
theorem wq415 : Cond.selects RX7 yX7_ifRaked yX7_ifRaked ∈ gw := gw_t5 (List.mem_of_getElem? (i := 20) rfl) rfl
theorem wq416 : Cond.code yX7_ifRaked cX7_ifRaked 3 (some .int) ∈ gw := gw_t5 (List.mem_of_getElem? (i := 21) rfl) rfl
theorem wq417 : Cond.methodLink RX7 281 yX6_burnable ∈ gw := gw_t5 (List.mem_of_getElem? (i := 23) rfl) rfl
theorem wq418 : Cond.methodLink RL 184 yL_burns ∈ gw := gw_t5 (List.mem_of_getElem? (i := 24) rfl) rfl
theorem wq419 : Cond.static yL_burns ∈ gw := gw_t5 (List.mem_of_getElem? (i := 25) rfl) rfl
theorem wq420 : Cond.code yL_burns cL_burns 8 (some .int) ∈ gw := gw_t5 (List.mem_of_getElem? (i := 26) rfl) rfl
theorem wq421 : Cond.methodLink RL 94 yL_heap ∈ gw := gw_t3 (List.mem_of_getElem? (i := 142) rfl) rfl
theorem wq422 : Cond.static yL_heap ∈ gw := gw_t3 (List.mem_of_getElem? (i := 143) rfl) rfl
theorem wq423 : Cond.code yL_heap cL_heap 6 (some .int) ∈ gw := gw_t3 (List.mem_of_getElem? (i := 144) rfl) rfl
theorem wq424 : Cond.methodLink RL 188 yX7_bestRake ∈ gw := gw_t5 (List.mem_of_getElem? (i := 27) rfl) rfl
theorem wq425 : Cond.instanceMethod yX7_bestRake ∈ gw := gw_t5 (List.mem_of_getElem? (i := 28) rfl) rfl
theorem wq426 : Cond.selects RX7 yX7_bestRake yX7_bestRake ∈ gw := gw_t5 (List.mem_of_getElem? (i := 29) rfl) rfl
theorem wq427 : Cond.code yX7_bestRake cX7_bestRake 1 (some .int) ∈ gw := gw_t5 (List.mem_of_getElem? (i := 30) rfl) rfl
theorem wq428 : Cond.methodLink RX7 284 yX6_bestHeap ∈ gw := gw_t5 (List.mem_of_getElem? (i := 31) rfl) rfl
theorem wq429 : Cond.instanceMethod yX6_bestHeap ∈ gw := gw_t5 (List.mem_of_getElem? (i := 32) rfl) rfl
theorem wq430 : Cond.selects RX6 yX6_bestHeap yX6_bestHeap ∈ gw := gw_t5 (List.mem_of_getElem? (i := 33) rfl) rfl
theorem wq431 : Cond.code yX6_bestHeap cX6_bestHeap 6 (some .int) ∈ gw := gw_t5 (List.mem_of_getElem? (i := 34) rfl) rfl
theorem wq432 : Cond.methodLink RL 226 yL_undo ∈ gw := gw_t2 (List.mem_of_getElem? (i := 124) rfl) rfl
theorem wq433 : Cond.static yL_undo ∈ gw := gw_t2 (List.mem_of_getElem? (i := 125) rfl) rfl
theorem wq434 : Cond.codeWith yL_undo cL_undo 3 (some .int) [(0, 5, 8, 15)] ∈ gw := gw_t2 (List.mem_of_getElem? (i := 126) rfl) rfl
theorem wq435 : Cond.classLink RL 15 "java/lang/IllegalStateException" ∈ gw := gw_t2 (List.mem_of_getElem? (i := 127) rfl) rfl
theorem wq436 : Cond.methodLink RL 63 yX7_undo ∈ gw := gw_t2 (List.mem_of_getElem? (i := 128) rfl) rfl
theorem wq437 : Cond.instanceMethod yX7_undo ∈ gw := gw_t2 (List.mem_of_getElem? (i := 129) rfl) rfl
theorem wq438 : Cond.selects RX7 yX7_undo yX7_undo ∈ gw := gw_t2 (List.mem_of_getElem? (i := 130) rfl) rfl
theorem wq439 : Cond.code yX7_undo cX7_undo 1 (some .int) ∈ gw := gw_t2 (List.mem_of_getElem? (i := 131) rfl) rfl
theorem wq440 : Cond.classLink RX7 43 "java/lang/IllegalStateException" ∈ gw := gw_t2 (List.mem_of_getElem? (i := 132) rfl) rfl
theorem wq441 : Cond.initialized "java/lang/IllegalStateException" ∈ gw := gw_t1 (List.mem_of_getElem? (i := 14) rfl) rfl
theorem wq442 : Cond.methodLink RX7 232 yX5_popInto ∈ gw := gw_t2 (List.mem_of_getElem? (i := 148) rfl) rfl
theorem wq443 : Cond.instanceMethod yX5_popInto ∈ gw := gw_t2 (List.mem_of_getElem? (i := 149) rfl) rfl
theorem wq444 : Cond.selects RX5 yX5_popInto yX5_popInto ∈ gw := gw_t2 (List.mem_of_getElem? (i := 150) rfl) rfl
theorem wq445 : Cond.code yX5_popInto cX5_popInto 4 none ∈ gw := gw_t2 (List.mem_of_getElem? (i := 151) rfl) rfl
theorem wq446 : Cond.fieldLink RX5 22 "PinnedLeaves$SavedYards" "next" "I" ∈ gw := gw_t1 (List.mem_of_getElem? (i := 193) rfl) rfl
theorem wq447 : Cond.methodLink RX5 25 yX5_placeAt ∈ gw := gw_t2 (List.mem_of_getElem? (i := 152) rfl) rfl
theorem wq448 : Cond.instanceMethod yX5_placeAt ∈ gw := gw_t2 (List.mem_of_getElem? (i := 154) rfl) rfl
theorem wq449 : Cond.selects RX5 yX5_placeAt yX5_placeAt ∈ gw := gw_p (n := _) (List.mem_of_getElem? (i := 2) rfl)
theorem wq450 : Cond.code yX5_placeAt cX5_placeAt 2 (some (.object "PinnedLeaves$Yard")) ∈ gw := gw_t2 (List.mem_of_getElem? (i := 155) rfl) rfl
theorem wq451 : Cond.methodLink RX5 29 yX6_copyFrom ∈ gw := gw_t2 (List.mem_of_getElem? (i := 156) rfl) rfl
theorem wq452 : Cond.instanceMethod yX6_copyFrom ∈ gw := gw_t2 (List.mem_of_getElem? (i := 157) rfl) rfl
theorem wq453 : Cond.selects RX6 yX6_copyFrom yX6_copyFrom ∈ gw := gw_t2 (List.mem_of_getElem? (i := 158) rfl) rfl
theorem wq454 : Cond.code yX6_copyFrom cX6_copyFrom 2 none ∈ gw := gw_t2 (List.mem_of_getElem? (i := 159) rfl) rfl
theorem wq455 : Cond.methodLink RX6 57 yX2_copyFrom ∈ gw := gw_t2 (List.mem_of_getElem? (i := 160) rfl) rfl
theorem wq456 : Cond.instanceMethod yX2_copyFrom ∈ gw := gw_t2 (List.mem_of_getElem? (i := 161) rfl) rfl
theorem wq457 : Cond.selects RX2 yX2_copyFrom yX2_copyFrom ∈ gw := gw_t2 (List.mem_of_getElem? (i := 162) rfl) rfl
theorem wq458 : Cond.code yX2_copyFrom cX2_copyFrom 2 none ∈ gw := gw_t2 (List.mem_of_getElem? (i := 163) rfl) rfl
theorem wq459 : Cond.methodLink RX2 54 yX4_copyFrom ∈ gw := gw_t2 (List.mem_of_getElem? (i := 164) rfl) rfl
theorem wq460 : Cond.instanceMethod yX4_copyFrom ∈ gw := gw_t2 (List.mem_of_getElem? (i := 165) rfl) rfl
theorem wq461 : Cond.selects RX4 yX4_copyFrom yX4_copyFrom ∈ gw := gw_t2 (List.mem_of_getElem? (i := 166) rfl) rfl
theorem wq462 : Cond.code yX4_copyFrom cX4_copyFrom 2 none ∈ gw := gw_t2 (List.mem_of_getElem? (i := 167) rfl) rfl
theorem wq463 : Cond.methodLink RX4 23 Lib.Math.min.name ∈ gw := gw_t2 (List.mem_of_getElem? (i := 168) rfl) rfl
theorem wq464 : Cond.static Lib.Math.min.name ∈ gw := gw_t2 (List.mem_of_getElem? (i := 169) rfl) rfl
theorem wq465 : Cond.initialized "java/lang/Math" ∈ gw := gw_t1 (List.mem_of_getElem? (i := 15) rfl) rfl
theorem wq466 : Cond.code Lib.Math.min.name Lib.Math.min.code 2 (some .int) ∈ gw := gw_t2 (List.mem_of_getElem? (i := 170) rfl) rfl
theorem wq467 : Cond.methodLink RX4 29 arraycopyName ∈ gw := gw_t2 (List.mem_of_getElem? (i := 171) rfl) rfl
theorem wq468 : Cond.native arraycopyName ∈ gw := gw_t2 (List.mem_of_getElem? (i := 173) rfl) rfl
theorem wq469 : Cond.static arraycopyName ∈ gw := gw_t2 (List.mem_of_getElem? (i := 172) rfl) rfl
theorem wq470 : Cond.initialized "java/lang/System" ∈ gw := gw_t1 (List.mem_of_getElem? (i := 16) rfl) rfl
theorem wq471 : Cond.methodLink RX6 61 yX0_copyFrom ∈ gw := gw_t2 (List.mem_of_getElem? (i := 174) rfl) rfl
theorem wq472 : Cond.instanceMethod yX0_copyFrom ∈ gw := gw_t2 (List.mem_of_getElem? (i := 175) rfl) rfl
theorem wq473 : Cond.selects RX0 yX0_copyFrom yX0_copyFrom ∈ gw := gw_t2 (List.mem_of_getElem? (i := 176) rfl) rfl
theorem wq474 : Cond.code yX0_copyFrom cX0_copyFrom 2 none ∈ gw := gw_t2 (List.mem_of_getElem? (i := 177) rfl) rfl
theorem wq475 : Cond.methodLink RX0 63 yX4_copyFrom ∈ gw := gw_t2 (List.mem_of_getElem? (i := 178) rfl) rfl
theorem wq476 : Cond.methodLink RX6 64 yX1_copyFrom ∈ gw := gw_t2 (List.mem_of_getElem? (i := 179) rfl) rfl
theorem wq477 : Cond.instanceMethod yX1_copyFrom ∈ gw := gw_t2 (List.mem_of_getElem? (i := 180) rfl) rfl
theorem wq478 : Cond.selects RX1 yX1_copyFrom yX1_copyFrom ∈ gw := gw_t2 (List.mem_of_getElem? (i := 181) rfl) rfl
theorem wq479 : Cond.code yX1_copyFrom cX1_copyFrom 2 none ∈ gw := gw_t2 (List.mem_of_getElem? (i := 182) rfl) rfl
theorem wq480 : Cond.methodLink RX1 60 yX4_copyFrom ∈ gw := gw_t2 (List.mem_of_getElem? (i := 183) rfl) rfl
theorem wq481 : Cond.methodLink RL 228 yL_cell ∈ gw := gw_t2 (List.mem_of_getElem? (i := 116) rfl) rfl
theorem wq482 : Cond.static yL_cell ∈ gw := gw_t2 (List.mem_of_getElem? (i := 117) rfl) rfl
theorem wq483 : Cond.code yL_cell cL_cell 2 (some .int) ∈ gw := gw_t2 (List.mem_of_getElem? (i := 118) rfl) rfl
theorem wq484 : Cond.constant RL 7 (1640531527) ∈ gw := gw_t2 (List.mem_of_getElem? (i := 119) rfl) rfl
theorem wq485 : Cond.methodLink RL 102 yL_low ∈ gw := gw_t2 (List.mem_of_getElem? (i := 120) rfl) rfl
theorem wq486 : Cond.static yL_low ∈ gw := gw_t2 (List.mem_of_getElem? (i := 121) rfl) rfl
theorem wq487 : Cond.code yL_low cL_low 2 (some .int) ∈ gw := gw_t2 (List.mem_of_getElem? (i := 122) rfl) rfl
theorem wq488 : Cond.constant RL 8 (2147483647) ∈ gw := gw_t2 (List.mem_of_getElem? (i := 123) rfl) rfl
theorem wq489 : Cond.methodLink RL 232 yL_goes ∈ gw := gw_t2 (List.mem_of_getElem? (i := 187) rfl) rfl
theorem wq490 : Cond.static yL_goes ∈ gw := gw_t2 (List.mem_of_getElem? (i := 188) rfl) rfl
theorem wq491 : Cond.code yL_goes cL_goes 17 (some .boolean) ∈ gw := gw_t2 (List.mem_of_getElem? (i := 189) rfl) rfl
theorem wq492 : Cond.methodLink RL 105 yL_enter ∈ gw := gw_t2 (List.mem_of_getElem? (i := 190) rfl) rfl
theorem wq493 : Cond.static yL_enter ∈ gw := gw_t2 (List.mem_of_getElem? (i := 191) rfl) rfl
theorem wq494 : Cond.codeWith yL_enter cL_enter 4 (some .int) [(0, 6, 9, 21), (0, 6, 13, 15)] ∈ gw := gw_t2 (List.mem_of_getElem? (i := 192) rfl) rfl
theorem wq495 : Cond.methodLink RL 23 yX7_enter ∈ gw := gw_t2 (List.mem_of_getElem? (i := 194) rfl) rfl
theorem wq496 : Cond.instanceMethod yX7_enter ∈ gw := gw_t2 (List.mem_of_getElem? (i := 195) rfl) rfl
theorem wq497 : Cond.selects RX7 yX7_enter yX7_enter ∈ gw := gw_t2 (List.mem_of_getElem? (i := 196) rfl) rfl
theorem wq498 : Cond.code yX7_enter cX7_enter 2 (some .int) ∈ gw := gw_t2 (List.mem_of_getElem? (i := 197) rfl) rfl
theorem wq499 : Cond.methodLink RX7 70 yX6_mayGoIn ∈ gw := gw_t2 (List.mem_of_getElem? (i := 219) rfl) rfl
theorem wq500 : Cond.instanceMethod yX6_mayGoIn ∈ gw := gw_t2 (List.mem_of_getElem? (i := 220) rfl) rfl
theorem wq501 : Cond.selects RX6 yX6_mayGoIn yX6_mayGoIn ∈ gw := gw_t2 (List.mem_of_getElem? (i := 221) rfl) rfl
theorem wq502 : Cond.code yX6_mayGoIn cX6_mayGoIn 2 (some .boolean) ∈ gw := gw_t2 (List.mem_of_getElem? (i := 222) rfl) rfl
theorem wq503 : Cond.methodLink RX6 108 yX0_isHere ∈ gw := gw_t2 (List.mem_of_getElem? (i := 223) rfl) rfl
theorem wq504 : Cond.methodLink RX7 50 yX5_push ∈ gw := gw_t2 (List.mem_of_getElem? (i := 229) rfl) rfl
theorem wq505 : Cond.instanceMethod yX5_push ∈ gw := gw_t2 (List.mem_of_getElem? (i := 230) rfl) rfl
theorem wq506 : Cond.selects RX5 yX5_push yX5_push ∈ gw := gw_t2 (List.mem_of_getElem? (i := 231) rfl) rfl
theorem wq507 : Cond.code yX5_push cX5_push 3 none ∈ gw := gw_t2 (List.mem_of_getElem? (i := 232) rfl) rfl
theorem wq508 : Cond.methodLink RX5 33 Lib.Math.min.name ∈ gw := gw_t2 (List.mem_of_getElem? (i := 233) rfl) rfl
theorem wq509 : Cond.methodLink RX7 76 yX6_goIn ∈ gw := gw_t2 (List.mem_of_getElem? (i := 234) rfl) rfl
theorem wq510 : Cond.instanceMethod yX6_goIn ∈ gw := gw_t2 (List.mem_of_getElem? (i := 235) rfl) rfl
theorem wq511 : Cond.selects RX6 yX6_goIn yX6_goIn ∈ gw := gw_t2 (List.mem_of_getElem? (i := 236) rfl) rfl
theorem wq512 : Cond.code yX6_goIn cX6_goIn 2 (some .int) ∈ gw := gw_t2 (List.mem_of_getElem? (i := 237) rfl) rfl
theorem wq513 : Cond.methodLink RX6 99 yX4_put ∈ gw := gw_t2 (List.mem_of_getElem? (i := 238) rfl) rfl
theorem wq514 : Cond.methodLink RL 112 yL_rest ∈ gw := gw_t2 (List.mem_of_getElem? (i := 239) rfl) rfl
theorem wq515 : Cond.static yL_rest ∈ gw := gw_t3 (List.mem_of_getElem? (i := 0) rfl) rfl
theorem wq516 : Cond.codeWith yL_rest cL_rest 4 (some .int) [(0, 6, 9, 21), (0, 6, 13, 15)] ∈ gw := gw_t3 (List.mem_of_getElem? (i := 1) rfl) rfl
theorem wq517 : Cond.methodLink RL 26 yX7_rest ∈ gw := gw_t3 (List.mem_of_getElem? (i := 2) rfl) rfl
theorem wq518 : Cond.instanceMethod yX7_rest ∈ gw := gw_t3 (List.mem_of_getElem? (i := 3) rfl) rfl
theorem wq519 : Cond.selects RX7 yX7_rest yX7_rest ∈ gw := gw_t3 (List.mem_of_getElem? (i := 4) rfl) rfl
theorem wq520 : Cond.code yX7_rest cX7_rest 2 (some .int) ∈ gw := gw_t3 (List.mem_of_getElem? (i := 5) rfl) rfl
theorem wq521 : Cond.methodLink RX7 79 yX6_mayLieDown ∈ gw := gw_t3 (List.mem_of_getElem? (i := 6) rfl) rfl
theorem wq522 : Cond.instanceMethod yX6_mayLieDown ∈ gw := gw_t3 (List.mem_of_getElem? (i := 7) rfl) rfl
theorem wq523 : Cond.selects RX6 yX6_mayLieDown yX6_mayLieDown ∈ gw := gw_t3 (List.mem_of_getElem? (i := 8) rfl) rfl
theorem wq524 : Cond.code yX6_mayLieDown cX6_mayLieDown 2 (some .boolean) ∈ gw := gw_t3 (List.mem_of_getElem? (i := 9) rfl) rfl
theorem wq525 : Cond.methodLink RX7 84 yX6_lieDown ∈ gw := gw_t3 (List.mem_of_getElem? (i := 11) rfl) rfl
theorem wq526 : Cond.instanceMethod yX6_lieDown ∈ gw := gw_t3 (List.mem_of_getElem? (i := 12) rfl) rfl
theorem wq527 : Cond.selects RX6 yX6_lieDown yX6_lieDown ∈ gw := gw_t3 (List.mem_of_getElem? (i := 13) rfl) rfl
theorem wq528 : Cond.code yX6_lieDown cX6_lieDown 3 (some .int) ∈ gw := gw_t3 (List.mem_of_getElem? (i := 14) rfl) rfl
theorem wq529 : Cond.methodLink RX6 105 yX1_releaseAll ∈ gw := gw_t3 (List.mem_of_getElem? (i := 22) rfl) rfl
theorem wq530 : Cond.instanceMethod yX1_releaseAll ∈ gw := gw_t3 (List.mem_of_getElem? (i := 23) rfl) rfl
theorem wq531 : Cond.selects RX1 yX1_releaseAll yX1_releaseAll ∈ gw := gw_t3 (List.mem_of_getElem? (i := 24) rfl) rfl
theorem wq532 : Cond.code yX1_releaseAll cX1_releaseAll 3 none ∈ gw := gw_t3 (List.mem_of_getElem? (i := 25) rfl) rfl
theorem wq533 : Cond.methodLink RX1 40 yX1_release ∈ gw := gw_t3 (List.mem_of_getElem? (i := 26) rfl) rfl
theorem wq534 : Cond.instanceMethod yX1_release ∈ gw := gw_t3 (List.mem_of_getElem? (i := 27) rfl) rfl
theorem wq535 : Cond.selects RX1 yX1_release yX1_release ∈ gw := gw_t3 (List.mem_of_getElem? (i := 28) rfl) rfl
theorem wq536 : Cond.code yX1_release cX1_release 4 none ∈ gw := gw_t3 (List.mem_of_getElem? (i := 29) rfl) rfl
theorem wq537 : Cond.methodLink RX1 36 yX4_put ∈ gw := gw_t3 (List.mem_of_getElem? (i := 30) rfl) rfl
theorem wq538 : Cond.methodLink RL 118 yL_ring ∈ gw := gw_t3 (List.mem_of_getElem? (i := 34) rfl) rfl
theorem wq539 : Cond.static yL_ring ∈ gw := gw_t3 (List.mem_of_getElem? (i := 35) rfl) rfl
theorem wq540 : Cond.codeWith yL_ring cL_ring 3 (some .int) [(0, 5, 8, 15)] ∈ gw := gw_t3 (List.mem_of_getElem? (i := 36) rfl) rfl
theorem wq541 : Cond.methodLink RL 29 yX7_ring ∈ gw := gw_t3 (List.mem_of_getElem? (i := 37) rfl) rfl
theorem wq542 : Cond.instanceMethod yX7_ring ∈ gw := gw_t3 (List.mem_of_getElem? (i := 38) rfl) rfl
theorem wq543 : Cond.selects RX7 yX7_ring yX7_ring ∈ gw := gw_t3 (List.mem_of_getElem? (i := 39) rfl) rfl
theorem wq544 : Cond.code yX7_ring cX7_ring 1 (some .int) ∈ gw := gw_t3 (List.mem_of_getElem? (i := 40) rfl) rfl
theorem wq545 : Cond.methodLink RX7 87 yX6_mayStrike ∈ gw := gw_t3 (List.mem_of_getElem? (i := 41) rfl) rfl
theorem wq546 : Cond.instanceMethod yX6_mayStrike ∈ gw := gw_t3 (List.mem_of_getElem? (i := 42) rfl) rfl
theorem wq547 : Cond.selects RX6 yX6_mayStrike yX6_mayStrike ∈ gw := gw_t3 (List.mem_of_getElem? (i := 43) rfl) rfl
theorem wq548 : Cond.code yX6_mayStrike cX6_mayStrike 1 (some .boolean) ∈ gw := gw_t3 (List.mem_of_getElem? (i := 44) rfl) rfl
theorem wq549 : Cond.methodLink RX6 121 yX0_maskOfLate ∈ gw := gw_t3 (List.mem_of_getElem? (i := 45) rfl) rfl
theorem wq550 : Cond.methodLink RX7 93 yX6_strike ∈ gw := gw_t3 (List.mem_of_getElem? (i := 51) rfl) rfl
theorem wq551 : Cond.instanceMethod yX6_strike ∈ gw := gw_t3 (List.mem_of_getElem? (i := 52) rfl) rfl
theorem wq552 : Cond.selects RX6 yX6_strike yX6_strike ∈ gw := gw_t3 (List.mem_of_getElem? (i := 53) rfl) rfl
theorem wq553 : Cond.code yX6_strike cX6_strike 1 (some .int) ∈ gw := gw_t3 (List.mem_of_getElem? (i := 54) rfl) rfl
theorem wq554 : Cond.methodLink RL 121 yL_come ∈ gw := gw_t3 (List.mem_of_getElem? (i := 55) rfl) rfl
theorem wq555 : Cond.static yL_come ∈ gw := gw_t3 (List.mem_of_getElem? (i := 56) rfl) rfl
theorem wq556 : Cond.codeWith yL_come cL_come 3 (some .int) [(0, 5, 8, 15)] ∈ gw := gw_t3 (List.mem_of_getElem? (i := 57) rfl) rfl
theorem wq557 : Cond.methodLink RL 9 yX7_come ∈ gw := gw_t3 (List.mem_of_getElem? (i := 58) rfl) rfl
theorem wq558 : Cond.instanceMethod yX7_come ∈ gw := gw_t3 (List.mem_of_getElem? (i := 59) rfl) rfl
theorem wq559 : Cond.selects RX7 yX7_come yX7_come ∈ gw := gw_t3 (List.mem_of_getElem? (i := 60) rfl) rfl
theorem wq560 : Cond.code yX7_come cX7_come 1 (some .int) ∈ gw := gw_t3 (List.mem_of_getElem? (i := 61) rfl) rfl
theorem wq561 : Cond.methodLink RX7 37 yX0_lowestFree ∈ gw := gw_t3 (List.mem_of_getElem? (i := 62) rfl) rfl
theorem wq562 : Cond.instanceMethod yX0_lowestFree ∈ gw := gw_t3 (List.mem_of_getElem? (i := 63) rfl) rfl
theorem wq563 : Cond.selects RX0 yX0_lowestFree yX0_lowestFree ∈ gw := gw_t3 (List.mem_of_getElem? (i := 64) rfl) rfl
theorem wq564 : Cond.code yX0_lowestFree cX0_lowestFree 2 (some .int) ∈ gw := gw_t3 (List.mem_of_getElem? (i := 65) rfl) rfl
theorem wq565 : Cond.methodLink RX7 54 yX6_addChild ∈ gw := gw_t3 (List.mem_of_getElem? (i := 67) rfl) rfl
theorem wq566 : Cond.instanceMethod yX6_addChild ∈ gw := gw_t3 (List.mem_of_getElem? (i := 68) rfl) rfl
theorem wq567 : Cond.selects RX6 yX6_addChild yX6_addChild ∈ gw := gw_t3 (List.mem_of_getElem? (i := 69) rfl) rfl
theorem wq568 : Cond.code yX6_addChild cX6_addChild 2 (some .int) ∈ gw := gw_t3 (List.mem_of_getElem? (i := 70) rfl) rfl
theorem wq569 : Cond.methodLink RX6 67 yX0_lowestFree ∈ gw := gw_t3 (List.mem_of_getElem? (i := 71) rfl) rfl
theorem wq570 : Cond.methodLink RX6 71 yX0_fillPlace ∈ gw := gw_t3 (List.mem_of_getElem? (i := 72) rfl) rfl
theorem wq571 : Cond.instanceMethod yX0_fillPlace ∈ gw := gw_t3 (List.mem_of_getElem? (i := 73) rfl) rfl
theorem wq572 : Cond.selects RX0 yX0_fillPlace yX0_fillPlace ∈ gw := gw_t3 (List.mem_of_getElem? (i := 74) rfl) rfl
theorem wq573 : Cond.code yX0_fillPlace cX0_fillPlace 2 none ∈ gw := gw_t3 (List.mem_of_getElem? (i := 75) rfl) rfl
theorem wq574 : Cond.methodLink RL 123 yL_set ∈ gw := gw_t3 (List.mem_of_getElem? (i := 76) rfl) rfl
theorem wq575 : Cond.static yL_set ∈ gw := gw_t3 (List.mem_of_getElem? (i := 77) rfl) rfl
theorem wq576 : Cond.codeWith yL_set cL_set 5 (some .int) [(0, 7, 10, 21), (0, 7, 15, 36)] ∈ gw := gw_t3 (List.mem_of_getElem? (i := 78) rfl) rfl
theorem wq577 : Cond.methodLink RL 60 yX7_set ∈ gw := gw_t3 (List.mem_of_getElem? (i := 80) rfl) rfl
theorem wq578 : Cond.instanceMethod yX7_set ∈ gw := gw_t3 (List.mem_of_getElem? (i := 81) rfl) rfl
theorem wq579 : Cond.selects RX7 yX7_set yX7_set ∈ gw := gw_t3 (List.mem_of_getElem? (i := 82) rfl) rfl
theorem wq580 : Cond.code yX7_set cX7_set 3 (some .int) ∈ gw := gw_t3 (List.mem_of_getElem? (i := 83) rfl) rfl
theorem wq581 : Cond.methodLink RX7 178 yX7_isValueOf ∈ gw := gw_t3 (List.mem_of_getElem? (i := 88) rfl) rfl
theorem wq582 : Cond.static yX7_isValueOf ∈ gw := gw_t3 (List.mem_of_getElem? (i := 89) rfl) rfl
theorem wq583 : Cond.code yX7_isValueOf cX7_isValueOf 2 (some .boolean) ∈ gw := gw_t3 (List.mem_of_getElem? (i := 90) rfl) rfl
theorem wq584 : Cond.methodLink RX7 186 yX6_change ∈ gw := gw_t3 (List.mem_of_getElem? (i := 92) rfl) rfl
theorem wq585 : Cond.instanceMethod yX6_change ∈ gw := gw_t3 (List.mem_of_getElem? (i := 93) rfl) rfl
theorem wq586 : Cond.selects RX6 yX6_change yX6_change ∈ gw := gw_t3 (List.mem_of_getElem? (i := 94) rfl) rfl
theorem wq587 : Cond.code yX6_change cX6_change 4 (some .int) ∈ gw := gw_t3 (List.mem_of_getElem? (i := 95) rfl) rfl
theorem wq588 : Cond.methodLink RX6 204 yX6_valueOf ∈ gw := gw_t3 (List.mem_of_getElem? (i := 96) rfl) rfl
theorem wq589 : Cond.methodLink RL 126 yL_leave ∈ gw := gw_t3 (List.mem_of_getElem? (i := 103) rfl) rfl
theorem wq590 : Cond.static yL_leave ∈ gw := gw_t3 (List.mem_of_getElem? (i := 104) rfl) rfl
theorem wq591 : Cond.codeWith yL_leave cL_leave 4 (some .int) [(0, 6, 9, 21), (0, 6, 13, 15)] ∈ gw := gw_t3 (List.mem_of_getElem? (i := 105) rfl) rfl
theorem wq592 : Cond.methodLink RL 17 yX7_leave ∈ gw := gw_t3 (List.mem_of_getElem? (i := 106) rfl) rfl
theorem wq593 : Cond.instanceMethod yX7_leave ∈ gw := gw_t3 (List.mem_of_getElem? (i := 107) rfl) rfl
theorem wq594 : Cond.selects RX7 yX7_leave yX7_leave ∈ gw := gw_t3 (List.mem_of_getElem? (i := 108) rfl) rfl
theorem wq595 : Cond.code yX7_leave cX7_leave 2 (some .int) ∈ gw := gw_t3 (List.mem_of_getElem? (i := 109) rfl) rfl
theorem wq596 : Cond.methodLink RX7 66 yX6_removeChild ∈ gw := gw_t3 (List.mem_of_getElem? (i := 112) rfl) rfl
theorem wq597 : Cond.instanceMethod yX6_removeChild ∈ gw := gw_t3 (List.mem_of_getElem? (i := 113) rfl) rfl
theorem wq598 : Cond.selects RX6 yX6_removeChild yX6_removeChild ∈ gw := gw_t3 (List.mem_of_getElem? (i := 114) rfl) rfl
theorem wq599 : Cond.code yX6_removeChild cX6_removeChild 6 (some .int) ∈ gw := gw_t3 (List.mem_of_getElem? (i := 115) rfl) rfl
theorem wq600 : Cond.methodLink RX6 85 yX0_lowestBesides ∈ gw := gw_t3 (List.mem_of_getElem? (i := 117) rfl) rfl
theorem wq601 : Cond.instanceMethod yX0_lowestBesides ∈ gw := gw_t3 (List.mem_of_getElem? (i := 118) rfl) rfl
theorem wq602 : Cond.selects RX0 yX0_lowestBesides yX0_lowestBesides ∈ gw := gw_t3 (List.mem_of_getElem? (i := 119) rfl) rfl
theorem wq603 : Cond.code yX0_lowestBesides cX0_lowestBesides 3 (some .int) ∈ gw := gw_t3 (List.mem_of_getElem? (i := 120) rfl) rfl
theorem wq604 : Cond.methodLink RX6 92 yX0_putOnHeap ∈ gw := gw_t3 (List.mem_of_getElem? (i := 125) rfl) rfl
theorem wq605 : Cond.instanceMethod yX0_putOnHeap ∈ gw := gw_t3 (List.mem_of_getElem? (i := 126) rfl) rfl
theorem wq606 : Cond.selects RX0 yX0_putOnHeap yX0_putOnHeap ∈ gw := gw_t3 (List.mem_of_getElem? (i := 127) rfl) rfl
theorem wq607 : Cond.code yX0_putOnHeap cX0_putOnHeap 3 none ∈ gw := gw_t3 (List.mem_of_getElem? (i := 128) rfl) rfl
theorem wq608 : Cond.methodLink RX0 60 yX4_add ∈ gw := gw_t3 (List.mem_of_getElem? (i := 129) rfl) rfl
theorem wq609 : Cond.instanceMethod yX4_add ∈ gw := gw_t3 (List.mem_of_getElem? (i := 130) rfl) rfl
theorem wq610 : Cond.selects RX4 yX4_add yX4_add ∈ gw := gw_t3 (List.mem_of_getElem? (i := 131) rfl) rfl
theorem wq611 : Cond.code yX4_add cX4_add 3 none ∈ gw := gw_t3 (List.mem_of_getElem? (i := 132) rfl) rfl
theorem wq612 : Cond.methodLink RX4 15 yX4_get ∈ gw := gw_t3 (List.mem_of_getElem? (i := 133) rfl) rfl
theorem wq613 : Cond.methodLink RX4 19 yX4_put ∈ gw := gw_t3 (List.mem_of_getElem? (i := 134) rfl) rfl
theorem wq614 : Cond.methodLink RX6 102 yX0_emptyPlace ∈ gw := gw_t3 (List.mem_of_getElem? (i := 135) rfl) rfl
theorem wq615 : Cond.instanceMethod yX0_emptyPlace ∈ gw := gw_t3 (List.mem_of_getElem? (i := 136) rfl) rfl
theorem wq616 : Cond.selects RX0 yX0_emptyPlace yX0_emptyPlace ∈ gw := gw_t3 (List.mem_of_getElem? (i := 137) rfl) rfl
theorem wq617 : Cond.code yX0_emptyPlace cX0_emptyPlace 2 none ∈ gw := gw_t3 (List.mem_of_getElem? (i := 138) rfl) rfl
theorem wq618 : Cond.methodLink RL 86 yL_put ∈ gw := gw_t3 (List.mem_of_getElem? (i := 145) rfl) rfl
theorem wq619 : Cond.static yL_put ∈ gw := gw_t3 (List.mem_of_getElem? (i := 146) rfl) rfl
theorem wq620 : Cond.code yL_put cL_put 3 none ∈ gw := gw_t3 (List.mem_of_getElem? (i := 147) rfl) rfl
theorem wq621 : Cond.methodLink RL 236 yL_hooks ∈ gw := gw_t3 (List.mem_of_getElem? (i := 148) rfl) rfl
theorem wq622 : Cond.static yL_hooks ∈ gw := gw_t3 (List.mem_of_getElem? (i := 149) rfl) rfl
theorem wq623 : Cond.code yL_hooks cL_hooks 17 (some .boolean) ∈ gw := gw_t3 (List.mem_of_getElem? (i := 150) rfl) rfl
theorem wq624 : Cond.methodLink RL 128 yL_note ∈ gw := gw_t3 (List.mem_of_getElem? (i := 151) rfl) rfl
theorem wq625 : Cond.static yL_note ∈ gw := gw_t3 (List.mem_of_getElem? (i := 152) rfl) rfl
theorem wq626 : Cond.codeWith yL_note cL_note 6 (some .int) [(0, 9, 12, 21), (0, 9, 17, 15)] ∈ gw := gw_t3 (List.mem_of_getElem? (i := 153) rfl) rfl
theorem wq627 : Cond.methodLink RL 38 yX7_note ∈ gw := gw_t3 (List.mem_of_getElem? (i := 154) rfl) rfl
theorem wq628 : Cond.instanceMethod yX7_note ∈ gw := gw_t3 (List.mem_of_getElem? (i := 155) rfl) rfl
theorem wq629 : Cond.selects RX7 yX7_note yX7_note ∈ gw := gw_t3 (List.mem_of_getElem? (i := 156) rfl) rfl
theorem wq630 : Cond.code yX7_note cX7_note 4 (some .int) ∈ gw := gw_t3 (List.mem_of_getElem? (i := 157) rfl) rfl
theorem wq631 : Cond.methodLink RX7 121 yX6_mayWrite ∈ gw := gw_t3 (List.mem_of_getElem? (i := 167) rfl) rfl
theorem wq632 : Cond.instanceMethod yX6_mayWrite ∈ gw := gw_t3 (List.mem_of_getElem? (i := 168) rfl) rfl
theorem wq633 : Cond.selects RX6 yX6_mayWrite yX6_mayWrite ∈ gw := gw_t3 (List.mem_of_getElem? (i := 169) rfl) rfl
theorem wq634 : Cond.code yX6_mayWrite cX6_mayWrite 4 (some .boolean) ∈ gw := gw_t3 (List.mem_of_getElem? (i := 170) rfl) rfl
theorem wq635 : Cond.fieldLink RX6 124 "PinnedLeaves$Leaves" "onBranch" "LPinnedLeaves$Row;" ∈ gw := gw_t1 (List.mem_of_getElem? (i := 56) rfl) rfl
theorem wq636 : Cond.methodLink RX7 127 yX6_write ∈ gw := gw_t3 (List.mem_of_getElem? (i := 177) rfl) rfl
theorem wq637 : Cond.instanceMethod yX6_write ∈ gw := gw_t3 (List.mem_of_getElem? (i := 178) rfl) rfl
theorem wq638 : Cond.selects RX6 yX6_write yX6_write ∈ gw := gw_t3 (List.mem_of_getElem? (i := 179) rfl) rfl
theorem wq639 : Cond.code yX6_write cX6_write 5 (some .int) ∈ gw := gw_t3 (List.mem_of_getElem? (i := 180) rfl) rfl
theorem wq640 : Cond.methodLink RX6 133 yX1_write ∈ gw := gw_t3 (List.mem_of_getElem? (i := 181) rfl) rfl
theorem wq641 : Cond.instanceMethod yX1_write ∈ gw := gw_t3 (List.mem_of_getElem? (i := 182) rfl) rfl
theorem wq642 : Cond.selects RX1 yX1_write yX1_write ∈ gw := gw_t3 (List.mem_of_getElem? (i := 183) rfl) rfl
theorem wq643 : Cond.code yX1_write cX1_write 6 none ∈ gw := gw_t3 (List.mem_of_getElem? (i := 184) rfl) rfl
theorem wq644 : Cond.methodLink RL 131 yL_pin ∈ gw := gw_t3 (List.mem_of_getElem? (i := 185) rfl) rfl
theorem wq645 : Cond.static yL_pin ∈ gw := gw_t3 (List.mem_of_getElem? (i := 186) rfl) rfl
theorem wq646 : Cond.codeWith yL_pin cL_pin 5 (some .int) [(0, 7, 10, 21), (0, 7, 15, 15)] ∈ gw := gw_t3 (List.mem_of_getElem? (i := 187) rfl) rfl
theorem wq647 : Cond.methodLink RL 42 yX7_pin ∈ gw := gw_t3 (List.mem_of_getElem? (i := 188) rfl) rfl
theorem wq648 : Cond.instanceMethod yX7_pin ∈ gw := gw_t3 (List.mem_of_getElem? (i := 189) rfl) rfl
theorem wq649 : Cond.selects RX7 yX7_pin yX7_pin ∈ gw := gw_t3 (List.mem_of_getElem? (i := 190) rfl) rfl
theorem wq650 : Cond.code yX7_pin cX7_pin 3 (some .int) ∈ gw := gw_t3 (List.mem_of_getElem? (i := 191) rfl) rfl
theorem wq651 : Cond.methodLink RX7 131 yX6_mayFasten ∈ gw := gw_t3 (List.mem_of_getElem? (i := 192) rfl) rfl
theorem wq652 : Cond.instanceMethod yX6_mayFasten ∈ gw := gw_t3 (List.mem_of_getElem? (i := 193) rfl) rfl
theorem wq653 : Cond.selects RX6 yX6_mayFasten yX6_mayFasten ∈ gw := gw_t3 (List.mem_of_getElem? (i := 194) rfl) rfl
theorem wq654 : Cond.code yX6_mayFasten cX6_mayFasten 3 (some .boolean) ∈ gw := gw_t3 (List.mem_of_getElem? (i := 195) rfl) rfl
theorem wq655 : Cond.methodLink RX7 137 yX6_fasten ∈ gw := gw_t3 (List.mem_of_getElem? (i := 197) rfl) rfl
theorem wq656 : Cond.instanceMethod yX6_fasten ∈ gw := gw_t3 (List.mem_of_getElem? (i := 198) rfl) rfl
theorem wq657 : Cond.selects RX6 yX6_fasten yX6_fasten ∈ gw := gw_t3 (List.mem_of_getElem? (i := 199) rfl) rfl
theorem wq658 : Cond.code yX6_fasten cX6_fasten 4 (some .int) ∈ gw := gw_t3 (List.mem_of_getElem? (i := 200) rfl) rfl
theorem wq659 : Cond.methodLink RX6 140 yX1_branchOf ∈ gw := gw_t3 (List.mem_of_getElem? (i := 205) rfl) rfl
theorem wq660 : Cond.methodLink RX6 143 yX1_fasten ∈ gw := gw_t3 (List.mem_of_getElem? (i := 209) rfl) rfl
theorem wq661 : Cond.instanceMethod yX1_fasten ∈ gw := gw_t3 (List.mem_of_getElem? (i := 210) rfl) rfl
theorem wq662 : Cond.selects RX1 yX1_fasten yX1_fasten ∈ gw := gw_t3 (List.mem_of_getElem? (i := 211) rfl) rfl
theorem wq663 : Cond.code yX1_fasten cX1_fasten 4 none ∈ gw := gw_t3 (List.mem_of_getElem? (i := 212) rfl) rfl
theorem wq664 : Cond.methodLink RX6 146 yX1_release ∈ gw := gw_t3 (List.mem_of_getElem? (i := 213) rfl) rfl
theorem wq665 : Cond.methodLink RL 133 yL_loosen ∈ gw := gw_t3 (List.mem_of_getElem? (i := 214) rfl) rfl
theorem wq666 : Cond.static yL_loosen ∈ gw := gw_t3 (List.mem_of_getElem? (i := 215) rfl) rfl
theorem wq667 : Cond.codeWith yL_loosen cL_loosen 5 (some .int) [(0, 7, 10, 21), (0, 7, 15, 15)] ∈ gw := gw_t3 (List.mem_of_getElem? (i := 216) rfl) rfl
theorem wq668 : Cond.methodLink RL 45 yX7_loosen ∈ gw := gw_t3 (List.mem_of_getElem? (i := 217) rfl) rfl
theorem wq669 : Cond.instanceMethod yX7_loosen ∈ gw := gw_t3 (List.mem_of_getElem? (i := 218) rfl) rfl
theorem wq670 : Cond.selects RX7 yX7_loosen yX7_loosen ∈ gw := gw_t3 (List.mem_of_getElem? (i := 219) rfl) rfl
theorem wq671 : Cond.code yX7_loosen cX7_loosen 3 (some .int) ∈ gw := gw_t3 (List.mem_of_getElem? (i := 220) rfl) rfl
theorem wq672 : Cond.methodLink RX7 140 yX6_mayRelease ∈ gw := gw_t3 (List.mem_of_getElem? (i := 221) rfl) rfl
theorem wq673 : Cond.instanceMethod yX6_mayRelease ∈ gw := gw_t3 (List.mem_of_getElem? (i := 222) rfl) rfl
theorem wq674 : Cond.selects RX6 yX6_mayRelease yX6_mayRelease ∈ gw := gw_t3 (List.mem_of_getElem? (i := 223) rfl) rfl
theorem wq675 : Cond.code yX6_mayRelease cX6_mayRelease 3 (some .boolean) ∈ gw := gw_t3 (List.mem_of_getElem? (i := 224) rfl) rfl
theorem wq676 : Cond.methodLink RX7 145 yX6_release ∈ gw := gw_t3 (List.mem_of_getElem? (i := 226) rfl) rfl
theorem wq677 : Cond.instanceMethod yX6_release ∈ gw := gw_t3 (List.mem_of_getElem? (i := 227) rfl) rfl
theorem wq678 : Cond.selects RX6 yX6_release yX6_release ∈ gw := gw_t3 (List.mem_of_getElem? (i := 228) rfl) rfl
theorem wq679 : Cond.code yX6_release cX6_release 4 (some .int) ∈ gw := gw_t3 (List.mem_of_getElem? (i := 229) rfl) rfl
theorem wq680 : Cond.methodLink RL 135 yL_look ∈ gw := gw_t3 (List.mem_of_getElem? (i := 230) rfl) rfl
theorem wq681 : Cond.static yL_look ∈ gw := gw_t3 (List.mem_of_getElem? (i := 231) rfl) rfl
theorem wq682 : Cond.codeWith yL_look cL_look 5 (some .int) [(0, 7, 10, 21), (0, 7, 15, 15)] ∈ gw := gw_t3 (List.mem_of_getElem? (i := 232) rfl) rfl
theorem wq683 : Cond.methodLink RL 48 yX7_look ∈ gw := gw_t3 (List.mem_of_getElem? (i := 233) rfl) rfl
theorem wq684 : Cond.instanceMethod yX7_look ∈ gw := gw_t3 (List.mem_of_getElem? (i := 234) rfl) rfl
theorem wq685 : Cond.selects RX7 yX7_look yX7_look ∈ gw := gw_t3 (List.mem_of_getElem? (i := 235) rfl) rfl
theorem wq686 : Cond.code yX7_look cX7_look 3 (some .int) ∈ gw := gw_t3 (List.mem_of_getElem? (i := 236) rfl) rfl
theorem wq687 : Cond.methodLink RX7 148 yX6_lookThrough ∈ gw := gw_t3 (List.mem_of_getElem? (i := 237) rfl) rfl
theorem wq688 : Cond.instanceMethod yX6_lookThrough ∈ gw := gw_t3 (List.mem_of_getElem? (i := 238) rfl) rfl
theorem wq689 : Cond.selects RX6 yX6_lookThrough yX6_lookThrough ∈ gw := gw_t3 (List.mem_of_getElem? (i := 239) rfl) rfl
theorem wq690 : Cond.code yX6_lookThrough cX6_lookThrough 4 (some .int) ∈ gw := gw_t4 (List.mem_of_getElem? (i := 0) rfl) rfl
theorem wq691 : Cond.methodLink RL 239 yL_leaves ∈ gw := gw_t4 (List.mem_of_getElem? (i := 1) rfl) rfl
theorem wq692 : Cond.static yL_leaves ∈ gw := gw_t4 (List.mem_of_getElem? (i := 2) rfl) rfl
theorem wq693 : Cond.code yL_leaves cL_leaves 17 (some .boolean) ∈ gw := gw_t4 (List.mem_of_getElem? (i := 3) rfl) rfl
theorem wq694 : Cond.methodLink RL 137 yL_grow ∈ gw := gw_t4 (List.mem_of_getElem? (i := 4) rfl) rfl
theorem wq695 : Cond.static yL_grow ∈ gw := gw_t4 (List.mem_of_getElem? (i := 5) rfl) rfl
theorem wq696 : Cond.codeWith yL_grow cL_grow 5 (some .int) [(0, 7, 10, 21), (0, 7, 15, 36), (0, 7, 20, 15)] ∈ gw := gw_t4 (List.mem_of_getElem? (i := 6) rfl) rfl
theorem wq697 : Cond.methodLink RL 32 yX7_grow ∈ gw := gw_t4 (List.mem_of_getElem? (i := 7) rfl) rfl
theorem wq698 : Cond.instanceMethod yX7_grow ∈ gw := gw_t4 (List.mem_of_getElem? (i := 8) rfl) rfl
theorem wq699 : Cond.selects RX7 yX7_grow yX7_grow ∈ gw := gw_t4 (List.mem_of_getElem? (i := 9) rfl) rfl
theorem wq700 : Cond.code yX7_grow cX7_grow 3 (some .int) ∈ gw := gw_t4 (List.mem_of_getElem? (i := 10) rfl) rfl
theorem wq701 : Cond.methodLink RX7 99 yX7_needColour ∈ gw := gw_t4 (List.mem_of_getElem? (i := 11) rfl) rfl
theorem wq702 : Cond.static yX7_needColour ∈ gw := gw_t4 (List.mem_of_getElem? (i := 12) rfl) rfl
theorem wq703 : Cond.code yX7_needColour cX7_needColour 1 none ∈ gw := gw_t4 (List.mem_of_getElem? (i := 13) rfl) rfl
theorem wq704 : Cond.methodLink RX7 102 yX6_maySprout ∈ gw := gw_t4 (List.mem_of_getElem? (i := 15) rfl) rfl
theorem wq705 : Cond.instanceMethod yX6_maySprout ∈ gw := gw_t4 (List.mem_of_getElem? (i := 16) rfl) rfl
theorem wq706 : Cond.selects RX6 yX6_maySprout yX6_maySprout ∈ gw := gw_t4 (List.mem_of_getElem? (i := 17) rfl) rfl
theorem wq707 : Cond.code yX6_maySprout cX6_maySprout 2 (some .boolean) ∈ gw := gw_t4 (List.mem_of_getElem? (i := 18) rfl) rfl
theorem wq708 : Cond.methodLink RX7 111 yX2_sprout ∈ gw := gw_t4 (List.mem_of_getElem? (i := 20) rfl) rfl
theorem wq709 : Cond.instanceMethod yX2_sprout ∈ gw := gw_t4 (List.mem_of_getElem? (i := 21) rfl) rfl
theorem wq710 : Cond.selects RX2 yX2_sprout yX2_sprout ∈ gw := gw_t4 (List.mem_of_getElem? (i := 22) rfl) rfl
theorem wq711 : Cond.code yX2_sprout cX2_sprout 4 (some .int) ∈ gw := gw_t4 (List.mem_of_getElem? (i := 23) rfl) rfl
theorem wq712 : Cond.methodLink RX2 42 yX4_put ∈ gw := gw_t4 (List.mem_of_getElem? (i := 24) rfl) rfl
theorem wq713 : Cond.methodLink RL 139 yL_grown ∈ gw := gw_t4 (List.mem_of_getElem? (i := 25) rfl) rfl
theorem wq714 : Cond.static yL_grown ∈ gw := gw_t4 (List.mem_of_getElem? (i := 26) rfl) rfl
theorem wq715 : Cond.code yL_grown cL_grown 6 (some .int) ∈ gw := gw_t4 (List.mem_of_getElem? (i := 27) rfl) rfl
theorem wq716 : Cond.methodLink RL 143 yL_take ∈ gw := gw_t4 (List.mem_of_getElem? (i := 28) rfl) rfl
theorem wq717 : Cond.static yL_take ∈ gw := gw_t4 (List.mem_of_getElem? (i := 29) rfl) rfl
theorem wq718 : Cond.codeWith yL_take cL_take 5 (some .int) [(0, 7, 10, 21), (0, 7, 15, 15)] ∈ gw := gw_t4 (List.mem_of_getElem? (i := 30) rfl) rfl
theorem wq719 : Cond.methodLink RL 51 yX7_take ∈ gw := gw_t4 (List.mem_of_getElem? (i := 31) rfl) rfl
theorem wq720 : Cond.instanceMethod yX7_take ∈ gw := gw_t4 (List.mem_of_getElem? (i := 32) rfl) rfl
theorem wq721 : Cond.selects RX7 yX7_take yX7_take ∈ gw := gw_t4 (List.mem_of_getElem? (i := 33) rfl) rfl
theorem wq722 : Cond.code yX7_take cX7_take 3 (some .int) ∈ gw := gw_t4 (List.mem_of_getElem? (i := 34) rfl) rfl
theorem wq723 : Cond.methodLink RX7 151 yX6_mayTakeOff ∈ gw := gw_t4 (List.mem_of_getElem? (i := 35) rfl) rfl
theorem wq724 : Cond.instanceMethod yX6_mayTakeOff ∈ gw := gw_t4 (List.mem_of_getElem? (i := 36) rfl) rfl
theorem wq725 : Cond.selects RX6 yX6_mayTakeOff yX6_mayTakeOff ∈ gw := gw_t4 (List.mem_of_getElem? (i := 37) rfl) rfl
theorem wq726 : Cond.code yX6_mayTakeOff cX6_mayTakeOff 3 (some .boolean) ∈ gw := gw_t4 (List.mem_of_getElem? (i := 38) rfl) rfl
theorem wq727 : Cond.methodLink RX7 156 yX6_takeOff ∈ gw := gw_t4 (List.mem_of_getElem? (i := 40) rfl) rfl
theorem wq728 : Cond.instanceMethod yX6_takeOff ∈ gw := gw_t4 (List.mem_of_getElem? (i := 41) rfl) rfl
theorem wq729 : Cond.selects RX6 yX6_takeOff yX6_takeOff ∈ gw := gw_t4 (List.mem_of_getElem? (i := 42) rfl) rfl
theorem wq730 : Cond.code yX6_takeOff cX6_takeOff 5 (some .int) ∈ gw := gw_t4 (List.mem_of_getElem? (i := 43) rfl) rfl
theorem wq731 : Cond.methodLink RX6 171 Lib.Math.max.name ∈ gw := gw_t4 (List.mem_of_getElem? (i := 64) rfl) rfl
theorem wq732 : Cond.static Lib.Math.max.name ∈ gw := gw_t4 (List.mem_of_getElem? (i := 65) rfl) rfl
theorem wq733 : Cond.code Lib.Math.max.name Lib.Math.max.code 2 (some .int) ∈ gw := gw_t4 (List.mem_of_getElem? (i := 66) rfl) rfl
theorem wq734 : Cond.methodLink RX6 155 yX2_putAside ∈ gw := gw_t4 (List.mem_of_getElem? (i := 44) rfl) rfl
theorem wq735 : Cond.instanceMethod yX2_putAside ∈ gw := gw_t4 (List.mem_of_getElem? (i := 45) rfl) rfl
theorem wq736 : Cond.selects RX2 yX2_putAside yX2_putAside ∈ gw := gw_t4 (List.mem_of_getElem? (i := 46) rfl) rfl
theorem wq737 : Cond.code yX2_putAside cX2_putAside 4 none ∈ gw := gw_t4 (List.mem_of_getElem? (i := 47) rfl) rfl
theorem wq738 : Cond.methodLink RX2 46 yX4_get ∈ gw := gw_t4 (List.mem_of_getElem? (i := 48) rfl) rfl
theorem wq739 : Cond.methodLink RX6 162 yX4_add ∈ gw := gw_t4 (List.mem_of_getElem? (i := 49) rfl) rfl
theorem wq740 : Cond.methodLink RX6 165 yX6_clear ∈ gw := gw_t4 (List.mem_of_getElem? (i := 50) rfl) rfl
theorem wq741 : Cond.instanceMethod yX6_clear ∈ gw := gw_t4 (List.mem_of_getElem? (i := 51) rfl) rfl
theorem wq742 : Cond.selects RX6 yX6_clear yX6_clear ∈ gw := gw_t4 (List.mem_of_getElem? (i := 52) rfl) rfl
theorem wq743 : Cond.code yX6_clear cX6_clear 7 (some .int) ∈ gw := gw_t4 (List.mem_of_getElem? (i := 53) rfl) rfl
theorem wq744 : Cond.fieldLink RX6 186 "PinnedLeaves$Children" "heaps" "LPinnedLeaves$Row;" ∈ gw := gw_t1 (List.mem_of_getElem? (i := 108) rfl) rfl
theorem wq745 : Cond.methodLink RX6 193 yX2_burn ∈ gw := gw_t4 (List.mem_of_getElem? (i := 60) rfl) rfl
theorem wq746 : Cond.instanceMethod yX2_burn ∈ gw := gw_t4 (List.mem_of_getElem? (i := 61) rfl) rfl
theorem wq747 : Cond.selects RX2 yX2_burn yX2_burn ∈ gw := gw_t4 (List.mem_of_getElem? (i := 62) rfl) rfl
theorem wq748 : Cond.code yX2_burn cX2_burn 2 none ∈ gw := gw_t4 (List.mem_of_getElem? (i := 63) rfl) rfl
theorem wq749 : Cond.methodLink RL 145 yL_taken ∈ gw := gw_t4 (List.mem_of_getElem? (i := 67) rfl) rfl
theorem wq750 : Cond.static yL_taken ∈ gw := gw_t4 (List.mem_of_getElem? (i := 68) rfl) rfl
theorem wq751 : Cond.code yL_taken cL_taken 10 (some .int) ∈ gw := gw_t4 (List.mem_of_getElem? (i := 69) rfl) rfl
theorem wq752 : Cond.methodLink RL 98 yL_raked ∈ gw := gw_t4 (List.mem_of_getElem? (i := 70) rfl) rfl
theorem wq753 : Cond.static yL_raked ∈ gw := gw_t4 (List.mem_of_getElem? (i := 71) rfl) rfl
theorem wq754 : Cond.code yL_raked cL_raked 10 (some .int) ∈ gw := gw_t4 (List.mem_of_getElem? (i := 72) rfl) rfl
theorem wq755 : Cond.methodLink RL 149 yL_swap ∈ gw := gw_t4 (List.mem_of_getElem? (i := 82) rfl) rfl
theorem wq756 : Cond.static yL_swap ∈ gw := gw_t4 (List.mem_of_getElem? (i := 83) rfl) rfl
theorem wq757 : Cond.codeWith yL_swap cL_swap 6 (some .int) [(0, 9, 12, 21), (0, 9, 17, 36), (0, 9, 22, 15)] ∈ gw := gw_t4 (List.mem_of_getElem? (i := 84) rfl) rfl
theorem wq758 : Cond.methodLink RL 54 yX7_swap ∈ gw := gw_t4 (List.mem_of_getElem? (i := 85) rfl) rfl
theorem wq759 : Cond.instanceMethod yX7_swap ∈ gw := gw_t4 (List.mem_of_getElem? (i := 86) rfl) rfl
theorem wq760 : Cond.selects RX7 yX7_swap yX7_swap ∈ gw := gw_t4 (List.mem_of_getElem? (i := 87) rfl) rfl
theorem wq761 : Cond.code yX7_swap cX7_swap 4 (some .int) ∈ gw := gw_t4 (List.mem_of_getElem? (i := 88) rfl) rfl
theorem wq762 : Cond.methodLink RX7 159 yX6_mayExchange ∈ gw := gw_t4 (List.mem_of_getElem? (i := 89) rfl) rfl
theorem wq763 : Cond.instanceMethod yX6_mayExchange ∈ gw := gw_t4 (List.mem_of_getElem? (i := 90) rfl) rfl
theorem wq764 : Cond.selects RX6 yX6_mayExchange yX6_mayExchange ∈ gw := gw_t4 (List.mem_of_getElem? (i := 91) rfl) rfl
theorem wq765 : Cond.code yX6_mayExchange cX6_mayExchange 3 (some .boolean) ∈ gw := gw_t4 (List.mem_of_getElem? (i := 92) rfl) rfl
theorem wq766 : Cond.methodLink RX6 176 yX6_mayTakeOff ∈ gw := gw_t4 (List.mem_of_getElem? (i := 93) rfl) rfl
theorem wq767 : Cond.methodLink RX7 164 yX6_exchange ∈ gw := gw_t4 (List.mem_of_getElem? (i := 95) rfl) rfl
theorem wq768 : Cond.instanceMethod yX6_exchange ∈ gw := gw_t4 (List.mem_of_getElem? (i := 96) rfl) rfl
theorem wq769 : Cond.selects RX6 yX6_exchange yX6_exchange ∈ gw := gw_t4 (List.mem_of_getElem? (i := 97) rfl) rfl
theorem wq770 : Cond.code yX6_exchange cX6_exchange 4 (some .int) ∈ gw := gw_t4 (List.mem_of_getElem? (i := 98) rfl) rfl
theorem wq771 : Cond.methodLink RX6 180 yX6_takeOff ∈ gw := gw_t4 (List.mem_of_getElem? (i := 99) rfl) rfl
theorem wq772 : Cond.methodLink RX6 183 yX2_sprout ∈ gw := gw_t4 (List.mem_of_getElem? (i := 100) rfl) rfl
theorem wq773 : Cond.methodLink RL 151 yL_rake ∈ gw := gw_t4 (List.mem_of_getElem? (i := 101) rfl) rfl
theorem wq774 : Cond.static yL_rake ∈ gw := gw_t4 (List.mem_of_getElem? (i := 102) rfl) rfl
theorem wq775 : Cond.codeWith yL_rake cL_rake 4 (some .int) [(0, 6, 9, 21), (0, 6, 13, 15)] ∈ gw := gw_t4 (List.mem_of_getElem? (i := 103) rfl) rfl
theorem wq776 : Cond.methodLink RL 57 yX7_rake ∈ gw := gw_t4 (List.mem_of_getElem? (i := 104) rfl) rfl
theorem wq777 : Cond.instanceMethod yX7_rake ∈ gw := gw_t4 (List.mem_of_getElem? (i := 105) rfl) rfl
theorem wq778 : Cond.selects RX7 yX7_rake yX7_rake ∈ gw := gw_t4 (List.mem_of_getElem? (i := 106) rfl) rfl
theorem wq779 : Cond.code yX7_rake cX7_rake 2 (some .int) ∈ gw := gw_t4 (List.mem_of_getElem? (i := 107) rfl) rfl
theorem wq780 : Cond.methodLink RX7 167 yX6_mayClear ∈ gw := gw_t4 (List.mem_of_getElem? (i := 108) rfl) rfl
theorem wq781 : Cond.instanceMethod yX6_mayClear ∈ gw := gw_t4 (List.mem_of_getElem? (i := 109) rfl) rfl
theorem wq782 : Cond.selects RX6 yX6_mayClear yX6_mayClear ∈ gw := gw_t4 (List.mem_of_getElem? (i := 110) rfl) rfl
theorem wq783 : Cond.code yX6_mayClear cX6_mayClear 2 (some .boolean) ∈ gw := gw_t4 (List.mem_of_getElem? (i := 111) rfl) rfl
theorem wq784 : Cond.methodLink RX7 172 yX6_clear ∈ gw := gw_t4 (List.mem_of_getElem? (i := 113) rfl) rfl
theorem gw_x0 : ∀ w ∈ (vx_atS RX7 47 "java/lang/IllegalStateException" ["java/lang/RuntimeException", "java/lang/Exception"]).filter goodWord, w ∈ gw := fun w h => List.mem_filter.mpr ⟨(by decide +kernel : ∀ w ∈ (vx_atS RX7 47 "java/lang/IllegalStateException" ["java/lang/RuntimeException", "java/lang/Exception"]).filter goodWord, w ∈ lw_tbl) w h, (List.mem_filter.mp h).2⟩
theorem gw_x1 : ∀ w ∈ (vx_atS RX7 347 "java/lang/IndexOutOfBoundsException" ["java/lang/RuntimeException", "java/lang/Exception"]).filter goodWord, w ∈ gw := fun w h => List.mem_filter.mpr ⟨(by decide +kernel : ∀ w ∈ (vx_atS RX7 347 "java/lang/IndexOutOfBoundsException" ["java/lang/RuntimeException", "java/lang/Exception"]).filter goodWord, w ∈ lw_tbl) w h, (List.mem_filter.mp h).2⟩
theorem gw_x2 : ∀ w ∈ (vx_atS RX7 185 "java/lang/IllegalArgumentException" ["java/lang/RuntimeException", "java/lang/Exception"]).filter goodWord, w ∈ gw := fun w h => List.mem_filter.mpr ⟨(by decide +kernel : ∀ w ∈ (vx_atS RX7 185 "java/lang/IllegalArgumentException" ["java/lang/RuntimeException", "java/lang/Exception"]).filter goodWord, w ∈ lw_tbl) w h, (List.mem_filter.mp h).2⟩
theorem fw0 : ∀ w ∈ u_ws RX0 TX0 7, w ∈ gw := fun w h => List.mem_filter.mpr ⟨(by decide +kernel : ∀ w ∈ u_ws RX0 TX0 7, w ∈ lw_tbl) w h, (by decide +kernel : ∀ w ∈ u_ws RX0 TX0 7, goodWord w = true) w h⟩
theorem fw1 : ∀ w ∈ u_ws RX1 TX1 3, w ∈ gw := fun w h => List.mem_filter.mpr ⟨(by decide +kernel : ∀ w ∈ u_ws RX1 TX1 3, w ∈ lw_tbl) w h, (by decide +kernel : ∀ w ∈ u_ws RX1 TX1 3, goodWord w = true) w h⟩
theorem fw2 : ∀ w ∈ u_ws RX2 TX2 7, w ∈ gw := fun w h => List.mem_filter.mpr ⟨(by decide +kernel : ∀ w ∈ u_ws RX2 TX2 7, w ∈ lw_tbl) w h, (by decide +kernel : ∀ w ∈ u_ws RX2 TX2 7, goodWord w = true) w h⟩
theorem fw3 : ∀ w ∈ u_ws RX3 TX3 2, w ∈ gw := fun w h => List.mem_filter.mpr ⟨(by decide +kernel : ∀ w ∈ u_ws RX3 TX3 2, w ∈ lw_tbl) w h, (by decide +kernel : ∀ w ∈ u_ws RX3 TX3 2, goodWord w = true) w h⟩
theorem fw4 : ∀ w ∈ u_ws RX4 TX4 1, w ∈ gw := fun w h => List.mem_filter.mpr ⟨(by decide +kernel : ∀ w ∈ u_ws RX4 TX4 1, w ∈ lw_tbl) w h, (by decide +kernel : ∀ w ∈ u_ws RX4 TX4 1, goodWord w = true) w h⟩
theorem fw5 : ∀ w ∈ u_ws RX5 TX5 3, w ∈ gw := fun w h => List.mem_filter.mpr ⟨(by decide +kernel : ∀ w ∈ u_ws RX5 TX5 3, w ∈ lw_tbl) w h, (by decide +kernel : ∀ w ∈ u_ws RX5 TX5 3, goodWord w = true) w h⟩
theorem fw6 : ∀ w ∈ u_ws RX6 TX6 11, w ∈ gw := fun w h => List.mem_filter.mpr ⟨(by decide +kernel : ∀ w ∈ u_ws RX6 TX6 11, w ∈ lw_tbl) w h, (by decide +kernel : ∀ w ∈ u_ws RX6 TX6 11, goodWord w = true) w h⟩
theorem fw7 : ∀ w ∈ u_ws RX7 TX7 5, w ∈ gw := fun w h => List.mem_filter.mpr ⟨(by decide +kernel : ∀ w ∈ u_ws RX7 TX7 5, w ∈ lw_tbl) w h, (by decide +kernel : ∀ w ∈ u_ws RX7 TX7 5, goodWord w = true) w h⟩
theorem fw8 : ∀ w ∈ u_ws RX8 TX8 0, w ∈ gw := fun w h => List.mem_filter.mpr ⟨(by decide +kernel : ∀ w ∈ u_ws RX8 TX8 0, w ∈ lw_tbl) w h, (by decide +kernel : ∀ w ∈ u_ws RX8 TX8 0, goodWord w = true) w h⟩
