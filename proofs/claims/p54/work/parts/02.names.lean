def RX0 : String := "VectorVersions$Check"
def TX0 : u_T := fun k => match k with
  | 0 => ("VectorVersions$Check", "store", "LVectorVersions$Store;", true)
  | 1 => ("VectorVersions$Check", "reach", "LVectorVersions$Reach;", true)
  | _ => ("VectorVersions$Check", "held", "[Z", true)
def tyX0 : Nat → FieldType := fun k => match k with
  | 0 => .object "VectorVersions$Store"
  | 1 => .object "VectorVersions$Reach"
  | _ => .array .boolean
abbrev wsX00 : List Cond := u_ws RX0 TX0 3
theorem nmX0 : ∀ a, a < 3 → ∀ b, b < 3 → a ≠ b → (TX0 a).2.1 ≠ (TX0 b).2.1 := by decide +kernel
theorem tyX0_ok : ∀ k, k < 3 → parseFieldDescriptor (TX0 k).2.2.1 = some (tyX0 k) := by decide +kernel
abbrev cX0_init : ByteArray := prog_2_method_1_code
def yX0_init : MethodName := ⟨RX0, "<init>", "(LVectorVersions$Store;LVectorVersions$Reach;)V"⟩
abbrev cX0_passes : ByteArray := prog_2_method_2_code
def yX0_passes : MethodName := ⟨RX0, "passes", "()Z"⟩
abbrev cX0_treePasses : ByteArray := prog_2_method_3_code
def yX0_treePasses : MethodName := ⟨RX0, "treePasses", "(I)Z"⟩
abbrev cX0_nodePasses : ByteArray := prog_2_method_4_code
def yX0_nodePasses : MethodName := ⟨RX0, "nodePasses", "(IIZ)Z"⟩
abbrev cX0_countLeafElements : ByteArray := prog_2_method_5_code
def yX0_countLeafElements : MethodName := ⟨RX0, "countLeafElements", "(II)I"⟩
abbrev cX0_elementsPass : ByteArray := prog_2_method_6_code
def yX0_elementsPass : MethodName := ⟨RX0, "elementsPass", "(I)Z"⟩
abbrev cX0_referencesPass : ByteArray := prog_2_method_7_code
def yX0_referencesPass : MethodName := ⟨RX0, "referencesPass", "()Z"⟩
abbrev cX0_followReferences : ByteArray := prog_2_method_8_code
def yX0_followReferences : MethodName := ⟨RX0, "followReferences", "()V"⟩
abbrev cX0_holdChildren : ByteArray := prog_2_method_9_code
def yX0_holdChildren : MethodName := ⟨RX0, "holdChildren", "(I)V"⟩
def RX1 : String := "VectorVersions$History"
def TX1 : u_T := fun k => match k with
  | 0 => ("VectorVersions$History", "count", "I", false)
  | 1 => ("VectorVersions$History", "next", "I", false)
  | 2 => ("VectorVersions$History", "versionCounts", "[I", true)
  | 3 => ("VectorVersions$History", "nodeCounts", "[I", true)
  | 4 => ("VectorVersions$History", "released", "[Z", true)
  | _ => ("VectorVersions$History", "collected", "[Z", true)
def tyX1 : Nat → FieldType := fun k => match k with
  | 0 => .int
  | 1 => .int
  | 2 => .array .int
  | 3 => .array .int
  | 4 => .array .boolean
  | _ => .array .boolean
abbrev wsX10 : List Cond := u_ws RX1 TX1 6
theorem nmX1 : ∀ a, a < 6 → ∀ b, b < 6 → a ≠ b → (TX1 a).2.1 ≠ (TX1 b).2.1 := by decide +kernel
theorem tyX1_ok : ∀ k, k < 6 → parseFieldDescriptor (TX1 k).2.2.1 = some (tyX1 k) := by decide +kernel
abbrev cX1_init : ByteArray := prog_3_method_1_code
def yX1_init : MethodName := ⟨RX1, "<init>", "()V"⟩
abbrev cX1_forget : ByteArray := prog_3_method_2_code
def yX1_forget : MethodName := ⟨RX1, "forget", "()V"⟩
abbrev cX1_keep : ByteArray := prog_3_method_3_code
def yX1_keep : MethodName := ⟨RX1, "keep", "(LVectorVersions$Store;)V"⟩
def RX2 : String := "VectorVersions$Input"
def TX2 : u_T := fun k => match k with
  | 0 => ("VectorVersions$Input", "length", "I", false)
  | _ => ("VectorVersions$Input", "bytes", "[I", true)
def tyX2 : Nat → FieldType := fun k => match k with
  | 0 => .int
  | _ => .array .int
abbrev wsX20 : List Cond := u_ws RX2 TX2 2
theorem nmX2 : ∀ a, a < 2 → ∀ b, b < 2 → a ≠ b → (TX2 a).2.1 ≠ (TX2 b).2.1 := by decide +kernel
theorem tyX2_ok : ∀ k, k < 2 → parseFieldDescriptor (TX2 k).2.2.1 = some (tyX2 k) := by decide +kernel
abbrev cX2_init : ByteArray := prog_4_method_1_code
def yX2_init : MethodName := ⟨RX2, "<init>", "()V"⟩
abbrev cX2_hasRoomForBlock : ByteArray := prog_4_method_2_code
def yX2_hasRoomForBlock : MethodName := ⟨RX2, "hasRoomForBlock", "()Z"⟩
abbrev cX2_addWord : ByteArray := prog_4_method_3_code
def yX2_addWord : MethodName := ⟨RX2, "addWord", "(I)V"⟩
abbrev cX2_addByte : ByteArray := prog_4_method_4_code
def yX2_addByte : MethodName := ⟨RX2, "addByte", "(I)V"⟩
abbrev cX2_byteAt : ByteArray := prog_4_method_5_code
def yX2_byteAt : MethodName := ⟨RX2, "byteAt", "(I)I"⟩
def RX3 : String := "VectorVersions$Nodes"
def TX3 : u_T := fun k => match k with
  | 0 => ("VectorVersions$Nodes", "created", "I", false)
  | 1 => ("VectorVersions$Nodes", "levels", "[I", true)
  | 2 => ("VectorVersions$Nodes", "fills", "[I", true)
  | 3 => ("VectorVersions$Nodes", "entries", "[I", true)
  | _ => ("VectorVersions$Nodes", "collected", "[Z", true)
def tyX3 : Nat → FieldType := fun k => match k with
  | 0 => .int
  | 1 => .array .int
  | 2 => .array .int
  | 3 => .array .int
  | _ => .array .boolean
abbrev wsX30 : List Cond := u_ws RX3 TX3 5
theorem nmX3 : ∀ a, a < 5 → ∀ b, b < 5 → a ≠ b → (TX3 a).2.1 ≠ (TX3 b).2.1 := by decide +kernel
theorem tyX3_ok : ∀ k, k < 5 → parseFieldDescriptor (TX3 k).2.2.1 = some (tyX3 k) := by decide +kernel
abbrev cX3_init : ByteArray := prog_5_method_1_code
def yX3_init : MethodName := ⟨RX3, "<init>", "()V"⟩
abbrev cX3_isStored : ByteArray := prog_5_method_3_code
def yX3_isStored : MethodName := ⟨RX3, "isStored", "(I)Z"⟩
abbrev cX3_countStored : ByteArray := prog_5_method_4_code
def yX3_countStored : MethodName := ⟨RX3, "countStored", "()I"⟩
abbrev cX3_levelAt : ByteArray := prog_5_method_5_code
def yX3_levelAt : MethodName := ⟨RX3, "levelAt", "(I)I"⟩
abbrev cX3_fillAt : ByteArray := prog_5_method_6_code
def yX3_fillAt : MethodName := ⟨RX3, "fillAt", "(I)I"⟩
abbrev cX3_entryAt : ByteArray := prog_5_method_7_code
def yX3_entryAt : MethodName := ⟨RX3, "entryAt", "(II)I"⟩
abbrev cX3_childAt : ByteArray := prog_5_method_8_code
def yX3_childAt : MethodName := ⟨RX3, "childAt", "(II)I"⟩
abbrev cX3_add : ByteArray := prog_5_method_9_code
def yX3_add : MethodName := ⟨RX3, "add", "(I)I"⟩
abbrev cX3_place : ByteArray := prog_5_method_10_code
def yX3_place : MethodName := ⟨RX3, "place", "(III)V"⟩
abbrev cX3_addCopy : ByteArray := prog_5_method_11_code
def yX3_addCopy : MethodName := ⟨RX3, "addCopy", "(IIIII)I"⟩
abbrev cX3_countReferrers : ByteArray := prog_5_method_12_code
def yX3_countReferrers : MethodName := ⟨RX3, "countReferrers", "(I)I"⟩
abbrev cX3_refersTo : ByteArray := prog_5_method_13_code
def yX3_refersTo : MethodName := ⟨RX3, "refersTo", "(II)Z"⟩
def RX4 : String := "VectorVersions$Output"
def TX4 : u_T := fun k => match k with
  | 0 => ("VectorVersions$Output", "length", "I", false)
  | _ => ("VectorVersions$Output", "bytes", "[I", true)
def tyX4 : Nat → FieldType := fun k => match k with
  | 0 => .int
  | _ => .array .int
abbrev wsX40 : List Cond := u_ws RX4 TX4 2
theorem nmX4 : ∀ a, a < 2 → ∀ b, b < 2 → a ≠ b → (TX4 a).2.1 ≠ (TX4 b).2.1 := by decide +kernel
theorem tyX4_ok : ∀ k, k < 2 → parseFieldDescriptor (TX4 k).2.2.1 = some (tyX4 k) := by decide +kernel
abbrev cX4_init : ByteArray := prog_6_method_1_code
def yX4_init : MethodName := ⟨RX4, "<init>", "()V"⟩
def RX5 : String := "VectorVersions$Reach"
def TX5 : u_T := fun k => match k with
  | 0 => ("VectorVersions$Reach", "store", "LVectorVersions$Store;", true)
  | _ => ("VectorVersions$Reach", "reached", "[Z", true)
def tyX5 : Nat → FieldType := fun k => match k with
  | 0 => .object "VectorVersions$Store"
  | _ => .array .boolean
abbrev wsX50 : List Cond := u_ws RX5 TX5 2
theorem nmX5 : ∀ a, a < 2 → ∀ b, b < 2 → a ≠ b → (TX5 a).2.1 ≠ (TX5 b).2.1 := by decide +kernel
theorem tyX5_ok : ∀ k, k < 2 → parseFieldDescriptor (TX5 k).2.2.1 = some (tyX5 k) := by decide +kernel
abbrev cX5_init : ByteArray := prog_7_method_1_code
def yX5_init : MethodName := ⟨RX5, "<init>", "(LVectorVersions$Store;)V"⟩
abbrev cX5_countGarbage : ByteArray := prog_7_method_2_code
def yX5_countGarbage : MethodName := ⟨RX5, "countGarbage", "()I"⟩
abbrev cX5_removeGarbage : ByteArray := prog_7_method_3_code
def yX5_removeGarbage : MethodName := ⟨RX5, "removeGarbage", "()I"⟩
abbrev cX5_countExclusive : ByteArray := prog_7_method_4_code
def yX5_countExclusive : MethodName := ⟨RX5, "countExclusive", "(I)I"⟩
abbrev cX5_countReachedWithout : ByteArray := prog_7_method_6_code
def yX5_countReachedWithout : MethodName := ⟨RX5, "countReachedWithout", "(I)I"⟩
abbrev cX5_searchWithout : ByteArray := prog_7_method_7_code
def yX5_searchWithout : MethodName := ⟨RX5, "searchWithout", "(I)V"⟩
abbrev cX5_has : ByteArray := prog_7_method_8_code
def yX5_has : MethodName := ⟨RX5, "has", "(I)Z"⟩
abbrev cX5_clear : ByteArray := prog_7_method_9_code
def yX5_clear : MethodName := ⟨RX5, "clear", "()V"⟩
abbrev cX5_visit : ByteArray := prog_7_method_10_code
def yX5_visit : MethodName := ⟨RX5, "visit", "(II)V"⟩
abbrev cX5_countReached : ByteArray := prog_7_method_11_code
def yX5_countReached : MethodName := ⟨RX5, "countReached", "()I"⟩
def RX6 : String := "VectorVersions$Script"
def TX6 : u_T := fun k => match k with
  | 0 => ("VectorVersions$Script", "tokens", "LVectorVersions$Tokens;", true)
  | 1 => ("VectorVersions$Script", "cells", "[I", true)
  | 2 => ("VectorVersions$Script", "inStatement", "Z", false)
  | 3 => ("VectorVersions$Script", "behindMinus", "Z", false)
  | 4 => ("VectorVersions$Script", "argument", "I", false)
  | _ => ("VectorVersions$Script", "count", "I", false)
def tyX6 : Nat → FieldType := fun k => match k with
  | 0 => .object "VectorVersions$Tokens"
  | 1 => .array .int
  | 2 => .boolean
  | 3 => .boolean
  | 4 => .int
  | _ => .int
abbrev wsX60 : List Cond := u_ws RX6 TX6 6
theorem nmX6 : ∀ a, a < 6 → ∀ b, b < 6 → a ≠ b → (TX6 a).2.1 ≠ (TX6 b).2.1 := by decide +kernel
theorem tyX6_ok : ∀ k, k < 6 → parseFieldDescriptor (TX6 k).2.2.1 = some (tyX6 k) := by decide +kernel
abbrev cX6_init : ByteArray := prog_8_method_1_code
def yX6_init : MethodName := ⟨RX6, "<init>", "(LVectorVersions$Tokens;)V"⟩
def RX7 : String := "VectorVersions$Setup"
def TX7 : u_T := fun k => match k with
  | 0 => ("VectorVersions$Setup", "tokens", "LVectorVersions$Tokens;", true)
  | 1 => ("VectorVersions$Setup", "inList", "Z", false)
  | 2 => ("VectorVersions$Setup", "behindMinus", "Z", false)
  | 3 => ("VectorVersions$Setup", "values", "[I", true)
  | _ => ("VectorVersions$Setup", "count", "I", false)
def tyX7 : Nat → FieldType := fun k => match k with
  | 0 => .object "VectorVersions$Tokens"
  | 1 => .boolean
  | 2 => .boolean
  | 3 => .array .int
  | _ => .int
abbrev wsX70 : List Cond := u_ws RX7 TX7 5
theorem nmX7 : ∀ a, a < 5 → ∀ b, b < 5 → a ≠ b → (TX7 a).2.1 ≠ (TX7 b).2.1 := by decide +kernel
theorem tyX7_ok : ∀ k, k < 5 → parseFieldDescriptor (TX7 k).2.2.1 = some (tyX7 k) := by decide +kernel
abbrev cX7_init : ByteArray := prog_9_method_1_code
def yX7_init : MethodName := ⟨RX7, "<init>", "(LVectorVersions$Tokens;)V"⟩
abbrev cX7_parse : ByteArray := prog_9_method_2_code
def yX7_parse : MethodName := ⟨RX7, "parse", "()Z"⟩
abbrev cX7_open : ByteArray := prog_9_method_3_code
def yX7_open : MethodName := ⟨RX7, "open", "()I"⟩
abbrev cX7_accept : ByteArray := prog_9_method_4_code
def yX7_accept : MethodName := ⟨RX7, "accept", "()I"⟩
abbrev cX7_keep : ByteArray := prog_9_method_5_code
def yX7_keep : MethodName := ⟨RX7, "keep", "(I)I"⟩
def RX8 : String := "VectorVersions$Store"
def TX8 : u_T := fun k => match k with
  | 0 => ("VectorVersions$Store", "nodes", "LVectorVersions$Nodes;", true)
  | _ => ("VectorVersions$Store", "versions", "LVectorVersions$Versions;", true)
def tyX8 : Nat → FieldType := fun k => match k with
  | 0 => .object "VectorVersions$Nodes"
  | _ => .object "VectorVersions$Versions"
abbrev wsX80 : List Cond := u_ws RX8 TX8 2
theorem nmX8 : ∀ a, a < 2 → ∀ b, b < 2 → a ≠ b → (TX8 a).2.1 ≠ (TX8 b).2.1 := by decide +kernel
theorem tyX8_ok : ∀ k, k < 2 → parseFieldDescriptor (TX8 k).2.2.1 = some (tyX8 k) := by decide +kernel
abbrev cX8_init : ByteArray := prog_10_method_1_code
def yX8_init : MethodName := ⟨RX8, "<init>", "()V"⟩
abbrev cX8_begin : ByteArray := prog_10_method_3_code
def yX8_begin : MethodName := ⟨RX8, "begin", "([II)V"⟩
abbrev cX8_addLeaves : ByteArray := prog_10_method_4_code
def yX8_addLeaves : MethodName := ⟨RX8, "addLeaves", "([II)V"⟩
abbrev cX8_addParents : ByteArray := prog_10_method_5_code
def yX8_addParents : MethodName := ⟨RX8, "addParents", "(III)V"⟩
abbrev cX8_heightAt : ByteArray := prog_10_method_6_code
def yX8_heightAt : MethodName := ⟨RX8, "heightAt", "(I)I"⟩
abbrev cX8_leafAt : ByteArray := prog_10_method_7_code
def yX8_leafAt : MethodName := ⟨RX8, "leafAt", "(II)I"⟩
abbrev cX8_elementAt : ByteArray := prog_10_method_8_code
def yX8_elementAt : MethodName := ⟨RX8, "elementAt", "(II)I"⟩
abbrev cX8_addUp : ByteArray := prog_10_method_9_code
def yX8_addUp : MethodName := ⟨RX8, "addUp", "(I)I"⟩
abbrev cX8_makeWithElement : ByteArray := prog_10_method_11_code
def yX8_makeWithElement : MethodName := ⟨RX8, "makeWithElement", "(III)I"⟩
abbrev cX8_makeLonger : ByteArray := prog_10_method_12_code
def yX8_makeLonger : MethodName := ⟨RX8, "makeLonger", "(II)I"⟩
abbrev cX8_makeShorter : ByteArray := prog_10_method_13_code
def yX8_makeShorter : MethodName := ⟨RX8, "makeShorter", "(II)I"⟩
abbrev cX8_addRoot : ByteArray := prog_10_method_14_code
def yX8_addRoot : MethodName := ⟨RX8, "addRoot", "(III)I"⟩
abbrev cX8_copyWithElement : ByteArray := prog_10_method_15_code
def yX8_copyWithElement : MethodName := ⟨RX8, "copyWithElement", "(IIII)I"⟩
abbrev cX8_copyWithFirst : ByteArray := prog_10_method_16_code
def yX8_copyWithFirst : MethodName := ⟨RX8, "copyWithFirst", "(III)I"⟩
abbrev cX8_firstNodeAt : ByteArray := prog_10_method_17_code
def yX8_firstNodeAt : MethodName := ⟨RX8, "firstNodeAt", "(II)I"⟩
abbrev cX8_countElements : ByteArray := prog_10_method_18_code
def yX8_countElements : MethodName := ⟨RX8, "countElements", "(II)I"⟩
def RX9 : String := "VectorVersions$Tokens"
def TX9 : u_T := fun k => match k with
  | 0 => ("VectorVersions$Tokens", "input", "LVectorVersions$Input;", true)
  | 1 => ("VectorVersions$Tokens", "place", "I", false)
  | 2 => ("VectorVersions$Tokens", "start", "I", false)
  | 3 => ("VectorVersions$Tokens", "kind", "I", false)
  | 4 => ("VectorVersions$Tokens", "word", "I", false)
  | 5 => ("VectorVersions$Tokens", "number", "I", false)
  | 6 => ("VectorVersions$Tokens", "errorKind", "I", false)
  | _ => ("VectorVersions$Tokens", "errorPlace", "I", false)
def tyX9 : Nat → FieldType := fun k => match k with
  | 0 => .object "VectorVersions$Input"
  | 1 => .int
  | 2 => .int
  | 3 => .int
  | 4 => .int
  | 5 => .int
  | 6 => .int
  | _ => .int
abbrev wsX90 : List Cond := u_ws RX9 TX9 8
theorem nmX9 : ∀ a, a < 8 → ∀ b, b < 8 → a ≠ b → (TX9 a).2.1 ≠ (TX9 b).2.1 := by decide +kernel
theorem tyX9_ok : ∀ k, k < 8 → parseFieldDescriptor (TX9 k).2.2.1 = some (tyX9 k) := by decide +kernel
abbrev cX9_init : ByteArray := prog_11_method_1_code
def yX9_init : MethodName := ⟨RX9, "<init>", "(LVectorVersions$Input;)V"⟩
abbrev cX9_begin : ByteArray := prog_11_method_2_code
def yX9_begin : MethodName := ⟨RX9, "begin", "()V"⟩
abbrev cX9_fail : ByteArray := prog_11_method_3_code
def yX9_fail : MethodName := ⟨RX9, "fail", "(I)Z"⟩
abbrev cX9_advance : ByteArray := prog_11_method_4_code
def yX9_advance : MethodName := ⟨RX9, "advance", "()Z"⟩
abbrev cX9_readWord : ByteArray := prog_11_method_5_code
def yX9_readWord : MethodName := ⟨RX9, "readWord", "()V"⟩
abbrev cX9_readNumber : ByteArray := prog_11_method_6_code
def yX9_readNumber : MethodName := ⟨RX9, "readNumber", "()V"⟩
abbrev cX9_knownWord : ByteArray := prog_11_method_7_code
def yX9_knownWord : MethodName := ⟨RX9, "knownWord", "()I"⟩
abbrev cX9_spells : ByteArray := prog_11_method_8_code
def yX9_spells : MethodName := ⟨RX9, "spells", "(Ljava/lang/String;)Z"⟩
abbrev cX9_isBlank : ByteArray := prog_11_method_9_code
def yX9_isBlank : MethodName := ⟨RX9, "isBlank", "(I)Z"⟩
abbrev cX9_isLetter : ByteArray := prog_11_method_10_code
def yX9_isLetter : MethodName := ⟨RX9, "isLetter", "(I)Z"⟩
abbrev cX9_isDigit : ByteArray := prog_11_method_11_code
def yX9_isDigit : MethodName := ⟨RX9, "isDigit", "(I)Z"⟩
def RX10 : String := "VectorVersions$Versions"
def TX10 : u_T := fun k => match k with
  | 0 => ("VectorVersions$Versions", "count", "I", false)
  | 1 => ("VectorVersions$Versions", "parents", "[I", true)
  | 2 => ("VectorVersions$Versions", "roots", "[I", true)
  | 3 => ("VectorVersions$Versions", "sizes", "[I", true)
  | 4 => ("VectorVersions$Versions", "createdFor", "[I", true)
  | 5 => ("VectorVersions$Versions", "changedIndexes", "[I", true)
  | 6 => ("VectorVersions$Versions", "changedValues", "[I", true)
  | 7 => ("VectorVersions$Versions", "firstElements", "[I", true)
  | _ => ("VectorVersions$Versions", "released", "[Z", true)
def tyX10 : Nat → FieldType := fun k => match k with
  | 0 => .int
  | 1 => .array .int
  | 2 => .array .int
  | 3 => .array .int
  | 4 => .array .int
  | 5 => .array .int
  | 6 => .array .int
  | 7 => .array .int
  | _ => .array .boolean
abbrev wsX100 : List Cond := u_ws RX10 TX10 9
theorem nmX10 : ∀ a, a < 9 → ∀ b, b < 9 → a ≠ b → (TX10 a).2.1 ≠ (TX10 b).2.1 := by decide +kernel
theorem tyX10_ok : ∀ k, k < 9 → parseFieldDescriptor (TX10 k).2.2.1 = some (tyX10 k) := by decide +kernel
abbrev cX10_init : ByteArray := prog_12_method_1_code
def yX10_init : MethodName := ⟨RX10, "<init>", "()V"⟩
abbrev cX10_begin : ByteArray := prog_12_method_3_code
def yX10_begin : MethodName := ⟨RX10, "begin", "([IIII)V"⟩
abbrev cX10_add : ByteArray := prog_12_method_4_code
def yX10_add : MethodName := ⟨RX10, "add", "(IIIIII)I"⟩
abbrev cX10_drop : ByteArray := prog_12_method_5_code
def yX10_drop : MethodName := ⟨RX10, "drop", "(I)V"⟩
abbrev cX10_has : ByteArray := prog_12_method_6_code
def yX10_has : MethodName := ⟨RX10, "has", "(I)Z"⟩
abbrev cX10_isLive : ByteArray := prog_12_method_7_code
def yX10_isLive : MethodName := ⟨RX10, "isLive", "(I)Z"⟩
abbrev cX10_parentAt : ByteArray := prog_12_method_8_code
def yX10_parentAt : MethodName := ⟨RX10, "parentAt", "(I)I"⟩
abbrev cX10_rootAt : ByteArray := prog_12_method_9_code
def yX10_rootAt : MethodName := ⟨RX10, "rootAt", "(I)I"⟩
abbrev cX10_sizeAt : ByteArray := prog_12_method_10_code
def yX10_sizeAt : MethodName := ⟨RX10, "sizeAt", "(I)I"⟩
abbrev cX10_createdForAt : ByteArray := prog_12_method_11_code
def yX10_createdForAt : MethodName := ⟨RX10, "createdForAt", "(I)I"⟩
abbrev cX10_countLiveRoots : ByteArray := prog_12_method_16_code
def yX10_countLiveRoots : MethodName := ⟨RX10, "countLiveRoots", "(I)I"⟩
abbrev cX10_recordedElement : ByteArray := prog_12_method_18_code
def yX10_recordedElement : MethodName := ⟨RX10, "recordedElement", "(II)I"⟩
abbrev cX10_sumOfCreated : ByteArray := prog_12_method_19_code
def yX10_sumOfCreated : MethodName := ⟨RX10, "sumOfCreated", "()I"⟩
abbrev cX10_isFull : ByteArray := prog_12_method_20_code
def yX10_isFull : MethodName := ⟨RX10, "isFull", "()Z"⟩
abbrev cX10_faultOfReading : ByteArray := prog_12_method_21_code
def yX10_faultOfReading : MethodName := ⟨RX10, "faultOfReading", "(I)I"⟩
abbrev cX10_faultOfElement : ByteArray := prog_12_method_23_code
def yX10_faultOfElement : MethodName := ⟨RX10, "faultOfElement", "(II)I"⟩
abbrev cX10_faultOfReplacement : ByteArray := prog_12_method_24_code
def yX10_faultOfReplacement : MethodName := ⟨RX10, "faultOfReplacement", "(III)I"⟩
abbrev cX10_faultOfSet : ByteArray := prog_12_method_25_code
def yX10_faultOfSet : MethodName := ⟨RX10, "faultOfSet", "(III)I"⟩
abbrev cX10_faultOfAppend : ByteArray := prog_12_method_26_code
def yX10_faultOfAppend : MethodName := ⟨RX10, "faultOfAppend", "(II)I"⟩
abbrev cX10_faultOfTruncate : ByteArray := prog_12_method_27_code
def yX10_faultOfTruncate : MethodName := ⟨RX10, "faultOfTruncate", "(II)I"⟩
def RX11 : String := "VectorVersions"
def TX11 : u_T := fun k => match k with
  | 0 => ("VectorVersions", "store", "LVectorVersions$Store;", true)
  | 1 => ("VectorVersions", "savedStore", "LVectorVersions$Store;", true)
  | 2 => ("VectorVersions", "hasSavedStore", "Z", false)
  | 3 => ("VectorVersions", "reach", "LVectorVersions$Reach;", true)
  | 4 => ("VectorVersions", "check", "LVectorVersions$Check;", true)
  | 5 => ("VectorVersions", "history", "LVectorVersions$History;", true)
  | 6 => ("VectorVersions", "input", "LVectorVersions$Input;", true)
  | 7 => ("VectorVersions", "tokens", "LVectorVersions$Tokens;", true)
  | 8 => ("VectorVersions", "setup", "LVectorVersions$Setup;", true)
  | 9 => ("VectorVersions", "script", "LVectorVersions$Script;", true)
  | _ => ("VectorVersions", "output", "LVectorVersions$Output;", true)
def tyX11 : Nat → FieldType := fun k => match k with
  | 0 => .object "VectorVersions$Store"
  | 1 => .object "VectorVersions$Store"
  | 2 => .boolean
  | 3 => .object "VectorVersions$Reach"
  | 4 => .object "VectorVersions$Check"
  | 5 => .object "VectorVersions$History"
  | 6 => .object "VectorVersions$Input"
  | 7 => .object "VectorVersions$Tokens"
  | 8 => .object "VectorVersions$Setup"
  | 9 => .object "VectorVersions$Script"
  | _ => .object "VectorVersions$Output"
abbrev wsX110 : List Cond := u_ws RX11 TX11 11
theorem nmX11 : ∀ a, a < 11 → ∀ b, b < 11 → a ≠ b → (TX11 a).2.1 ≠ (TX11 b).2.1 := by decide +kernel
theorem tyX11_ok : ∀ k, k < 11 → parseFieldDescriptor (TX11 k).2.2.1 = some (tyX11 k) := by decide +kernel
abbrev cX11_init : ByteArray := prog_1_method_1_code
def yX11_init : MethodName := ⟨RX11, "<init>", "()V"⟩
abbrev cX11_appendInput : ByteArray := prog_1_method_2_code
def yX11_appendInput : MethodName := ⟨RX11, "appendInput", "(IIIII)I"⟩
abbrev cX11_truncateInput : ByteArray := prog_1_method_3_code
def yX11_truncateInput : MethodName := ⟨RX11, "truncateInput", "(I)Z"⟩
abbrev cX11_loadSetup : ByteArray := prog_1_method_4_code
def yX11_loadSetup : MethodName := ⟨RX11, "loadSetup", "()I"⟩
abbrev cX11_versionCount : ByteArray := prog_1_method_8_code
def yX11_versionCount : MethodName := ⟨RX11, "versionCount", "()I"⟩
abbrev cX11_isReleased : ByteArray := prog_1_method_10_code
def yX11_isReleased : MethodName := ⟨RX11, "isReleased", "(I)Z"⟩
abbrev cX11_parentOf : ByteArray := prog_1_method_11_code
def yX11_parentOf : MethodName := ⟨RX11, "parentOf", "(I)I"⟩
abbrev cX11_size : ByteArray := prog_1_method_15_code
def yX11_size : MethodName := ⟨RX11, "size", "(I)I"⟩
abbrev cX11_height : ByteArray := prog_1_method_16_code
def yX11_height : MethodName := ⟨RX11, "height", "(I)I"⟩
abbrev cX11_rootOf : ByteArray := prog_1_method_17_code
def yX11_rootOf : MethodName := ⟨RX11, "rootOf", "(I)I"⟩
abbrev cX11_get : ByteArray := prog_1_method_18_code
def yX11_get : MethodName := ⟨RX11, "get", "(II)I"⟩
abbrev cX11_leafOf : ByteArray := prog_1_method_19_code
def yX11_leafOf : MethodName := ⟨RX11, "leafOf", "(II)I"⟩
abbrev cX11_sum : ByteArray := prog_1_method_20_code
def yX11_sum : MethodName := ⟨RX11, "sum", "(I)I"⟩
abbrev cX11_storedNodes : ByteArray := prog_1_method_23_code
def yX11_storedNodes : MethodName := ⟨RX11, "storedNodes", "()I"⟩
abbrev cX11_garbageNodes : ByteArray := prog_1_method_24_code
def yX11_garbageNodes : MethodName := ⟨RX11, "garbageNodes", "()I"⟩
abbrev cX11_nodesCreatedFor : ByteArray := prog_1_method_25_code
def yX11_nodesCreatedFor : MethodName := ⟨RX11, "nodesCreatedFor", "(I)I"⟩
abbrev cX11_isLeaf : ByteArray := prog_1_method_29_code
def yX11_isLeaf : MethodName := ⟨RX11, "isLeaf", "(I)Z"⟩
abbrev cX11_entryCount : ByteArray := prog_1_method_30_code
def yX11_entryCount : MethodName := ⟨RX11, "entryCount", "(I)I"⟩
abbrev cX11_childOf : ByteArray := prog_1_method_31_code
def yX11_childOf : MethodName := ⟨RX11, "childOf", "(II)I"⟩
abbrev cX11_referencesTo : ByteArray := prog_1_method_32_code
def yX11_referencesTo : MethodName := ⟨RX11, "referencesTo", "(I)I"⟩
abbrev cX11_nodesForSet : ByteArray := prog_1_method_36_code
def yX11_nodesForSet : MethodName := ⟨RX11, "nodesForSet", "(III)I"⟩
abbrev cX11_nodesForAppend : ByteArray := prog_1_method_37_code
def yX11_nodesForAppend : MethodName := ⟨RX11, "nodesForAppend", "(I)I"⟩
abbrev cX11_garbageIfReleased : ByteArray := prog_1_method_38_code
def yX11_garbageIfReleased : MethodName := ⟨RX11, "garbageIfReleased", "(I)I"⟩
abbrev cX11_isConsistent : ByteArray := prog_1_method_42_code
def yX11_isConsistent : MethodName := ⟨RX11, "isConsistent", "()Z"⟩
abbrev cX11_set : ByteArray := prog_1_method_43_code
def yX11_set : MethodName := ⟨RX11, "set", "(III)I"⟩
abbrev cX11_append : ByteArray := prog_1_method_44_code
def yX11_append : MethodName := ⟨RX11, "append", "(II)I"⟩
abbrev cX11_truncate : ByteArray := prog_1_method_45_code
def yX11_truncate : MethodName := ⟨RX11, "truncate", "(II)I"⟩
abbrev cX11_release : ByteArray := prog_1_method_46_code
def yX11_release : MethodName := ⟨RX11, "release", "(I)I"⟩
abbrev cX11_collect : ByteArray := prog_1_method_47_code
def yX11_collect : MethodName := ⟨RX11, "collect", "()I"⟩
abbrev cX11_refuse : ByteArray := prog_1_method_55_code
def yX11_refuse : MethodName := ⟨RX11, "refuse", "(I)V"⟩
abbrev cX11_beginChange : ByteArray := prog_1_method_56_code
def yX11_beginChange : MethodName := ⟨RX11, "beginChange", "(I)V"⟩
abbrev cX11_requireVersion : ByteArray := prog_1_method_57_code
def yX11_requireVersion : MethodName := ⟨RX11, "requireVersion", "(I)V"⟩
abbrev cX11_requireReadable : ByteArray := prog_1_method_58_code
def yX11_requireReadable : MethodName := ⟨RX11, "requireReadable", "(I)V"⟩
abbrev cX11_requireNode : ByteArray := prog_1_method_60_code
def yX11_requireNode : MethodName := ⟨RX11, "requireNode", "(I)V"⟩
abbrev cX11_capacity : ByteArray := prog_1_method_61_code
def yX11_capacity : MethodName := ⟨RX11, "capacity", "(I)I"⟩
abbrev cX11_positionIn : ByteArray := prog_1_method_62_code
def yX11_positionIn : MethodName := ⟨RX11, "positionIn", "(II)I"⟩
abbrev cX11_heightFor : ByteArray := prog_1_method_63_code
def yX11_heightFor : MethodName := ⟨RX11, "heightFor", "(I)I"⟩
abbrev cX11_isElementValue : ByteArray := prog_1_method_64_code
def yX11_isElementValue : MethodName := ⟨RX11, "isElementValue", "(I)Z"⟩
abbrev cX11_at : ByteArray := prog_1_method_65_code
def yX11_at : MethodName := ⟨RX11, "at", "([II)I"⟩
abbrev cX11_put : ByteArray := prog_1_method_66_code
def yX11_put : MethodName := ⟨RX11, "put", "([III)V"⟩
abbrev cX11_flagAt : ByteArray := prog_1_method_67_code
def yX11_flagAt : MethodName := ⟨RX11, "flagAt", "([ZI)Z"⟩
abbrev cX11_putFlag : ByteArray := prog_1_method_68_code
def yX11_putFlag : MethodName := ⟨RX11, "putFlag", "([ZIZ)V"⟩
abbrev cX11_copyRow : ByteArray := prog_1_method_69_code
def yX11_copyRow : MethodName := ⟨RX11, "copyRow", "([I[I)V"⟩
abbrev cX11_copyFlags : ByteArray := prog_1_method_70_code
def yX11_copyFlags : MethodName := ⟨RX11, "copyFlags", "([ZI[ZII)V"⟩
def RX12 : String := "VectorVersionsModel"
def TX12 : u_T := fun k => match k with
  | _ => ("", "", "", false)
def tyX12 : Nat → FieldType := fun k => match k with
  | _ => .int
abbrev wsX120 : List Cond := u_ws RX12 TX12 0
theorem nmX12 : ∀ a, a < 0 → ∀ b, b < 0 → a ≠ b → (TX12 a).2.1 ≠ (TX12 b).2.1 := by decide +kernel
theorem tyX12_ok : ∀ k, k < 0 → parseFieldDescriptor (TX12 k).2.2.1 = some (tyX12 k) := by decide +kernel
def RJx145de : String := "java/io/Serializable"
def TJx145de : u_T := fun k => match k with
  | _ => ("", "", "", false)
def tyJx145de : Nat → FieldType := fun k => match k with
  | _ => .int
abbrev wsJx145de0 : List Cond := u_ws RJx145de TJx145de 0
theorem nmJx145de : ∀ a, a < 0 → ∀ b, b < 0 → a ≠ b → (TJx145de a).2.1 ≠ (TJx145de b).2.1 := by decide +kernel
theorem tyJx145de_ok : ∀ k, k < 0 → parseFieldDescriptor (TJx145de k).2.2.1 = some (tyJx145de k) := by decide +kernel
def RJ5 : String := "java/lang/AbstractStringBuilder"
def TJ5 : u_T := fun k => match k with
  | _ => ("", "", "", false)
def tyJ5 : Nat → FieldType := fun k => match k with
  | _ => .int
abbrev wsJ50 : List Cond := u_ws RJ5 TJ5 0
theorem nmJ5 : ∀ a, a < 0 → ∀ b, b < 0 → a ≠ b → (TJ5 a).2.1 ≠ (TJ5 b).2.1 := by decide +kernel
theorem tyJ5_ok : ∀ k, k < 0 → parseFieldDescriptor (TJ5 k).2.2.1 = some (tyJ5 k) := by decide +kernel
abbrev cJ5_init_a7421 : ByteArray := prog_15_method_3_code
def yJ5_init_a7421 : MethodName := ⟨RJ5, "<init>", "(Ljava/lang/String;)V"⟩
abbrev cJ5_length_8abf5 : ByteArray := prog_15_method_6_code
def yJ5_length_8abf5 : MethodName := ⟨RJ5, "length", "()I"⟩
abbrev cJ5_ensureCapacityInternal_d00df : ByteArray := prog_15_method_9_code
def yJ5_ensureCapacityInternal_d00df : MethodName := ⟨RJ5, "ensureCapacityInternal", "(I)V"⟩
abbrev cJ5_newCapacity_0f7a4 : ByteArray := prog_15_method_10_code
def yJ5_newCapacity_0f7a4 : MethodName := ⟨RJ5, "newCapacity", "(I)I"⟩
abbrev cJ5_inflate_da8c8 : ByteArray := prog_15_method_11_code
def yJ5_inflate_da8c8 : MethodName := ⟨RJ5, "inflate", "()V"⟩
abbrev cJ5_append_cf1ce : ByteArray := prog_15_method_22_code
def yJ5_append_cf1ce : MethodName := ⟨RJ5, "append", "(Ljava/lang/String;)Ljava/lang/AbstractStringBuilder;"⟩
abbrev cJ5_appendNull_278bc : ByteArray := prog_15_method_26_code
def yJ5_appendNull_278bc : MethodName := ⟨RJ5, "appendNull", "()Ljava/lang/AbstractStringBuilder;"⟩
abbrev cJ5_append_3fe6f : ByteArray := prog_15_method_31_code
def yJ5_append_3fe6f : MethodName := ⟨RJ5, "append", "(C)Ljava/lang/AbstractStringBuilder;"⟩
abbrev cJ5_append_c97b9 : ByteArray := prog_15_method_32_code
def yJ5_append_c97b9 : MethodName := ⟨RJ5, "append", "(I)Ljava/lang/AbstractStringBuilder;"⟩
abbrev cJ5_getValue_6d5f1 : ByteArray := prog_15_method_64_code
def yJ5_getValue_6d5f1 : MethodName := ⟨RJ5, "getValue", "()[B"⟩
abbrev cJ5_isLatin1_aae02 : ByteArray := prog_15_method_68_code
def yJ5_isLatin1_aae02 : MethodName := ⟨RJ5, "isLatin1", "()Z"⟩
abbrev cJ5_inflateIfNeededFor_a7421 : ByteArray := prog_15_method_71_code
def yJ5_inflateIfNeededFor_a7421 : MethodName := ⟨RJ5, "inflateIfNeededFor", "(Ljava/lang/String;)V"⟩
abbrev cJ5_putStringAt_47b60 : ByteArray := prog_15_method_73_code
def yJ5_putStringAt_47b60 : MethodName := ⟨RJ5, "putStringAt", "(ILjava/lang/String;)V"⟩
def RJx2cfe8 : String := "java/lang/Appendable"
def TJx2cfe8 : u_T := fun k => match k with
  | _ => ("", "", "", false)
def tyJx2cfe8 : Nat → FieldType := fun k => match k with
  | _ => .int
abbrev wsJx2cfe80 : List Cond := u_ws RJx2cfe8 TJx2cfe8 0
theorem nmJx2cfe8 : ∀ a, a < 0 → ∀ b, b < 0 → a ≠ b → (TJx2cfe8 a).2.1 ≠ (TJx2cfe8 b).2.1 := by decide +kernel
theorem tyJx2cfe8_ok : ∀ k, k < 0 → parseFieldDescriptor (TJx2cfe8 k).2.2.1 = some (tyJx2cfe8 k) := by decide +kernel
def RJx9f9b0 : String := "java/lang/CharSequence"
def TJx9f9b0 : u_T := fun k => match k with
  | _ => ("", "", "", false)
def tyJx9f9b0 : Nat → FieldType := fun k => match k with
  | _ => .int
abbrev wsJx9f9b00 : List Cond := u_ws RJx9f9b0 TJx9f9b0 0
theorem nmJx9f9b0 : ∀ a, a < 0 → ∀ b, b < 0 → a ≠ b → (TJx9f9b0 a).2.1 ≠ (TJx9f9b0 b).2.1 := by decide +kernel
theorem tyJx9f9b0_ok : ∀ k, k < 0 → parseFieldDescriptor (TJx9f9b0 k).2.2.1 = some (tyJx9f9b0 k) := by decide +kernel
def RJx8e188 : String := "java/lang/Cloneable"
def TJx8e188 : u_T := fun k => match k with
  | _ => ("", "", "", false)
def tyJx8e188 : Nat → FieldType := fun k => match k with
  | _ => .int
abbrev wsJx8e1880 : List Cond := u_ws RJx8e188 TJx8e188 0
theorem nmJx8e188 : ∀ a, a < 0 → ∀ b, b < 0 → a ≠ b → (TJx8e188 a).2.1 ≠ (TJx8e188 b).2.1 := by decide +kernel
theorem tyJx8e188_ok : ∀ k, k < 0 → parseFieldDescriptor (TJx8e188 k).2.2.1 = some (tyJx8e188 k) := by decide +kernel
def RJxb160c : String := "java/lang/Comparable"
def TJxb160c : u_T := fun k => match k with
  | _ => ("", "", "", false)
def tyJxb160c : Nat → FieldType := fun k => match k with
  | _ => .int
abbrev wsJxb160c0 : List Cond := u_ws RJxb160c TJxb160c 0
theorem nmJxb160c : ∀ a, a < 0 → ∀ b, b < 0 → a ≠ b → (TJxb160c a).2.1 ≠ (TJxb160c b).2.1 := by decide +kernel
theorem tyJxb160c_ok : ∀ k, k < 0 → parseFieldDescriptor (TJxb160c k).2.2.1 = some (tyJxb160c k) := by decide +kernel
def RJ6 : String := "java/lang/Integer"
def TJ6 : u_T := fun k => match k with
  | _ => ("", "", "", false)
def tyJ6 : Nat → FieldType := fun k => match k with
  | _ => .int
abbrev wsJ60 : List Cond := u_ws RJ6 TJ6 0
theorem nmJ6 : ∀ a, a < 0 → ∀ b, b < 0 → a ≠ b → (TJ6 a).2.1 ≠ (TJ6 b).2.1 := by decide +kernel
theorem tyJ6_ok : ∀ k, k < 0 → parseFieldDescriptor (TJ6 k).2.2.1 = some (tyJ6 k) := by decide +kernel
abbrev cJ6_getChars_ba4f3 : ByteArray := prog_21_method_12_code
def yJ6_getChars_ba4f3 : MethodName := ⟨RJ6, "getChars", "(II[B)I"⟩
abbrev cJ6_stringSize_0f7a4 : ByteArray := prog_21_method_13_code
def yJ6_stringSize_0f7a4 : MethodName := ⟨RJ6, "stringSize", "(I)I"⟩
def RJ9 : String := "java/lang/Math"
def TJ9 : u_T := fun k => match k with
  | _ => ("", "", "", false)
def tyJ9 : Nat → FieldType := fun k => match k with
  | _ => .int
abbrev wsJ90 : List Cond := u_ws RJ9 TJ9 0
theorem nmJ9 : ∀ a, a < 0 → ∀ b, b < 0 → a ≠ b → (TJ9 a).2.1 ≠ (TJ9 b).2.1 := by decide +kernel
theorem tyJ9_ok : ∀ k, k < 0 → parseFieldDescriptor (TJ9 k).2.2.1 = some (tyJ9 k) := by decide +kernel
abbrev cJ9_max_7cf53 : ByteArray := prog_22_method_65_code
def yJ9_max_7cf53 : MethodName := ⟨RJ9, "max", "(II)I"⟩
abbrev cJ9_min_7cf53 : ByteArray := prog_22_method_69_code
def yJ9_min_7cf53 : MethodName := ⟨RJ9, "min", "(II)I"⟩
def RJxd2413 : String := "java/lang/Number"
def TJxd2413 : u_T := fun k => match k with
  | _ => ("", "", "", false)
def tyJxd2413 : Nat → FieldType := fun k => match k with
  | _ => .int
abbrev wsJxd24130 : List Cond := u_ws RJxd2413 TJxd2413 0
theorem nmJxd2413 : ∀ a, a < 0 → ∀ b, b < 0 → a ≠ b → (TJxd2413 a).2.1 ≠ (TJxd2413 b).2.1 := by decide +kernel
theorem tyJxd2413_ok : ∀ k, k < 0 → parseFieldDescriptor (TJxd2413 k).2.2.1 = some (tyJxd2413 k) := by decide +kernel
def RJ0 : String := "java/lang/String"
def TJ0 : u_T := fun k => match k with
  | 0 => ("java/lang/String", "value", "[B", true)
  | 1 => ("java/lang/String", "coder", "B", true)
  | 2 => ("java/lang/String", "hash", "I", false)
  | _ => ("java/lang/String", "hashIsZero", "Z", false)
def tyJ0 : Nat → FieldType := fun k => match k with
  | 0 => .array .byte
  | 1 => .byte
  | 2 => .int
  | _ => .boolean
abbrev wsJ00 : List Cond := u_ws RJ0 TJ0 4
theorem nmJ0 : ∀ a, a < 4 → ∀ b, b < 4 → a ≠ b → (TJ0 a).2.1 ≠ (TJ0 b).2.1 := by decide +kernel
theorem tyJ0_ok : ∀ k, k < 4 → parseFieldDescriptor (TJ0 k).2.2.1 = some (tyJ0 k) := by decide +kernel
abbrev cJ0_init_81219 : ByteArray := prog_25_method_53_code
def yJ0_init_81219 : MethodName := ⟨RJ0, "<init>", "(Ljava/lang/StringBuilder;)V"⟩
abbrev cJ0_length_8abf5 : ByteArray := prog_25_method_54_code
def yJ0_length_8abf5 : MethodName := ⟨RJ0, "length", "()I"⟩
abbrev cJ0_charAt_5068e : ByteArray := prog_25_method_56_code
def yJ0_charAt_5068e : MethodName := ⟨RJ0, "charAt", "(I)C"⟩
abbrev cJ0_getBytes_840e7 : ByteArray := prog_25_method_147_code
def yJ0_getBytes_840e7 : MethodName := ⟨RJ0, "getBytes", "([BIB)V"⟩
abbrev cJ0_init_db425 : ByteArray := prog_25_method_150_code
def yJ0_init_db425 : MethodName := ⟨RJ0, "<init>", "(Ljava/lang/AbstractStringBuilder;Ljava/lang/Void;)V"⟩
abbrev cJ0_coder_7d493 : ByteArray := prog_25_method_152_code
def yJ0_coder_7d493 : MethodName := ⟨RJ0, "coder", "()B"⟩
abbrev cJ0_isLatin1_aae02 : ByteArray := prog_25_method_154_code
def yJ0_isLatin1_aae02 : MethodName := ⟨RJ0, "isLatin1", "()Z"⟩
abbrev cJ0_checkIndex_df160 : ByteArray := prog_25_method_155_code
def yJ0_checkIndex_df160 : MethodName := ⟨RJ0, "checkIndex", "(II)V"⟩
abbrev cJ0_checkBoundsOffCount_cabcc : ByteArray := prog_25_method_157_code
def yJ0_checkBoundsOffCount_cabcc : MethodName := ⟨RJ0, "checkBoundsOffCount", "(III)I"⟩
abbrev cJ0_checkBoundsBeginEnd_23922 : ByteArray := prog_25_method_158_code
def yJ0_checkBoundsBeginEnd_23922 : MethodName := ⟨RJ0, "checkBoundsBeginEnd", "(III)V"⟩
def RJ4 : String := "java/lang/StringBuilder"
def TJ4 : u_T := fun k => match k with
  | 0 => ("java/lang/AbstractStringBuilder", "value", "[B", false)
  | 1 => ("java/lang/AbstractStringBuilder", "coder", "B", false)
  | 2 => ("java/lang/AbstractStringBuilder", "maybeLatin1", "Z", false)
  | _ => ("java/lang/AbstractStringBuilder", "count", "I", false)
def tyJ4 : Nat → FieldType := fun k => match k with
  | 0 => .array .byte
  | 1 => .byte
  | 2 => .boolean
  | _ => .int
abbrev wsJ40 : List Cond := u_ws RJ4 TJ4 4
theorem nmJ4 : ∀ a, a < 4 → ∀ b, b < 4 → a ≠ b → (TJ4 a).2.1 ≠ (TJ4 b).2.1 := by decide +kernel
theorem tyJ4_ok : ∀ k, k < 4 → parseFieldDescriptor (TJ4 k).2.2.1 = some (tyJ4 k) := by decide +kernel
abbrev cJ4_init_a7421 : ByteArray := prog_26_method_3_code
def yJ4_init_a7421 : MethodName := ⟨RJ4, "<init>", "(Ljava/lang/String;)V"⟩
abbrev cJ4_append_15ec4 : ByteArray := prog_26_method_7_code
def yJ4_append_15ec4 : MethodName := ⟨RJ4, "append", "(Ljava/lang/String;)Ljava/lang/StringBuilder;"⟩
abbrev cJ4_append_cf468 : ByteArray := prog_26_method_14_code
def yJ4_append_cf468 : MethodName := ⟨RJ4, "append", "(C)Ljava/lang/StringBuilder;"⟩
abbrev cJ4_append_bf812 : ByteArray := prog_26_method_15_code
def yJ4_append_bf812 : MethodName := ⟨RJ4, "append", "(I)Ljava/lang/StringBuilder;"⟩
abbrev cJ4_toString_0e30d : ByteArray := prog_26_method_42_code
def yJ4_toString_0e30d : MethodName := ⟨RJ4, "toString", "()Ljava/lang/String;"⟩
abbrev cJ4_append_cf1ce : ByteArray := prog_26_method_80_code
def yJ4_append_cf1ce : MethodName := ⟨RJ4, "append", "(Ljava/lang/String;)Ljava/lang/AbstractStringBuilder;"⟩
abbrev cJ4_length_8abf5 : ByteArray := prog_26_method_93_code
def yJ4_length_8abf5 : MethodName := ⟨RJ4, "length", "()I"⟩
def RJ1 : String := "java/lang/StringLatin1"
def TJ1 : u_T := fun k => match k with
  | _ => ("", "", "", false)
def tyJ1 : Nat → FieldType := fun k => match k with
  | _ => .int
abbrev wsJ10 : List Cond := u_ws RJ1 TJ1 0
theorem nmJ1 : ∀ a, a < 0 → ∀ b, b < 0 → a ≠ b → (TJ1 a).2.1 ≠ (TJ1 b).2.1 := by decide +kernel
theorem tyJ1_ok : ∀ k, k < 0 → parseFieldDescriptor (TJ1 k).2.2.1 = some (tyJ1 k) := by decide +kernel
abbrev cJ1_charAt_3b067 : ByteArray := prog_27_method_2_code
def yJ1_charAt_3b067 : MethodName := ⟨RJ1, "charAt", "([BI)C"⟩
abbrev cJ1_canEncode_fc78d : ByteArray := prog_27_method_3_code
def yJ1_canEncode_fc78d : MethodName := ⟨RJ1, "canEncode", "(C)Z"⟩
abbrev cJ1_inflate_0e8fd : ByteArray := prog_27_method_50_code
def yJ1_inflate_0e8fd : MethodName := ⟨RJ1, "inflate", "([BI[BII)V"⟩
def RJ2 : String := "java/lang/StringUTF16"
def TJ2 : u_T := fun k => match k with
  | _ => ("", "", "", false)
def tyJ2 : Nat → FieldType := fun k => match k with
  | _ => .int
abbrev wsJ20 : List Cond := u_ws RJ2 TJ2 0
theorem nmJ2 : ∀ a, a < 0 → ∀ b, b < 0 → a ≠ b → (TJ2 a).2.1 ≠ (TJ2 b).2.1 := by decide +kernel
theorem tyJ2_ok : ∀ k, k < 0 → parseFieldDescriptor (TJ2 k).2.2.1 = some (tyJ2 k) := by decide +kernel
abbrev cJ2_newBytesFor_77867 : ByteArray := prog_28_method_2_code
def yJ2_newBytesFor_77867 : MethodName := ⟨RJ2, "newBytesFor", "(I)[B"⟩
abbrev cJ2_newBytesLength_0f7a4 : ByteArray := prog_28_method_3_code
def yJ2_newBytesLength_0f7a4 : MethodName := ⟨RJ2, "newBytesLength", "(I)I"⟩
abbrev cJ2_putChar_b72d1 : ByteArray := prog_28_method_4_code
def yJ2_putChar_b72d1 : MethodName := ⟨RJ2, "putChar", "([BII)V"⟩
abbrev cJ2_getChar_3b067 : ByteArray := prog_28_method_5_code
def yJ2_getChar_3b067 : MethodName := ⟨RJ2, "getChar", "([BI)C"⟩
abbrev cJ2_length_9d52b : ByteArray := prog_28_method_6_code
def yJ2_length_9d52b : MethodName := ⟨RJ2, "length", "([B)I"⟩
abbrev cJ2_coderFromArrayLen_85cad : ByteArray := prog_28_method_15_code
def yJ2_coderFromArrayLen_85cad : MethodName := ⟨RJ2, "coderFromArrayLen", "([BI)B"⟩
abbrev cJ2_compress_39247 : ByteArray := prog_28_method_17_code
def yJ2_compress_39247 : MethodName := ⟨RJ2, "compress", "([BII)[B"⟩
abbrev cJ2_compress_5af95 : ByteArray := prog_28_method_22_code
def yJ2_compress_5af95 : MethodName := ⟨RJ2, "compress", "([BI[BII)I"⟩
abbrev cJ2_putCharSB_b72d1 : ByteArray := prog_28_method_71_code
def yJ2_putCharSB_b72d1 : MethodName := ⟨RJ2, "putCharSB", "([BII)V"⟩
abbrev cJ2_getChars_46870 : ByteArray := prog_28_method_77_code
def yJ2_getChars_46870 : MethodName := ⟨RJ2, "getChars", "(III[B)I"⟩
abbrev cJ2_putCharsAt_cd4e5 : ByteArray := prog_28_method_81_code
def yJ2_putCharsAt_cd4e5 : MethodName := ⟨RJ2, "putCharsAt", "([BICCCC)I"⟩
abbrev cJ2_charAt_3b067 : ByteArray := prog_28_method_83_code
def yJ2_charAt_3b067 : MethodName := ⟨RJ2, "charAt", "([BI)C"⟩
abbrev cJ2_inflate_0e8fd : ByteArray := prog_28_method_86_code
def yJ2_inflate_0e8fd : MethodName := ⟨RJ2, "inflate", "([BI[BII)V"⟩
abbrev cJ2_getChars_ba4f3 : ByteArray := prog_28_method_89_code
def yJ2_getChars_ba4f3 : MethodName := ⟨RJ2, "getChars", "(II[B)I"⟩
abbrev cJ2_checkIndex_2214a : ByteArray := prog_28_method_91_code
def yJ2_checkIndex_2214a : MethodName := ⟨RJ2, "checkIndex", "(I[B)V"⟩
abbrev cJ2_checkBoundsBeginEnd_d044e : ByteArray := prog_28_method_93_code
def yJ2_checkBoundsBeginEnd_d044e : MethodName := ⟨RJ2, "checkBoundsBeginEnd", "(II[B)V"⟩
abbrev cJ2_checkBoundsOffCount_d044e : ByteArray := prog_28_method_94_code
def yJ2_checkBoundsOffCount_d044e : MethodName := ⟨RJ2, "checkBoundsOffCount", "(II[B)V"⟩
def RJ10 : String := "java/lang/System"
def TJ10 : u_T := fun k => match k with
  | _ => ("", "", "", false)
def tyJ10 : Nat → FieldType := fun k => match k with
  | _ => .int
abbrev wsJ100 : List Cond := u_ws RJ10 TJ10 0
theorem nmJ10 : ∀ a, a < 0 → ∀ b, b < 0 → a ≠ b → (TJ10 a).2.1 ≠ (TJ10 b).2.1 := by decide +kernel
theorem tyJ10_ok : ∀ k, k < 0 → parseFieldDescriptor (TJ10 k).2.2.1 = some (tyJ10 k) := by decide +kernel
def RJxfd54e : String := "java/lang/constant/Constable"
def TJxfd54e : u_T := fun k => match k with
  | _ => ("", "", "", false)
def tyJxfd54e : Nat → FieldType := fun k => match k with
  | _ => .int
abbrev wsJxfd54e0 : List Cond := u_ws RJxfd54e TJxfd54e 0
theorem nmJxfd54e : ∀ a, a < 0 → ∀ b, b < 0 → a ≠ b → (TJxfd54e a).2.1 ≠ (TJxfd54e b).2.1 := by decide +kernel
theorem tyJxfd54e_ok : ∀ k, k < 0 → parseFieldDescriptor (TJxfd54e k).2.2.1 = some (tyJxfd54e k) := by decide +kernel
def RJx3cf43 : String := "java/lang/constant/ConstantDesc"
def TJx3cf43 : u_T := fun k => match k with
  | _ => ("", "", "", false)
def tyJx3cf43 : Nat → FieldType := fun k => match k with
  | _ => .int
abbrev wsJx3cf430 : List Cond := u_ws RJx3cf43 TJx3cf43 0
theorem nmJx3cf43 : ∀ a, a < 0 → ∀ b, b < 0 → a ≠ b → (TJx3cf43 a).2.1 ≠ (TJx3cf43 b).2.1 := by decide +kernel
theorem tyJx3cf43_ok : ∀ k, k < 0 → parseFieldDescriptor (TJx3cf43 k).2.2.1 = some (tyJx3cf43 k) := by decide +kernel
def RJ7 : String := "java/util/Arrays"
def TJ7 : u_T := fun k => match k with
  | _ => ("", "", "", false)
def tyJ7 : Nat → FieldType := fun k => match k with
  | _ => .int
abbrev wsJ70 : List Cond := u_ws RJ7 TJ7 0
theorem nmJ7 : ∀ a, a < 0 → ∀ b, b < 0 → a ≠ b → (TJ7 a).2.1 ≠ (TJ7 b).2.1 := by decide +kernel
theorem tyJ7_ok : ∀ k, k < 0 → parseFieldDescriptor (TJ7 k).2.2.1 = some (tyJ7 k) := by decide +kernel
abbrev cJ7_copyOf_9075b : ByteArray := prog_31_method_121_code
def yJ7_copyOf_9075b : MethodName := ⟨RJ7, "copyOf", "([BI)[B"⟩
abbrev cJ7_checkLength_df160 : ByteArray := prog_31_method_131_code
def yJ7_checkLength_df160 : MethodName := ⟨RJ7, "checkLength", "(II)V"⟩
abbrev cJ7_copyOfRange_39247 : ByteArray := prog_31_method_132_code
def yJ7_copyOfRange_39247 : MethodName := ⟨RJ7, "copyOfRange", "([BII)[B"⟩
abbrev cJ7_copyOfRangeByte_39247 : ByteArray := prog_31_method_133_code
def yJ7_copyOfRangeByte_39247 : MethodName := ⟨RJ7, "copyOfRangeByte", "([BII)[B"⟩
def RJ8 : String := "jdk/internal/util/ArraysSupport"
def TJ8 : u_T := fun k => match k with
  | _ => ("", "", "", false)
def tyJ8 : Nat → FieldType := fun k => match k with
  | _ => .int
abbrev wsJ80 : List Cond := u_ws RJ8 TJ8 0
theorem nmJ8 : ∀ a, a < 0 → ∀ b, b < 0 → a ≠ b → (TJ8 a).2.1 ≠ (TJ8 b).2.1 := by decide +kernel
theorem tyJ8_ok : ∀ k, k < 0 → parseFieldDescriptor (TJ8 k).2.2.1 = some (tyJ8 k) := by decide +kernel
abbrev cJ8_newLength_cabcc : ByteArray := prog_32_method_27_code
def yJ8_newLength_cabcc : MethodName := ⟨RJ8, "newLength", "(III)I"⟩
abbrev cJ8_hugeLength_7cf53 : ByteArray := prog_32_method_28_code
def yJ8_hugeLength_7cf53 : MethodName := ⟨RJ8, "hugeLength", "(II)I"⟩
def RJ3 : String := "jdk/internal/util/Preconditions"
def TJ3 : u_T := fun k => match k with
  | _ => ("", "", "", false)
def tyJ3 : Nat → FieldType := fun k => match k with
  | _ => .int
abbrev wsJ30 : List Cond := u_ws RJ3 TJ3 0
theorem nmJ3 : ∀ a, a < 0 → ∀ b, b < 0 → a ≠ b → (TJ3 a).2.1 ≠ (TJ3 b).2.1 := by decide +kernel
theorem tyJ3_ok : ∀ k, k < 0 → parseFieldDescriptor (TJ3 k).2.2.1 = some (tyJ3 k) := by decide +kernel
abbrev cJ3_checkIndex_8e157 : ByteArray := prog_33_method_11_code
def yJ3_checkIndex_8e157 : MethodName := ⟨RJ3, "checkIndex", "(IILjava/util/function/BiFunction;)I"⟩
abbrev cJ3_checkFromToIndex_8c36e : ByteArray := prog_33_method_12_code
def yJ3_checkFromToIndex_8c36e : MethodName := ⟨RJ3, "checkFromToIndex", "(IIILjava/util/function/BiFunction;)I"⟩
abbrev cJ3_checkFromIndexSize_8c36e : ByteArray := prog_33_method_13_code
def yJ3_checkFromIndexSize_8c36e : MethodName := ⟨RJ3, "checkFromIndexSize", "(IIILjava/util/function/BiFunction;)I"⟩
def RL : String := "VectorVersionsLaw"
def TL : u_T := fun k => match k with
  | 0 => ("VectorVersionsLaw", "rows", "[[I", true)
  | 1 => ("VectorVersionsLaw", "size", "[I", true)
  | 2 => ("VectorVersionsLaw", "parent", "[I", true)
  | 3 => ("VectorVersionsLaw", "gone", "[Z", true)
  | 4 => ("VectorVersionsLaw", "seen", "[[I", true)
  | 5 => ("VectorVersionsLaw", "known", "[Z", true)
  | 6 => ("VectorVersionsLaw", "versions", "I", false)
  | _ => ("VectorVersionsLaw", "met", "I", false)
def tyL : Nat → FieldType := fun k => match k with
  | 0 => .array (.array .int)
  | 1 => .array .int
  | 2 => .array .int
  | 3 => .array .boolean
  | 4 => .array (.array .int)
  | 5 => .array .boolean
  | 6 => .int
  | _ => .int
theorem nmL : ∀ a, a < 8 → ∀ b, b < 8 → a ≠ b → (TL a).2.1 ≠ (TL b).2.1 := by decide +kernel
theorem tyL_ok : ∀ k, k < 8 → parseFieldDescriptor (TL k).2.2.1 = some (tyL k) := by decide +kernel
abbrev cL_init : ByteArray := method_1_code
def yL_init : MethodName := ⟨RL, "<init>", "()V"⟩
abbrev cL_cell : ByteArray := method_2_code
def yL_cell : MethodName := ⟨RL, "cell", "([II)I"⟩
abbrev cL_bits : ByteArray := method_3_code
def yL_bits : MethodName := ⟨RL, "bits", "(III)I"⟩
abbrev cL_told : ByteArray := method_4_code
def yL_told : MethodName := ⟨RL, "told", "(LVectorVersions;Ljava/lang/String;)V"⟩
abbrev cL_height : ByteArray := method_5_code
def yL_height : MethodName := ⟨RL, "height", "(I)I"⟩
abbrev cL_makes : ByteArray := method_6_code
def yL_makes : MethodName := ⟨RL, "makes", "(II)I"⟩
abbrev cL_isRefused : ByteArray := method_7_code
def yL_isRefused : MethodName := ⟨RL, "isRefused", "(LVectorVersions;IIII)Z"⟩
abbrev cL_acts : ByteArray := method_8_code
def yL_acts : MethodName := ⟨RL, "acts", "(LVectorVersions;I)Z"⟩
abbrev cL_isTree : ByteArray := method_9_code
def yL_isTree : MethodName := ⟨RL, "isTree", "(LVectorVersions;III)Z"⟩
abbrev cL_isLike : ByteArray := method_10_code
def yL_isLike : MethodName := ⟨RL, "isLike", "(LVectorVersions;)Z"⟩
abbrev cL_law : ByteArray := code
def yL_law : MethodName := ⟨RL, "law", "([I)Z"⟩
abbrev vwCl : List vw_C := [(RJ0, TJ0, 4), (RJ4, TJ4, 4), (RX0, TX0, 3), (RX1, TX1, 6), (RX2, TX2, 2), (RX3, TX3, 5), (RX4, TX4, 2), (RX5, TX5, 2), (RX6, TX6, 6), (RX7, TX7, 5), (RX8, TX8, 2), (RX9, TX9, 8), (RX10, TX10, 9), (RX11, TX11, 11), (RL, TL, 8)]
