/-! the tables' words that are used by themselves: private methods of nest mates, String constants -/
def nestL : List (String × Nat × MethodName × String) := [("VectorVersions", 9, ⟨"VectorVersions$Store", "<init>", "()V"⟩, "VectorVersions"), ("VectorVersions$Store", 11, ⟨"VectorVersions$Nodes", "<init>", "()V"⟩, "VectorVersions"), ("VectorVersions$Store", 20, ⟨"VectorVersions$Versions", "<init>", "()V"⟩, "VectorVersions"), ("VectorVersions", 39, ⟨"VectorVersions$History", "<init>", "()V"⟩, "VectorVersions"), ("VectorVersions", 46, ⟨"VectorVersions$Input", "<init>", "()V"⟩, "VectorVersions"), ("VectorVersions", 78, ⟨"VectorVersions$Output", "<init>", "()V"⟩, "VectorVersions"), ("VectorVersions$Store", 52, ⟨"VectorVersions", "positionIn", "(II)I"⟩, "VectorVersions"), ("VectorVersions$Nodes", 60, ⟨"VectorVersions", "put", "([III)V"⟩, "VectorVersions"), ("VectorVersions$Nodes", 64, ⟨"VectorVersions", "putFlag", "([ZIZ)V"⟩, "VectorVersions"), ("VectorVersions$Store", 59, ⟨"VectorVersions", "at", "([II)I"⟩, "VectorVersions"), ("VectorVersions$Store", 40, ⟨"VectorVersions", "heightFor", "(I)I"⟩, "VectorVersions"), ("VectorVersions$Versions", 41, ⟨"VectorVersions", "copyRow", "([I[I)V"⟩, "VectorVersions"), ("VectorVersions$Versions", 53, ⟨"VectorVersions", "put", "([III)V"⟩, "VectorVersions"), ("VectorVersions$Versions", 57, ⟨"VectorVersions", "putFlag", "([ZIZ)V"⟩, "VectorVersions"), ("VectorVersions$Setup", 63, ⟨"VectorVersions", "put", "([III)V"⟩, "VectorVersions"), ("VectorVersions$Input", 23, ⟨"VectorVersions", "put", "([III)V"⟩, "VectorVersions"), ("VectorVersions$Versions", 65, ⟨"VectorVersions", "flagAt", "([ZI)Z"⟩, "VectorVersions"), ("VectorVersions$Versions", 69, ⟨"VectorVersions", "at", "([II)I"⟩, "VectorVersions"), ("VectorVersions$Versions", 96, ⟨"VectorVersions", "isElementValue", "(I)Z"⟩, "VectorVersions"), ("VectorVersions$History", 41, ⟨"VectorVersions", "put", "([III)V"⟩, "VectorVersions"), ("VectorVersions$History", 55, ⟨"VectorVersions", "copyFlags", "([ZI[ZII)V"⟩, "VectorVersions"), ("VectorVersions$Nodes", 45, ⟨"VectorVersions", "at", "([II)I"⟩, "VectorVersions"), ("VectorVersions$Store", 114, ⟨"VectorVersions", "capacity", "(I)I"⟩, "VectorVersions"), ("VectorVersions$Reach", 88, ⟨"VectorVersions", "flagAt", "([ZI)Z"⟩, "VectorVersions"), ("VectorVersions$Reach", 52, ⟨"VectorVersions", "putFlag", "([ZIZ)V"⟩, "VectorVersions"), ("VectorVersions$Nodes", 37, ⟨"VectorVersions", "flagAt", "([ZI)Z"⟩, "VectorVersions"), ("VectorVersions$Check", 117, ⟨"VectorVersions", "putFlag", "([ZIZ)V"⟩, "VectorVersions"), ("VectorVersions$Check", 107, ⟨"VectorVersions", "flagAt", "([ZI)Z"⟩, "VectorVersions")]
def strL : List (String × Nat × String × Nat) := [("VectorVersions$Tokens", 66, "list", 0), ("VectorVersions$Tokens", 72, "minus", 1), ("VectorVersions$Tokens", 74, "set", 2), ("VectorVersions$Tokens", 76, "append", 3), ("VectorVersions$Tokens", 78, "truncate", 4), ("VectorVersions$Tokens", 80, "release", 5), ("VectorVersions$Tokens", 82, "collect", 6), ("VectorVersions", 337, "there is no such version, element or node", 7), ("VectorVersions", 342, "the value or size is outside its range", 8), ("VectorVersions", 347, "the version is released, or there is no room for another", 9), ("VectorVersionsLaw", 161, "list", 0), ("VectorVersionsLaw", 166, " minus ", 10), ("VectorVersionsLaw", 168, " ", 11)]
def lensL : List Nat := [4, 5, 3, 6, 8, 7, 7, 41, 38, 56, 7, 1]
def bytL : List (List Int32) := [[108, 105, 115, 116], [109, 105, 110, 117, 115], [115, 101, 116], [97, 112, 112, 101, 110, 100], [116, 114, 117, 110, 99, 97, 116, 101], [114, 101, 108, 101, 97, 115, 101], [99, 111, 108, 108, 101, 99, 116], [116, 104, 101, 114, 101, 32, 105, 115, 32, 110, 111, 32, 115, 117, 99, 104, 32, 118, 101, 114, 115, 105, 111, 110, 44, 32, 101, 108, 101, 109, 101, 110, 116, 32, 111, 114, 32, 110, 111, 100, 101], [116, 104, 101, 32, 118, 97, 108, 117, 101, 32, 111, 114, 32, 115, 105, 122, 101, 32, 105, 115, 32, 111, 117, 116, 115, 105, 100, 101, 32, 105, 116, 115, 32, 114, 97, 110, 103, 101], [116, 104, 101, 32, 118, 101, 114, 115, 105, 111, 110, 32, 105, 115, 32, 114, 101, 108, 101, 97, 115, 101, 100, 44, 32, 111, 114, 32, 116, 104, 101, 114, 101, 32, 105, 115, 32, 110, 111, 32, 114, 111, 111, 109, 32, 102, 111, 114, 32, 97, 110, 111, 116, 104, 101, 114], [32, 109, 105, 110, 117, 115, 32], [32]]
theorem tb_1 {w : Cond} (h : w ∈ tables_1_1) (hg : goodWord w = true) : w ∈ wsA := wsA_in (List.mem_append_right _ (by
  unfold tables_1
  simp only [List.mem_append]
  simp [h])) hg
theorem tb_2 {w : Cond} (h : w ∈ tables_1_2) (hg : goodWord w = true) : w ∈ wsA := wsA_in (List.mem_append_right _ (by
  unfold tables_1
  simp only [List.mem_append]
  simp [h])) hg
theorem tb_3 {w : Cond} (h : w ∈ tables_1_3) (hg : goodWord w = true) : w ∈ wsA := wsA_in (List.mem_append_right _ (by
  unfold tables_1
  simp only [List.mem_append]
  simp [h])) hg
theorem tb_4 {w : Cond} (h : w ∈ tables_1_4) (hg : goodWord w = true) : w ∈ wsA := wsA_in (List.mem_append_right _ (by
  unfold tables_1
  simp only [List.mem_append]
  simp [h])) hg
theorem tb_5 {w : Cond} (h : w ∈ tables_1_5) (hg : goodWord w = true) : w ∈ wsA := wsA_in (List.mem_append_right _ (by
  unfold tables_1
  simp only [List.mem_append]
  simp [h])) hg
theorem tb_6 {w : Cond} (h : w ∈ tables_1_6) (hg : goodWord w = true) : w ∈ wsA := wsA_in (List.mem_append_right _ (by
  unfold tables_1
  simp only [List.mem_append]
  simp [h])) hg
