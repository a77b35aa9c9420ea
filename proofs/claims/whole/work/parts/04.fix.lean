/-! what stays as it was at the start -/
def nestL : List (String × Nat × MethodName × String) := [("SeatHall", 9, ⟨"SeatHall$Reader", "<init>", "()V"⟩, "SeatHall"), ("SeatHall$Reader", 11, ⟨"SeatHall$Tape", "<init>", "()V"⟩, "SeatHall"), ("SeatHall$Told", 37, ⟨"SeatHall", "fillRow", "([II)V"⟩, "SeatHall"), ("SeatHall", 30, ⟨"SeatHall$Crowd", "<init>", "()V"⟩, "SeatHall"), ("SeatHall", 37, ⟨"SeatHall$Search", "<init>", "()V"⟩, "SeatHall"), ("SeatHall", 44, ⟨"SeatHall$Seating", "<init>", "()V"⟩, "SeatHall"), ("SeatHall", 51, ⟨"SeatHall$Run", "<init>", "()V"⟩, "SeatHall"), ("SeatHall$Tape", 19, ⟨"SeatHall", "put", "([III)V"⟩, "SeatHall"), ("SeatHall$Books", 72, ⟨"SeatHall", "at", "([II)I"⟩, "SeatHall"), ("SeatHall$Plan", 48, ⟨"SeatHall", "at", "([II)I"⟩, "SeatHall"), ("SeatHall$Told", 56, ⟨"SeatHall", "at", "([II)I"⟩, "SeatHall"), ("SeatHall$Seating", 61, ⟨"SeatHall", "at", "([II)I"⟩, "SeatHall"), ("SeatHall$Seating", 68, ⟨"SeatHall", "put", "([III)V"⟩, "SeatHall"), ("SeatHall$Seating", 39, ⟨"SeatHall", "copyRow", "([I[I)V"⟩, "SeatHall"), ("SeatHall$Run", 32, ⟨"SeatHall", "fillRow", "([II)V"⟩, "SeatHall"), ("SeatHall$Run", 36, ⟨"SeatHall", "copyRow", "([I[I)V"⟩, "SeatHall"), ("SeatHall$Reader", 51, ⟨"SeatHall", "at", "([II)I"⟩, "SeatHall"), ("SeatHall$Reader", 59, ⟨"SeatHall", "put", "([III)V"⟩, "SeatHall"), ("SeatHall$Plan", 64, ⟨"SeatHall", "fillWide", "([JJ)V"⟩, "SeatHall"), ("SeatHall$Plan", 52, ⟨"SeatHall", "atWide", "([JI)J"⟩, "SeatHall"), ("SeatHall$Plan", 99, ⟨"SeatHall", "putWide", "([JIJ)V"⟩, "SeatHall"), ("SeatHall$Plan", 117, ⟨"SeatHall", "put", "([III)V"⟩, "SeatHall"), ("SeatHall$Books", 68, ⟨"SeatHall", "put", "([III)V"⟩, "SeatHall"), ("SeatHall$Crowd", 22, ⟨"SeatHall", "fillRow", "([II)V"⟩, "SeatHall"), ("SeatHall$Crowd", 85, ⟨"SeatHall", "fillWide", "([JJ)V"⟩, "SeatHall"), ("SeatHall$Crowd", 91, ⟨"SeatHall", "putWide", "([JIJ)V"⟩, "SeatHall"), ("SeatHall$Crowd", 50, ⟨"SeatHall", "at", "([II)I"⟩, "SeatHall"), ("SeatHall$Crowd", 104, ⟨"SeatHall", "atWide", "([JI)J"⟩, "SeatHall"), ("SeatHall$Search", 41, ⟨"SeatHall", "copyRow", "([I[I)V"⟩, "SeatHall"), ("SeatHall$Search", 47, ⟨"SeatHall", "putWide", "([JIJ)V"⟩, "SeatHall"), ("SeatHall$Search", 51, ⟨"SeatHall", "put", "([III)V"⟩, "SeatHall"), ("SeatHall$Search", 98, ⟨"SeatHall", "atWide", "([JI)J"⟩, "SeatHall"), ("SeatHall$Crowd", 68, ⟨"SeatHall", "put", "([III)V"⟩, "SeatHall"), ("SeatHall$Search", 107, ⟨"SeatHall", "fillRow", "([II)V"⟩, "SeatHall"), ("SeatHall$Books", 148, ⟨"SeatHall", "copyRow", "([I[I)V"⟩, "SeatHall"), ("SeatHall$Run", 54, ⟨"SeatHall", "put", "([III)V"⟩, "SeatHall"), ("SeatHall$Run", 70, ⟨"SeatHall", "at", "([II)I"⟩, "SeatHall")]
def castL : List (String × String) := [("java/lang/IllegalArgumentException", "java/lang/IllegalArgumentException"), ("java/util/NoSuchElementException", "java/util/NoSuchElementException")]
def declL : List MethodName := [⟨"java/lang/RuntimeException", "<init>", "()V"⟩, ⟨"java/lang/RuntimeException", "<init>", "(Ljava/lang/String;)V"⟩, ⟨"java/lang/Exception", "<init>", "()V"⟩, ⟨"java/lang/Exception", "<init>", "(Ljava/lang/String;)V"⟩, ⟨"java/lang/Throwable", "<init>", "()V"⟩, ⟨"java/lang/Throwable", "<init>", "(Ljava/lang/String;)V"⟩]
def fxW : List Cond := nestL.map (fun q => .methodLinkNest q.1 q.2.1 q.2.2.1 q.2.2.2) ++ (castL.map (fun q => .castable q.1 q.2) ++ declL.map (fun q => .declares q))
def nJ : Nat := 19
def strI : List Nat := [72, 88, 92, 140, 97, 154, 160, 162, 164, 166, 168, 170, 102, 177, 107, 112, 117, 181, 122]
def strT : List String := ["chairs", "costs", "evening", "rain", "people", "comes", "thinks", "wet", "habit", "falls", "worth", "young", "seats", "adds", "year", "ten", "set", "of", "cheap"]
def strL : List Nat := [6, 5, 7, 4, 6, 5, 6, 3, 5, 5, 5, 5, 5, 4, 4, 3, 3, 2, 5]
def strB : List (List Int32) := [[99, 104, 97, 105, 114, 115], [99, 111, 115, 116, 115], [101, 118, 101, 110, 105, 110, 103], [114, 97, 105, 110], [112, 101, 111, 112, 108, 101], [99, 111, 109, 101, 115], [116, 104, 105, 110, 107, 115], [119, 101, 116], [104, 97, 98, 105, 116], [102, 97, 108, 108, 115], [119, 111, 114, 116, 104], [121, 111, 117, 110, 103], [115, 101, 97, 116, 115], [97, 100, 100, 115], [121, 101, 97, 114], [116, 101, 110], [115, 101, 116], [111, 102], [99, 104, 101, 97, 112]]
theorem nx0 : (Cond.methodLinkNest "SeatHall" 9 ⟨"SeatHall$Reader", "<init>", "()V"⟩ "SeatHall") ∈ fxW := List.mem_append.mpr (Or.inl (List.mem_map.mpr ⟨("SeatHall", 9, ⟨"SeatHall$Reader", "<init>", "()V"⟩, "SeatHall"), List.mem_of_getElem? (i := 0) rfl, rfl⟩))
theorem nx1 : (Cond.methodLinkNest "SeatHall$Reader" 11 ⟨"SeatHall$Tape", "<init>", "()V"⟩ "SeatHall") ∈ fxW := List.mem_append.mpr (Or.inl (List.mem_map.mpr ⟨("SeatHall$Reader", 11, ⟨"SeatHall$Tape", "<init>", "()V"⟩, "SeatHall"), List.mem_of_getElem? (i := 1) rfl, rfl⟩))
theorem nx2 : (Cond.methodLinkNest "SeatHall$Told" 37 ⟨"SeatHall", "fillRow", "([II)V"⟩ "SeatHall") ∈ fxW := List.mem_append.mpr (Or.inl (List.mem_map.mpr ⟨("SeatHall$Told", 37, ⟨"SeatHall", "fillRow", "([II)V"⟩, "SeatHall"), List.mem_of_getElem? (i := 2) rfl, rfl⟩))
theorem nx3 : (Cond.methodLinkNest "SeatHall" 30 ⟨"SeatHall$Crowd", "<init>", "()V"⟩ "SeatHall") ∈ fxW := List.mem_append.mpr (Or.inl (List.mem_map.mpr ⟨("SeatHall", 30, ⟨"SeatHall$Crowd", "<init>", "()V"⟩, "SeatHall"), List.mem_of_getElem? (i := 3) rfl, rfl⟩))
theorem nx4 : (Cond.methodLinkNest "SeatHall" 37 ⟨"SeatHall$Search", "<init>", "()V"⟩ "SeatHall") ∈ fxW := List.mem_append.mpr (Or.inl (List.mem_map.mpr ⟨("SeatHall", 37, ⟨"SeatHall$Search", "<init>", "()V"⟩, "SeatHall"), List.mem_of_getElem? (i := 4) rfl, rfl⟩))
theorem nx5 : (Cond.methodLinkNest "SeatHall" 44 ⟨"SeatHall$Seating", "<init>", "()V"⟩ "SeatHall") ∈ fxW := List.mem_append.mpr (Or.inl (List.mem_map.mpr ⟨("SeatHall", 44, ⟨"SeatHall$Seating", "<init>", "()V"⟩, "SeatHall"), List.mem_of_getElem? (i := 5) rfl, rfl⟩))
theorem nx6 : (Cond.methodLinkNest "SeatHall" 51 ⟨"SeatHall$Run", "<init>", "()V"⟩ "SeatHall") ∈ fxW := List.mem_append.mpr (Or.inl (List.mem_map.mpr ⟨("SeatHall", 51, ⟨"SeatHall$Run", "<init>", "()V"⟩, "SeatHall"), List.mem_of_getElem? (i := 6) rfl, rfl⟩))
theorem nx7 : (Cond.methodLinkNest "SeatHall$Tape" 19 ⟨"SeatHall", "put", "([III)V"⟩ "SeatHall") ∈ fxW := List.mem_append.mpr (Or.inl (List.mem_map.mpr ⟨("SeatHall$Tape", 19, ⟨"SeatHall", "put", "([III)V"⟩, "SeatHall"), List.mem_of_getElem? (i := 7) rfl, rfl⟩))
theorem nx8 : (Cond.methodLinkNest "SeatHall$Books" 72 ⟨"SeatHall", "at", "([II)I"⟩ "SeatHall") ∈ fxW := List.mem_append.mpr (Or.inl (List.mem_map.mpr ⟨("SeatHall$Books", 72, ⟨"SeatHall", "at", "([II)I"⟩, "SeatHall"), List.mem_of_getElem? (i := 8) rfl, rfl⟩))
theorem nx9 : (Cond.methodLinkNest "SeatHall$Plan" 48 ⟨"SeatHall", "at", "([II)I"⟩ "SeatHall") ∈ fxW := List.mem_append.mpr (Or.inl (List.mem_map.mpr ⟨("SeatHall$Plan", 48, ⟨"SeatHall", "at", "([II)I"⟩, "SeatHall"), List.mem_of_getElem? (i := 9) rfl, rfl⟩))
theorem nx10 : (Cond.methodLinkNest "SeatHall$Told" 56 ⟨"SeatHall", "at", "([II)I"⟩ "SeatHall") ∈ fxW := List.mem_append.mpr (Or.inl (List.mem_map.mpr ⟨("SeatHall$Told", 56, ⟨"SeatHall", "at", "([II)I"⟩, "SeatHall"), List.mem_of_getElem? (i := 10) rfl, rfl⟩))
theorem nx11 : (Cond.methodLinkNest "SeatHall$Seating" 61 ⟨"SeatHall", "at", "([II)I"⟩ "SeatHall") ∈ fxW := List.mem_append.mpr (Or.inl (List.mem_map.mpr ⟨("SeatHall$Seating", 61, ⟨"SeatHall", "at", "([II)I"⟩, "SeatHall"), List.mem_of_getElem? (i := 11) rfl, rfl⟩))
theorem nx12 : (Cond.methodLinkNest "SeatHall$Seating" 68 ⟨"SeatHall", "put", "([III)V"⟩ "SeatHall") ∈ fxW := List.mem_append.mpr (Or.inl (List.mem_map.mpr ⟨("SeatHall$Seating", 68, ⟨"SeatHall", "put", "([III)V"⟩, "SeatHall"), List.mem_of_getElem? (i := 12) rfl, rfl⟩))
theorem nx13 : (Cond.methodLinkNest "SeatHall$Seating" 39 ⟨"SeatHall", "copyRow", "([I[I)V"⟩ "SeatHall") ∈ fxW := List.mem_append.mpr (Or.inl (List.mem_map.mpr ⟨("SeatHall$Seating", 39, ⟨"SeatHall", "copyRow", "([I[I)V"⟩, "SeatHall"), List.mem_of_getElem? (i := 13) rfl, rfl⟩))
theorem nx14 : (Cond.methodLinkNest "SeatHall$Run" 32 ⟨"SeatHall", "fillRow", "([II)V"⟩ "SeatHall") ∈ fxW := List.mem_append.mpr (Or.inl (List.mem_map.mpr ⟨("SeatHall$Run", 32, ⟨"SeatHall", "fillRow", "([II)V"⟩, "SeatHall"), List.mem_of_getElem? (i := 14) rfl, rfl⟩))
theorem nx15 : (Cond.methodLinkNest "SeatHall$Run" 36 ⟨"SeatHall", "copyRow", "([I[I)V"⟩ "SeatHall") ∈ fxW := List.mem_append.mpr (Or.inl (List.mem_map.mpr ⟨("SeatHall$Run", 36, ⟨"SeatHall", "copyRow", "([I[I)V"⟩, "SeatHall"), List.mem_of_getElem? (i := 15) rfl, rfl⟩))
theorem nx16 : (Cond.methodLinkNest "SeatHall$Reader" 51 ⟨"SeatHall", "at", "([II)I"⟩ "SeatHall") ∈ fxW := List.mem_append.mpr (Or.inl (List.mem_map.mpr ⟨("SeatHall$Reader", 51, ⟨"SeatHall", "at", "([II)I"⟩, "SeatHall"), List.mem_of_getElem? (i := 16) rfl, rfl⟩))
theorem nx17 : (Cond.methodLinkNest "SeatHall$Reader" 59 ⟨"SeatHall", "put", "([III)V"⟩ "SeatHall") ∈ fxW := List.mem_append.mpr (Or.inl (List.mem_map.mpr ⟨("SeatHall$Reader", 59, ⟨"SeatHall", "put", "([III)V"⟩, "SeatHall"), List.mem_of_getElem? (i := 17) rfl, rfl⟩))
theorem nx18 : (Cond.methodLinkNest "SeatHall$Plan" 64 ⟨"SeatHall", "fillWide", "([JJ)V"⟩ "SeatHall") ∈ fxW := List.mem_append.mpr (Or.inl (List.mem_map.mpr ⟨("SeatHall$Plan", 64, ⟨"SeatHall", "fillWide", "([JJ)V"⟩, "SeatHall"), List.mem_of_getElem? (i := 18) rfl, rfl⟩))
theorem nx19 : (Cond.methodLinkNest "SeatHall$Plan" 52 ⟨"SeatHall", "atWide", "([JI)J"⟩ "SeatHall") ∈ fxW := List.mem_append.mpr (Or.inl (List.mem_map.mpr ⟨("SeatHall$Plan", 52, ⟨"SeatHall", "atWide", "([JI)J"⟩, "SeatHall"), List.mem_of_getElem? (i := 19) rfl, rfl⟩))
theorem nx20 : (Cond.methodLinkNest "SeatHall$Plan" 99 ⟨"SeatHall", "putWide", "([JIJ)V"⟩ "SeatHall") ∈ fxW := List.mem_append.mpr (Or.inl (List.mem_map.mpr ⟨("SeatHall$Plan", 99, ⟨"SeatHall", "putWide", "([JIJ)V"⟩, "SeatHall"), List.mem_of_getElem? (i := 20) rfl, rfl⟩))
theorem nx21 : (Cond.methodLinkNest "SeatHall$Plan" 117 ⟨"SeatHall", "put", "([III)V"⟩ "SeatHall") ∈ fxW := List.mem_append.mpr (Or.inl (List.mem_map.mpr ⟨("SeatHall$Plan", 117, ⟨"SeatHall", "put", "([III)V"⟩, "SeatHall"), List.mem_of_getElem? (i := 21) rfl, rfl⟩))
theorem nx22 : (Cond.methodLinkNest "SeatHall$Books" 68 ⟨"SeatHall", "put", "([III)V"⟩ "SeatHall") ∈ fxW := List.mem_append.mpr (Or.inl (List.mem_map.mpr ⟨("SeatHall$Books", 68, ⟨"SeatHall", "put", "([III)V"⟩, "SeatHall"), List.mem_of_getElem? (i := 22) rfl, rfl⟩))
theorem nx23 : (Cond.methodLinkNest "SeatHall$Crowd" 22 ⟨"SeatHall", "fillRow", "([II)V"⟩ "SeatHall") ∈ fxW := List.mem_append.mpr (Or.inl (List.mem_map.mpr ⟨("SeatHall$Crowd", 22, ⟨"SeatHall", "fillRow", "([II)V"⟩, "SeatHall"), List.mem_of_getElem? (i := 23) rfl, rfl⟩))
theorem nx24 : (Cond.methodLinkNest "SeatHall$Crowd" 85 ⟨"SeatHall", "fillWide", "([JJ)V"⟩ "SeatHall") ∈ fxW := List.mem_append.mpr (Or.inl (List.mem_map.mpr ⟨("SeatHall$Crowd", 85, ⟨"SeatHall", "fillWide", "([JJ)V"⟩, "SeatHall"), List.mem_of_getElem? (i := 24) rfl, rfl⟩))
theorem nx25 : (Cond.methodLinkNest "SeatHall$Crowd" 91 ⟨"SeatHall", "putWide", "([JIJ)V"⟩ "SeatHall") ∈ fxW := List.mem_append.mpr (Or.inl (List.mem_map.mpr ⟨("SeatHall$Crowd", 91, ⟨"SeatHall", "putWide", "([JIJ)V"⟩, "SeatHall"), List.mem_of_getElem? (i := 25) rfl, rfl⟩))
theorem nx26 : (Cond.methodLinkNest "SeatHall$Crowd" 50 ⟨"SeatHall", "at", "([II)I"⟩ "SeatHall") ∈ fxW := List.mem_append.mpr (Or.inl (List.mem_map.mpr ⟨("SeatHall$Crowd", 50, ⟨"SeatHall", "at", "([II)I"⟩, "SeatHall"), List.mem_of_getElem? (i := 26) rfl, rfl⟩))
theorem nx27 : (Cond.methodLinkNest "SeatHall$Crowd" 104 ⟨"SeatHall", "atWide", "([JI)J"⟩ "SeatHall") ∈ fxW := List.mem_append.mpr (Or.inl (List.mem_map.mpr ⟨("SeatHall$Crowd", 104, ⟨"SeatHall", "atWide", "([JI)J"⟩, "SeatHall"), List.mem_of_getElem? (i := 27) rfl, rfl⟩))
theorem nx28 : (Cond.methodLinkNest "SeatHall$Search" 41 ⟨"SeatHall", "copyRow", "([I[I)V"⟩ "SeatHall") ∈ fxW := List.mem_append.mpr (Or.inl (List.mem_map.mpr ⟨("SeatHall$Search", 41, ⟨"SeatHall", "copyRow", "([I[I)V"⟩, "SeatHall"), List.mem_of_getElem? (i := 28) rfl, rfl⟩))
theorem nx29 : (Cond.methodLinkNest "SeatHall$Search" 47 ⟨"SeatHall", "putWide", "([JIJ)V"⟩ "SeatHall") ∈ fxW := List.mem_append.mpr (Or.inl (List.mem_map.mpr ⟨("SeatHall$Search", 47, ⟨"SeatHall", "putWide", "([JIJ)V"⟩, "SeatHall"), List.mem_of_getElem? (i := 29) rfl, rfl⟩))
theorem nx30 : (Cond.methodLinkNest "SeatHall$Search" 51 ⟨"SeatHall", "put", "([III)V"⟩ "SeatHall") ∈ fxW := List.mem_append.mpr (Or.inl (List.mem_map.mpr ⟨("SeatHall$Search", 51, ⟨"SeatHall", "put", "([III)V"⟩, "SeatHall"), List.mem_of_getElem? (i := 30) rfl, rfl⟩))
theorem nx31 : (Cond.methodLinkNest "SeatHall$Search" 98 ⟨"SeatHall", "atWide", "([JI)J"⟩ "SeatHall") ∈ fxW := List.mem_append.mpr (Or.inl (List.mem_map.mpr ⟨("SeatHall$Search", 98, ⟨"SeatHall", "atWide", "([JI)J"⟩, "SeatHall"), List.mem_of_getElem? (i := 31) rfl, rfl⟩))
theorem nx32 : (Cond.methodLinkNest "SeatHall$Crowd" 68 ⟨"SeatHall", "put", "([III)V"⟩ "SeatHall") ∈ fxW := List.mem_append.mpr (Or.inl (List.mem_map.mpr ⟨("SeatHall$Crowd", 68, ⟨"SeatHall", "put", "([III)V"⟩, "SeatHall"), List.mem_of_getElem? (i := 32) rfl, rfl⟩))
theorem nx33 : (Cond.methodLinkNest "SeatHall$Search" 107 ⟨"SeatHall", "fillRow", "([II)V"⟩ "SeatHall") ∈ fxW := List.mem_append.mpr (Or.inl (List.mem_map.mpr ⟨("SeatHall$Search", 107, ⟨"SeatHall", "fillRow", "([II)V"⟩, "SeatHall"), List.mem_of_getElem? (i := 33) rfl, rfl⟩))
theorem nx34 : (Cond.methodLinkNest "SeatHall$Books" 148 ⟨"SeatHall", "copyRow", "([I[I)V"⟩ "SeatHall") ∈ fxW := List.mem_append.mpr (Or.inl (List.mem_map.mpr ⟨("SeatHall$Books", 148, ⟨"SeatHall", "copyRow", "([I[I)V"⟩, "SeatHall"), List.mem_of_getElem? (i := 34) rfl, rfl⟩))
theorem nx35 : (Cond.methodLinkNest "SeatHall$Run" 54 ⟨"SeatHall", "put", "([III)V"⟩ "SeatHall") ∈ fxW := List.mem_append.mpr (Or.inl (List.mem_map.mpr ⟨("SeatHall$Run", 54, ⟨"SeatHall", "put", "([III)V"⟩, "SeatHall"), List.mem_of_getElem? (i := 35) rfl, rfl⟩))
theorem nx36 : (Cond.methodLinkNest "SeatHall$Run" 70 ⟨"SeatHall", "at", "([II)I"⟩ "SeatHall") ∈ fxW := List.mem_append.mpr (Or.inl (List.mem_map.mpr ⟨("SeatHall$Run", 70, ⟨"SeatHall", "at", "([II)I"⟩, "SeatHall"), List.mem_of_getElem? (i := 36) rfl, rfl⟩))
theorem fx_tbl : ∀ w ∈ fxW, w ∈ lw_tbl := by decide +kernel
def strFacts (g : GP) (U : State) (H : Heap) : Prop := (∀ i : Nat, i < nJ → vk_R RX3 (strI.getD i 0) (strT.getD i "") (g.2.2.2.2.1 i) U) ∧ vk_S nJ strL strB g.2.2.2.2.1 g.2.2.2.2.2 (gA g) U H
def fm (g : GP) : Value := if g.2.2.2.2.2 501 = 0 then .null else .ref (g.2.2.2.2.2 500)
def fmA (g : GP) : Value := if g.2.2.2.2.2 501 = 0 then .null else .ref 200500
def Fx (g : GP) (U : State) (H : Heap) : Prop := (∀ w ∈ fxW, va_Nw w U) ∧ strFacts g U H ∧ vx_Zq Bundle.tN "UNASSIGNED_STACK" Bundle.steD (gA g) U H ∧ vx_Zq Bundle.tN "SUPPRESSED_SENTINEL" Bundle.listD (gA g) U H ∧ va_Z "java/lang/String" "COMPACT_STRINGS" "Z" (.int 1) (gA g) U H ∧ va_Nc "java/lang/IllegalArgumentException" "java/util/NoSuchElementException" U ∧ va_AO "SeatHall$Plan" U ∧ va_Z "jdk/internal/util/Preconditions" "SIOOBE_FORMATTER" "Ljava/util/function/BiFunction;" (fm g) (gA g) U H
theorem fx_word_warm {s U : State} (hW : s.WarmedH U.vm) {w : Cond} (hw : w ∈ fxW) (h : va_Nw w s) : va_Nw w U := by
  rcases List.mem_append.mp hw with hw | hw
  · obtain ⟨q, -, rfl⟩ := List.mem_map.mp hw
    exact va_Nw.warmM hW h
  rcases List.mem_append.mp hw with hw | hw
  · obtain ⟨q, -, rfl⟩ := List.mem_map.mp hw
    have h1 : (Cond.castable q.1 q.2).before #[] (s.setVm U.vm) = true := Cond.before_shiftedFace (State.Shifted.of_warmed hW) _ rfl h
    exact va_tabs rfl (rfl : (s.setVm U.vm).vm = U.vm) h1
  · obtain ⟨q, -, rfl⟩ := List.mem_map.mp hw
    have h1 : (Cond.declares q).before #[] (s.setVm U.vm) = true := Cond.before_shiftedFace (State.Shifted.of_warmed hW) _ rfl h
    exact va_tabs rfl (rfl : (s.setVm U.vm).vm = U.vm) h1
theorem Fx.warm {g : GP} {s U : State} {H : Heap} (hW : s.WarmedH U.vm) (h : Fx g s H) : Fx g U H :=
  ⟨fun w hw => fx_word_warm hW hw (h.1 w hw), ⟨fun i hi => vk_R.warm hW (h.2.1.1 i hi), vk_S.moved hW.alike h.2.1.2⟩, vx_Zq.moved hW.alike h.2.2.1, vx_Zq.moved hW.alike h.2.2.2.1, va_Z.moved hW.alike h.2.2.2.2.1, va_Nc.moved hW.alike h.2.2.2.2.2.1, va_AO.moved hW.alike h.2.2.2.2.2.2.1, va_Z.moved hW.alike h.2.2.2.2.2.2.2⟩
theorem Fx.kept {g : GP} {U : State} {H H1 : Heap} (h : Fx g U H) (hq : ∀ a : Nat, a < H.size → ¬ gA g a → H1[a]? = H[a]?) : Fx g U H1 :=
  ⟨h.1, ⟨h.2.1.1, vk_S.kept h.2.1.2 hq⟩, h.2.2.1.kept hq, h.2.2.2.1.kept hq, va_Z.kept h.2.2.2.2.1 hq, h.2.2.2.2.2.1, h.2.2.2.2.2.2.1, va_Z.kept h.2.2.2.2.2.2.2 hq⟩
theorem Fx.same {g : GP} {u U : State} {H : Heap} (hvm : U.vm = u.vm) (h : Fx g u H) : Fx g U H := by
  have ha : u.vm.Alike U.vm := by rw [hvm]; exact Vm.Alike.refl _
  refine ⟨fun w hw => ?_, ⟨fun i hi => vk_R.same hvm (h.2.1.1 i hi), vk_S.moved ha h.2.1.2⟩, vx_Zq.moved ha h.2.2.1, vx_Zq.moved ha h.2.2.2.1, va_Z.moved ha h.2.2.2.2.1, va_Nc.moved ha h.2.2.2.2.2.1, va_AO.moved ha h.2.2.2.2.2.2.1, va_Z.moved ha h.2.2.2.2.2.2.2⟩
  rcases List.mem_append.mp hw with hw' | hw'
  · obtain ⟨q, -, rfl⟩ := List.mem_map.mp hw'
    exact va_Nw.same rfl hvm.symm (h.1 _ hw)
  rcases List.mem_append.mp hw' with hw' | hw'
  · obtain ⟨q, -, rfl⟩ := List.mem_map.mp hw'
    exact va_Nw.same rfl hvm.symm (h.1 _ hw)
  · obtain ⟨q, -, rfl⟩ := List.mem_map.mp hw'
    exact va_Nw.same rfl hvm.symm (h.1 _ hw)
/-! contracts and the abstract walk -/
def Rm (lev mc ms : Nat) : Room := { frames := lev, cells := mc, slots := ms, locals := 41 * lev }
def exN (E : Nat) : String := match E with
  | 0 => "java/util/NoSuchElementException"
  | _ => "java/lang/IllegalArgumentException"
abbrev trs (g : GP) (av : List Value) : List Value := av.map (tr g)
def Pre (g : GP) (n : Nat) (ex : Bool) (h : AH) (U : State) : Prop := Wo g n ex h U.heap ∧ va_K g.2.1 classes (tysOf g) U ∧ Fx g U U.heap
def QR (g : GP) (n : Nat) (ex : Bool) (h : AH) (r : Option Value) : Array Value → State → Outcome → State → Prop := fun _ st oc t => oc = .returned (r.map (tr g)) ∧ Wo g n ex h t.heap ∧ va_F (gA g) st t
def XR (g : GP) (n : Nat) (h : AH) (E : Nat) : String → State → State → Prop := fun C st t => C = exN E ∧ Wo g n false h t.heap ∧ va_F (gA g) st t
def QN : Array Value → State → Outcome → State → Prop := fun _ _ _ _ => False
def wsY (y : MethodName) (cy : ByteArray) (mL : Nat) (ret : Option FieldType) : List Cond := .code y cy mL ret :: W0
/-- a method returns r and leaves the cells as h' -/
def Ctr (g : GP) (y : MethodName) (ws : List Cond) (lev mc ms : Nat) (av : List Value) (n : Nat) (ex : Bool) (h : AH) (r : Option Value) (n' : Nat) (ex' : Bool) (h' : AH) : Prop :=
  Met g.1 y ws (Rm lev mc ms) (va_Pc (trs g av) (Pre g n ex h)) (QR g n' ex' h' r) mc ms (gA g)
/-- a method throws E and leaves the cells as h' -/
def CtrX (g : GP) (y : MethodName) (ws : List Cond) (lev : Nat) (av : List Value) (n : Nat) (h : AH) (E : Nat) (h' : AH) : Prop :=
  vx_Met g.1 y ws (Rm lev 1 6) (va_Pc (trs g av) (Pre g n false h)) QN (XR g n h' E) 1 6 (gA g)
/-- what holds all through a body -/
def Cx (g : GP) (own : String) (cc : ByteArray) (lev mc ms : Nat) (ret : Option FieldType) (tb : List ExceptionTableEntry) (X : MX) : Prop :=
  X.1.tables.exec = Jvm.exec ∧ X.c.code = cc ∧ X.s.vm.findClass own = some X.m.cls ∧ (∀ w ∈ W0, w.before X.2.2.2.2.2.1 X.s = true) ∧ va_K g.2.1 classes (tysOf g) X.s ∧ Fx g X.s X.s.heap ∧ gB g ≤ X.s.heap.size ∧
  (lev ≤ X.R.frames ∧ 41 * lev ≤ X.R.locals ∧ X.R.cells = mc ∧ X.R.slots = ms) ∧ X.meth.locks = false ∧ X.meth.sig.returnType = ret ∧ X.c.exceptionTable.toList = tb ∧ g.1.stackTraces = false
def WX (g : GP) (X : MX) (H : Heap) (locs : List Loc) (nc ns : Nat) (Q : State → Prop) (f : JFrame) : Prop := W X.1 g.1 X.2.1 X.R X.s X.m X.2.2.2.2.2.1 X.2.2.2.2.2.2.1 X.meth X.c H locs nc ns Q f
/-- the abstract walk: from any heap that holds h -/
def AW (g : GP) (X : MX) (n : Nat) (ex : Bool) (nc ns : Nat) (Q : State → Prop) (h : AH) (pc : Nat) (lv st : List Value) : Prop :=
  ∀ (ls : Array Slot) (H : Heap) (locs : List Loc), lvR g X.c.maxLocals lv ls → Wo g n ex h H → va_S (gA g) X.s.heap H locs → WX g X H locs nc ns Q (F0 X.m pc ls (st.map (tr g)))
/-- what a body owes: a return, or an exception that leaves it -/
def QQ (g : GP) (X : MX) (n : Nat) (ex : Bool) (h : AH) (o : Option Value ⊕ Nat) (mc ms : Nat) : State → Prop := match o with
  | .inl r => MQ X.2.2.2.2.2.2.1 (QR g n ex h r) X.2.2.2.2.2.1 X.s mc ms (gA g)
  | .inr E => vx_MQ X.2.2.2.2.2.2.1 QN (XR g n h E) X.2.2.2.2.2.1 X.s mc ms (gA g)
