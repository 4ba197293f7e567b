/-! names, tables, shapes, words (laid by program) -/
abbrev zSh : Type := Nat ⊕ (Nat × List (Option Nat))
def F_BitStream : u_T := fun k => match k with
  | 0 => ("RingPacker$BitStream", "bytes", "[I", true)
  | 1 => ("RingPacker$BitStream", "count", "I", false)
  | 2 => ("RingPacker$BitStream", "place", "I", false)
  | _ => ("RingPacker$BitStream", "overrun", "Z", false)
def t_BitStream : Nat → FieldType := fun k => match k with
  | 0 => .array .int
  | 1 => .int
  | 2 => .int
  | _ => .boolean
theorem n_BitStream_ok : ∀ a, a < 4 → ∀ b, b < 4 → a ≠ b → (F_BitStream a).2.1 ≠ (F_BitStream b).2.1 := by decide +kernel
theorem t_BitStream_ok : ∀ k, k < 4 → parseFieldDescriptor (F_BitStream k).2.2.1 = some (t_BitStream k) := by decide +kernel
def F_Code : u_T := fun k => match k with
  | 0 => ("RingPacker$Code", "symbolCount", "I", true)
  | 1 => ("RingPacker$Code", "numberBits", "I", true)
  | 2 => ("RingPacker$Code", "times", "[I", true)
  | 3 => ("RingPacker$Code", "bits", "[I", true)
  | 4 => ("RingPacker$Code", "codeWord", "[I", true)
  | 5 => ("RingPacker$Code", "listed", "[I", true)
  | _ => ("RingPacker$Code", "listedCount", "I", false)
def t_Code : Nat → FieldType := fun k => match k with
  | 0 => .int
  | 1 => .int
  | 2 => .array .int
  | 3 => .array .int
  | 4 => .array .int
  | 5 => .array .int
  | _ => .int
theorem n_Code_ok : ∀ a, a < 7 → ∀ b, b < 7 → a ≠ b → (F_Code a).2.1 ≠ (F_Code b).2.1 := by decide +kernel
theorem t_Code_ok : ∀ k, k < 7 → parseFieldDescriptor (F_Code k).2.2.1 = some (t_Code k) := by decide +kernel
def F_Codes : u_T := fun k => match k with
  | 0 => ("RingPacker$Codes", "literalA", "LRingPacker$Code;", true)
  | 1 => ("RingPacker$Codes", "literalB", "LRingPacker$Code;", true)
  | 2 => ("RingPacker$Codes", "command", "LRingPacker$Code;", true)
  | _ => ("RingPacker$Codes", "distance", "LRingPacker$Code;", true)
def t_Codes : Nat → FieldType := fun k => match k with
  | 0 => .object "RingPacker$Code"
  | 1 => .object "RingPacker$Code"
  | 2 => .object "RingPacker$Code"
  | _ => .object "RingPacker$Code"
theorem n_Codes_ok : ∀ a, a < 4 → ∀ b, b < 4 → a ≠ b → (F_Codes a).2.1 ≠ (F_Codes b).2.1 := by decide +kernel
theorem t_Codes_ok : ∀ k, k < 4 → parseFieldDescriptor (F_Codes k).2.2.1 = some (t_Codes k) := by decide +kernel
def F_Counts : u_T := fun k => match k with
  | 0 => ("RingPacker$Counts", "codedBlocks", "I", false)
  | 1 => ("RingPacker$Counts", "plainCopies", "I", false)
  | 2 => ("RingPacker$Counts", "wordCopies", "I", false)
  | _ => ("RingPacker$Counts", "codeWords", "I", false)
def t_Counts : Nat → FieldType := fun k => match k with
  | 0 => .int
  | 1 => .int
  | 2 => .int
  | _ => .int
theorem n_Counts_ok : ∀ a, a < 4 → ∀ b, b < 4 → a ≠ b → (F_Counts a).2.1 ≠ (F_Counts b).2.1 := by decide +kernel
theorem t_Counts_ok : ∀ k, k < 4 → parseFieldDescriptor (F_Counts k).2.2.1 = some (t_Counts k) := by decide +kernel
def F_Finder : u_T := fun k => match k with
  | 0 => ("RingPacker$Finder", "copyBytes", "I", false)
  | 1 => ("RingPacker$Finder", "copyDistance", "I", false)
  | 2 => ("RingPacker$Finder", "wordBytes", "I", false)
  | 3 => ("RingPacker$Finder", "wordLength", "I", false)
  | _ => ("RingPacker$Finder", "wordIndex", "I", false)
def t_Finder : Nat → FieldType := fun k => match k with
  | 0 => .int
  | 1 => .int
  | 2 => .int
  | 3 => .int
  | _ => .int
theorem n_Finder_ok : ∀ a, a < 5 → ∀ b, b < 5 → a ≠ b → (F_Finder a).2.1 ≠ (F_Finder b).2.1 := by decide +kernel
theorem t_Finder_ok : ∀ k, k < 5 → parseFieldDescriptor (F_Finder k).2.2.1 = some (t_Finder k) := by decide +kernel
def F_Packer : u_T := fun k => match k with
  | 0 => ("RingPacker$Packer", "counts", "LRingPacker$Counts;", true)
  | 1 => ("RingPacker$Packer", "ring", "LRingPacker$Ring;", true)
  | 2 => ("RingPacker$Packer", "codes", "LRingPacker$Codes;", true)
  | _ => ("RingPacker$Packer", "plan", "LRingPacker$Plan;", true)
def t_Packer : Nat → FieldType := fun k => match k with
  | 0 => .object "RingPacker$Counts"
  | 1 => .object "RingPacker$Ring"
  | 2 => .object "RingPacker$Codes"
  | _ => .object "RingPacker$Plan"
theorem n_Packer_ok : ∀ a, a < 4 → ∀ b, b < 4 → a ≠ b → (F_Packer a).2.1 ≠ (F_Packer b).2.1 := by decide +kernel
theorem t_Packer_ok : ∀ k, k < 4 → parseFieldDescriptor (F_Packer k).2.2.1 = some (t_Packer k) := by decide +kernel
def F_Plan : u_T := fun k => match k with
  | 0 => ("RingPacker$Plan", "finder", "LRingPacker$Finder;", true)
  | 1 => ("RingPacker$Plan", "ring", "LRingPacker$Ring;", true)
  | 2 => ("RingPacker$Plan", "literalFrom", "[I", true)
  | 3 => ("RingPacker$Plan", "literalCount", "[I", true)
  | 4 => ("RingPacker$Plan", "copySymbol", "[I", true)
  | 5 => ("RingPacker$Plan", "copyLength", "[I", true)
  | 6 => ("RingPacker$Plan", "distanceSymbol", "[I", true)
  | 7 => ("RingPacker$Plan", "distance", "[I", true)
  | 8 => ("RingPacker$Plan", "commandCount", "I", false)
  | 9 => ("RingPacker$Plan", "copyCount", "I", false)
  | 10 => ("RingPacker$Plan", "wordCount", "I", false)
  | _ => ("RingPacker$Plan", "codeWordCount", "I", false)
def t_Plan : Nat → FieldType := fun k => match k with
  | 0 => .object "RingPacker$Finder"
  | 1 => .object "RingPacker$Ring"
  | 2 => .array .int
  | 3 => .array .int
  | 4 => .array .int
  | 5 => .array .int
  | 6 => .array .int
  | 7 => .array .int
  | 8 => .int
  | 9 => .int
  | 10 => .int
  | _ => .int
theorem n_Plan_ok : ∀ a, a < 12 → ∀ b, b < 12 → a ≠ b → (F_Plan a).2.1 ≠ (F_Plan b).2.1 := by decide +kernel
theorem t_Plan_ok : ∀ k, k < 12 → parseFieldDescriptor (F_Plan k).2.2.1 = some (t_Plan k) := by decide +kernel
def F_Ring : u_T := fun k => match k with
  | _ => ("RingPacker$Ring", "latest", "[I", true)
def t_Ring : Nat → FieldType := fun k => match k with
  | _ => .array .int
theorem n_Ring_ok : ∀ a, a < 1 → ∀ b, b < 1 → a ≠ b → (F_Ring a).2.1 ≠ (F_Ring b).2.1 := by decide +kernel
theorem t_Ring_ok : ∀ k, k < 1 → parseFieldDescriptor (F_Ring k).2.2.1 = some (t_Ring k) := by decide +kernel
def F_Text : u_T := fun k => match k with
  | 0 => ("RingPacker$Text", "bytes", "[I", true)
  | _ => ("RingPacker$Text", "count", "I", false)
def t_Text : Nat → FieldType := fun k => match k with
  | 0 => .array .int
  | _ => .int
theorem n_Text_ok : ∀ a, a < 2 → ∀ b, b < 2 → a ≠ b → (F_Text a).2.1 ≠ (F_Text b).2.1 := by decide +kernel
theorem t_Text_ok : ∀ k, k < 2 → parseFieldDescriptor (F_Text k).2.2.1 = some (t_Text k) := by decide +kernel
def F_Unpacker : u_T := fun k => match k with
  | 0 => ("RingPacker$Unpacker", "draft", "LRingPacker$Text;", true)
  | 1 => ("RingPacker$Unpacker", "counts", "LRingPacker$Counts;", true)
  | 2 => ("RingPacker$Unpacker", "ring", "LRingPacker$Ring;", true)
  | _ => ("RingPacker$Unpacker", "codes", "LRingPacker$Codes;", true)
def t_Unpacker : Nat → FieldType := fun k => match k with
  | 0 => .object "RingPacker$Text"
  | 1 => .object "RingPacker$Counts"
  | 2 => .object "RingPacker$Ring"
  | _ => .object "RingPacker$Codes"
theorem n_Unpacker_ok : ∀ a, a < 4 → ∀ b, b < 4 → a ≠ b → (F_Unpacker a).2.1 ≠ (F_Unpacker b).2.1 := by decide +kernel
theorem t_Unpacker_ok : ∀ k, k < 4 → parseFieldDescriptor (F_Unpacker k).2.2.1 = some (t_Unpacker k) := by decide +kernel
def F_Rp : u_T := fun k => match k with
  | 0 => ("RingPacker", "text", "LRingPacker$Text;", true)
  | 1 => ("RingPacker", "stream", "LRingPacker$BitStream;", true)
  | 2 => ("RingPacker", "counts", "LRingPacker$Counts;", true)
  | 3 => ("RingPacker", "packer", "LRingPacker$Packer;", true)
  | _ => ("RingPacker", "unpacker", "LRingPacker$Unpacker;", true)
def t_Rp : Nat → FieldType := fun k => match k with
  | 0 => .object "RingPacker$Text"
  | 1 => .object "RingPacker$BitStream"
  | 2 => .object "RingPacker$Counts"
  | 3 => .object "RingPacker$Packer"
  | _ => .object "RingPacker$Unpacker"
theorem n_Rp_ok : ∀ a, a < 5 → ∀ b, b < 5 → a ≠ b → (F_Rp a).2.1 ≠ (F_Rp b).2.1 := by decide +kernel
theorem t_Rp_ok : ∀ k, k < 5 → parseFieldDescriptor (F_Rp k).2.2.1 = some (t_Rp k) := by decide +kernel
def F_Mo : u_T := fun k => match k with
  | 0 => ("RingPackerModel", "length", "I", false)
  | 1 => ("RingPackerModel", "text", "[I", false)
  | 2 => ("RingPackerModel", "size", "I", false)
  | 3 => ("RingPackerModel", "stream", "[I", false)
  | 4 => ("RingPackerModel", "codedCount", "I", false)
  | 5 => ("RingPackerModel", "copyCount", "I", false)
  | 6 => ("RingPackerModel", "wordCount", "I", false)
  | 7 => ("RingPackerModel", "symbolCount", "I", false)
  | 8 => ("RingPackerModel", "at", "I", false)
  | 9 => ("RingPackerModel", "bits", "[I", false)
  | 10 => ("RingPackerModel", "times", "[I", false)
  | 11 => ("RingPackerModel", "width", "[I", false)
  | 12 => ("RingPackerModel", "word", "[I", false)
  | 13 => ("RingPackerModel", "ring", "[I", false)
  | 14 => ("RingPackerModel", "kept", "[I", false)
  | 15 => ("RingPackerModel", "commands", "I", false)
  | 16 => ("RingPackerModel", "insert", "[I", false)
  | 17 => ("RingPackerModel", "kind", "[I", false)
  | 18 => ("RingPackerModel", "span", "[I", false)
  | 19 => ("RingPackerModel", "symbol", "[I", false)
  | 20 => ("RingPackerModel", "rest", "[I", false)
  | 21 => ("RingPackerModel", "yields", "[I", false)
  | 22 => ("RingPackerModel", "isWord", "[I", false)
  | 23 => ("RingPackerModel", "best", "I", false)
  | 24 => ("RingPackerModel", "near", "I", false)
  | 25 => ("RingPackerModel", "wordBytes", "I", false)
  | 26 => ("RingPackerModel", "wordLength", "I", false)
  | 27 => ("RingPackerModel", "wordNumber", "I", false)
  | 28 => ("RingPackerModel", "broken", "Z", false)
  | 29 => ("RingPackerModel", "there", "I", false)
  | _ => ("RingPackerModel", "made", "[I", false)
def t_Mo : Nat → FieldType := fun k => match k with
  | 0 => .int
  | 1 => .array .int
  | 2 => .int
  | 3 => .array .int
  | 4 => .int
  | 5 => .int
  | 6 => .int
  | 7 => .int
  | 8 => .int
  | 9 => .array .int
  | 10 => .array .int
  | 11 => .array .int
  | 12 => .array .int
  | 13 => .array .int
  | 14 => .array .int
  | 15 => .int
  | 16 => .array .int
  | 17 => .array .int
  | 18 => .array .int
  | 19 => .array .int
  | 20 => .array .int
  | 21 => .array .int
  | 22 => .array .int
  | 23 => .int
  | 24 => .int
  | 25 => .int
  | 26 => .int
  | 27 => .int
  | 28 => .boolean
  | 29 => .int
  | _ => .array .int
theorem n_Mo_ok : ∀ a, a < 31 → ∀ b, b < 31 → a ≠ b → (F_Mo a).2.1 ≠ (F_Mo b).2.1 := by decide +kernel
theorem t_Mo_ok : ∀ k, k < 31 → parseFieldDescriptor (F_Mo k).2.2.1 = some (t_Mo k) := by decide +kernel
def zCl : List vw_C := [("RingPacker$BitStream", F_BitStream, 4), ("RingPacker$Code", F_Code, 7), ("RingPacker$Codes", F_Codes, 4), ("RingPacker$Counts", F_Counts, 4), ("RingPacker$Finder", F_Finder, 5), ("RingPacker$Packer", F_Packer, 4), ("RingPacker$Plan", F_Plan, 12), ("RingPacker$Ring", F_Ring, 1), ("RingPacker$Text", F_Text, 2), ("RingPacker$Unpacker", F_Unpacker, 4), ("RingPacker", F_Rp, 5), ("RingPackerModel", F_Mo, 31)]
theorem cl_BitStream : zCl[0]? = some ("RingPacker$BitStream", F_BitStream, 4) := rfl
theorem cl_Code : zCl[1]? = some ("RingPacker$Code", F_Code, 7) := rfl
theorem cl_Codes : zCl[2]? = some ("RingPacker$Codes", F_Codes, 4) := rfl
theorem cl_Counts : zCl[3]? = some ("RingPacker$Counts", F_Counts, 4) := rfl
theorem cl_Finder : zCl[4]? = some ("RingPacker$Finder", F_Finder, 5) := rfl
theorem cl_Packer : zCl[5]? = some ("RingPacker$Packer", F_Packer, 4) := rfl
theorem cl_Plan : zCl[6]? = some ("RingPacker$Plan", F_Plan, 12) := rfl
theorem cl_Ring : zCl[7]? = some ("RingPacker$Ring", F_Ring, 1) := rfl
theorem cl_Text : zCl[8]? = some ("RingPacker$Text", F_Text, 2) := rfl
theorem cl_Unpacker : zCl[9]? = some ("RingPacker$Unpacker", F_Unpacker, 4) := rfl
theorem cl_Rp : zCl[10]? = some ("RingPacker", F_Rp, 5) := rfl
theorem cl_Mo : zCl[11]? = some ("RingPackerModel", F_Mo, 31) := rfl
def shT : List zSh := [.inr (10, [some (1), some (3), some (5), some (6), some (41)]), .inr (8, [some (2), none]), .inl 96, .inr (0, [some (4), none, none, none]), .inl 200, .inr (3, [none, none, none, none]), .inr (5, [some (7), some (8), some (10), some (31)]), .inr (3, [none, none, none, none]), .inr (7, [some (9)]), .inl 4, .inr (2, [some (11), some (16), some (21), some (26)]), .inr (1, [none, none, some (13), some (14), some (15), some (12), none]), .inl 64, .inl 256, .inl 256, .inl 256, .inr (1, [none, none, some (18), some (19), some (20), some (17), none]), .inl 64, .inl 256, .inl 256, .inl 256, .inr (1, [none, none, some (23), some (24), some (25), some (22), none]), .inl 64, .inl 32, .inl 32, .inl 32, .inr (1, [none, none, some (28), some (29), some (30), some (27), none]), .inl 64, .inl 14, .inl 14, .inl 14, .inr (6, [some (32), some (33), some (35), some (36), some (37), some (38), some (39), some (40), none, none, none, none]), .inr (4, [none, none, none, none, none]), .inr (7, [some (34)]), .inl 4, .inl 48, .inl 48, .inl 48, .inl 48, .inl 48, .inl 48, .inr (9, [some (42), some (44), some (45), some (47)]), .inr (8, [some (43), none]), .inl 96, .inr (3, [none, none, none, none]), .inr (7, [some (46)]), .inl 4, .inr (2, [some (48), some (53), some (58), some (63)]), .inr (1, [none, none, some (50), some (51), some (52), some (49), none]), .inl 64, .inl 256, .inl 256, .inl 256, .inr (1, [none, none, some (55), some (56), some (57), some (54), none]), .inl 64, .inl 256, .inl 256, .inl 256, .inr (1, [none, none, some (60), some (61), some (62), some (59), none]), .inl 64, .inl 32, .inl 32, .inl 32, .inr (1, [none, none, some (65), some (66), some (67), some (64), none]), .inl 64, .inl 14, .inl 14, .inl 14, .inr (11, [none, some (69), none, some (70), none, none, none, none, none, some (71), some (72), some (73), some (74), some (75), some (76), none, some (77), some (78), some (79), some (80), some (81), some (82), some (83), none, none, none, none, none, none, none, some (84)]), .inl 96, .inl 200, .inl 4000, .inl 1024, .inl 1024, .inl 1024, .inl 4, .inl 4, .inl 50, .inl 50, .inl 50, .inl 50, .inl 50, .inl 50, .inl 50, .inl 96]
theorem sh_0 : shT[0]? = some (.inr (10, [some (1), some (3), some (5), some (6), some (41)])) := rfl
theorem sh_1 : shT[1]? = some (.inr (8, [some (2), none])) := rfl
theorem sh_2 : shT[2]? = some (.inl 96) := rfl
theorem sh_3 : shT[3]? = some (.inr (0, [some (4), none, none, none])) := rfl
theorem sh_4 : shT[4]? = some (.inl 200) := rfl
theorem sh_5 : shT[5]? = some (.inr (3, [none, none, none, none])) := rfl
theorem sh_6 : shT[6]? = some (.inr (5, [some (7), some (8), some (10), some (31)])) := rfl
theorem sh_7 : shT[7]? = some (.inr (3, [none, none, none, none])) := rfl
theorem sh_8 : shT[8]? = some (.inr (7, [some (9)])) := rfl
theorem sh_9 : shT[9]? = some (.inl 4) := rfl
theorem sh_10 : shT[10]? = some (.inr (2, [some (11), some (16), some (21), some (26)])) := rfl
theorem sh_11 : shT[11]? = some (.inr (1, [none, none, some (13), some (14), some (15), some (12), none])) := rfl
theorem sh_12 : shT[12]? = some (.inl 64) := rfl
theorem sh_13 : shT[13]? = some (.inl 256) := rfl
theorem sh_14 : shT[14]? = some (.inl 256) := rfl
theorem sh_15 : shT[15]? = some (.inl 256) := rfl
theorem sh_16 : shT[16]? = some (.inr (1, [none, none, some (18), some (19), some (20), some (17), none])) := rfl
theorem sh_17 : shT[17]? = some (.inl 64) := rfl
theorem sh_18 : shT[18]? = some (.inl 256) := rfl
theorem sh_19 : shT[19]? = some (.inl 256) := rfl
theorem sh_20 : shT[20]? = some (.inl 256) := rfl
theorem sh_21 : shT[21]? = some (.inr (1, [none, none, some (23), some (24), some (25), some (22), none])) := rfl
theorem sh_22 : shT[22]? = some (.inl 64) := rfl
theorem sh_23 : shT[23]? = some (.inl 32) := rfl
theorem sh_24 : shT[24]? = some (.inl 32) := rfl
theorem sh_25 : shT[25]? = some (.inl 32) := rfl
theorem sh_26 : shT[26]? = some (.inr (1, [none, none, some (28), some (29), some (30), some (27), none])) := rfl
theorem sh_27 : shT[27]? = some (.inl 64) := rfl
theorem sh_28 : shT[28]? = some (.inl 14) := rfl
theorem sh_29 : shT[29]? = some (.inl 14) := rfl
theorem sh_30 : shT[30]? = some (.inl 14) := rfl
theorem sh_31 : shT[31]? = some (.inr (6, [some (32), some (33), some (35), some (36), some (37), some (38), some (39), some (40), none, none, none, none])) := rfl
theorem sh_32 : shT[32]? = some (.inr (4, [none, none, none, none, none])) := rfl
theorem sh_33 : shT[33]? = some (.inr (7, [some (34)])) := rfl
theorem sh_34 : shT[34]? = some (.inl 4) := rfl
theorem sh_35 : shT[35]? = some (.inl 48) := rfl
theorem sh_36 : shT[36]? = some (.inl 48) := rfl
theorem sh_37 : shT[37]? = some (.inl 48) := rfl
theorem sh_38 : shT[38]? = some (.inl 48) := rfl
theorem sh_39 : shT[39]? = some (.inl 48) := rfl
theorem sh_40 : shT[40]? = some (.inl 48) := rfl
theorem sh_41 : shT[41]? = some (.inr (9, [some (42), some (44), some (45), some (47)])) := rfl
theorem sh_42 : shT[42]? = some (.inr (8, [some (43), none])) := rfl
theorem sh_43 : shT[43]? = some (.inl 96) := rfl
theorem sh_44 : shT[44]? = some (.inr (3, [none, none, none, none])) := rfl
theorem sh_45 : shT[45]? = some (.inr (7, [some (46)])) := rfl
theorem sh_46 : shT[46]? = some (.inl 4) := rfl
theorem sh_47 : shT[47]? = some (.inr (2, [some (48), some (53), some (58), some (63)])) := rfl
theorem sh_48 : shT[48]? = some (.inr (1, [none, none, some (50), some (51), some (52), some (49), none])) := rfl
theorem sh_49 : shT[49]? = some (.inl 64) := rfl
theorem sh_50 : shT[50]? = some (.inl 256) := rfl
theorem sh_51 : shT[51]? = some (.inl 256) := rfl
theorem sh_52 : shT[52]? = some (.inl 256) := rfl
theorem sh_53 : shT[53]? = some (.inr (1, [none, none, some (55), some (56), some (57), some (54), none])) := rfl
theorem sh_54 : shT[54]? = some (.inl 64) := rfl
theorem sh_55 : shT[55]? = some (.inl 256) := rfl
theorem sh_56 : shT[56]? = some (.inl 256) := rfl
theorem sh_57 : shT[57]? = some (.inl 256) := rfl
theorem sh_58 : shT[58]? = some (.inr (1, [none, none, some (60), some (61), some (62), some (59), none])) := rfl
theorem sh_59 : shT[59]? = some (.inl 64) := rfl
theorem sh_60 : shT[60]? = some (.inl 32) := rfl
theorem sh_61 : shT[61]? = some (.inl 32) := rfl
theorem sh_62 : shT[62]? = some (.inl 32) := rfl
theorem sh_63 : shT[63]? = some (.inr (1, [none, none, some (65), some (66), some (67), some (64), none])) := rfl
theorem sh_64 : shT[64]? = some (.inl 64) := rfl
theorem sh_65 : shT[65]? = some (.inl 14) := rfl
theorem sh_66 : shT[66]? = some (.inl 14) := rfl
theorem sh_67 : shT[67]? = some (.inl 14) := rfl
theorem sh_68 : shT[68]? = some (.inr (11, [none, some (69), none, some (70), none, none, none, none, none, some (71), some (72), some (73), some (74), some (75), some (76), none, some (77), some (78), some (79), some (80), some (81), some (82), some (83), none, none, none, none, none, none, none, some (84)])) := rfl
theorem sh_69 : shT[69]? = some (.inl 96) := rfl
theorem sh_70 : shT[70]? = some (.inl 200) := rfl
theorem sh_71 : shT[71]? = some (.inl 4000) := rfl
theorem sh_72 : shT[72]? = some (.inl 1024) := rfl
theorem sh_73 : shT[73]? = some (.inl 1024) := rfl
theorem sh_74 : shT[74]? = some (.inl 1024) := rfl
theorem sh_75 : shT[75]? = some (.inl 4) := rfl
theorem sh_76 : shT[76]? = some (.inl 4) := rfl
theorem sh_77 : shT[77]? = some (.inl 50) := rfl
theorem sh_78 : shT[78]? = some (.inl 50) := rfl
theorem sh_79 : shT[79]? = some (.inl 50) := rfl
theorem sh_80 : shT[80]? = some (.inl 50) := rfl
theorem sh_81 : shT[81]? = some (.inl 50) := rfl
theorem sh_82 : shT[82]? = some (.inl 50) := rfl
theorem sh_83 : shT[83]? = some (.inl 50) := rfl
theorem sh_84 : shT[84]? = some (.inl 96) := rfl
abbrev is_Text (c : Nat) : Prop := shT[c]? = some (.inr (8, [some (c + 1), none])) ∧ shT[c + 1]? = some (.inl 96)
theorem is_Text_1 : is_Text 1 := ⟨rfl, rfl⟩
theorem is_Text_42 : is_Text 42 := ⟨rfl, rfl⟩
abbrev is_Counts (c : Nat) : Prop := shT[c]? = some (.inr (3, [none, none, none, none]))
theorem is_Counts_5 : is_Counts 5 := rfl
theorem is_Counts_7 : is_Counts 7 := rfl
theorem is_Counts_44 : is_Counts 44 := rfl
abbrev is_Ring (c : Nat) : Prop := shT[c]? = some (.inr (7, [some (c + 1)])) ∧ shT[c + 1]? = some (.inl 4)
theorem is_Ring_8 : is_Ring 8 := ⟨rfl, rfl⟩
theorem is_Ring_33 : is_Ring 33 := ⟨rfl, rfl⟩
theorem is_Ring_45 : is_Ring 45 := ⟨rfl, rfl⟩
abbrev is_Code (c n : Nat) : Prop := shT[c]? = some (.inr (1, [none, none, some (c + 2), some (c + 3), some (c + 4), some (c + 1), none])) ∧ shT[c + 1]? = some (.inl 64) ∧ shT[c + 2]? = some (.inl n) ∧ shT[c + 3]? = some (.inl n) ∧ shT[c + 4]? = some (.inl n)
theorem is_Code_11 : is_Code 11 256 := ⟨rfl, rfl, rfl, rfl, rfl⟩
theorem is_Code_16 : is_Code 16 256 := ⟨rfl, rfl, rfl, rfl, rfl⟩
theorem is_Code_21 : is_Code 21 32 := ⟨rfl, rfl, rfl, rfl, rfl⟩
theorem is_Code_26 : is_Code 26 14 := ⟨rfl, rfl, rfl, rfl, rfl⟩
theorem is_Code_48 : is_Code 48 256 := ⟨rfl, rfl, rfl, rfl, rfl⟩
theorem is_Code_53 : is_Code 53 256 := ⟨rfl, rfl, rfl, rfl, rfl⟩
theorem is_Code_58 : is_Code 58 32 := ⟨rfl, rfl, rfl, rfl, rfl⟩
theorem is_Code_63 : is_Code 63 14 := ⟨rfl, rfl, rfl, rfl, rfl⟩
abbrev is_Codes (c : Nat) : Prop := shT[c]? = some (.inr (2, [some (c + 1), some (c + 6), some (c + 11), some (c + 16)])) ∧ is_Code (c + 1) 256 ∧ is_Code (c + 6) 256 ∧ is_Code (c + 11) 32 ∧ is_Code (c + 16) 14
theorem is_Codes_10 : is_Codes 10 := ⟨rfl, is_Code_11, is_Code_16, is_Code_21, is_Code_26⟩
theorem is_Codes_47 : is_Codes 47 := ⟨rfl, is_Code_48, is_Code_53, is_Code_58, is_Code_63⟩
abbrev tv_0 : List Int32 := [0, 1, 2, 6]
abbrev tv_1 : List Int32 := [0, 0, 2, 6]
abbrev tv_2 : List Int32 := [2, 3, 4, 5, 6, 10, 26, 3]
abbrev tv_3 : List Int32 := [0, 0, 0, 0, 2, 4, 5, 0]
abbrev tv_4 : List Int32 := [0, 0, 0, 0, 0, 0, 1, 2, 3, 5, 9, 17, 33, 65]
abbrev tv_5 : List Int32 := [0, 0, 0, 0, 0, 0, 0, 0, 1, 2, 3, 4, 5, 6]
def zTab : List (String × List Int32) := [("INSERT_BASE", tv_0), ("INSERT_BITS", tv_1), ("COPY_BASE", tv_2), ("COPY_BITS", tv_3), ("DISTANCE_BASE", tv_4), ("DISTANCE_BITS", tv_5)]
theorem tb_0 : zTab[0]? = some ("INSERT_BASE", tv_0) := rfl
theorem tb_1 : zTab[1]? = some ("INSERT_BITS", tv_1) := rfl
theorem tb_2 : zTab[2]? = some ("COPY_BASE", tv_2) := rfl
theorem tb_3 : zTab[3]? = some ("COPY_BITS", tv_3) := rfl
theorem tb_4 : zTab[4]? = some ("DISTANCE_BASE", tv_4) := rfl
theorem tb_5 : zTab[5]? = some ("DISTANCE_BITS", tv_5) := rfl
def zNest : Cond → Bool
  | .fieldLinkNest .. => true
  | .methodLinkNest .. => true
  | _ => false
def zGW : List Cond := lw_tbl.filter goodWord
def zNW : List Cond := lw_tbl.filter zNest
theorem zin {w : Cond} (i : Nat) (h : lw_tbl[i]? = some w) (h2 : goodWord w = true) : w ∈ zGW := List.mem_filter.mpr ⟨List.mem_of_getElem? h, h2⟩
theorem znin {w : Cond} (i : Nat) (h : lw_tbl[i]? = some w) (h2 : zNest w = true) : w ∈ zNW := List.mem_filter.mpr ⟨List.mem_of_getElem? h, h2⟩
def Y_BitStream_init : MethodName × ByteArray × Nat × Option FieldType := (⟨"RingPacker$BitStream", "<init>", "()V"⟩, prog_2_method_1_code, 1, none)
def Y_BitStream_add : MethodName × ByteArray × Nat × Option FieldType := (⟨"RingPacker$BitStream", "add", "(I)Z"⟩, prog_2_method_2_code, 2, some .boolean)
def Y_BitStream_get : MethodName × ByteArray × Nat × Option FieldType := (⟨"RingPacker$BitStream", "get", "(I)I"⟩, prog_2_method_3_code, 2, some .int)
def Y_BitStream_change : MethodName × ByteArray × Nat × Option FieldType := (⟨"RingPacker$BitStream", "change", "(II)Z"⟩, prog_2_method_4_code, 3, some .boolean)
def Y_BitStream_keep : MethodName × ByteArray × Nat × Option FieldType := (⟨"RingPacker$BitStream", "keep", "(I)Z"⟩, prog_2_method_5_code, 2, some .boolean)
def Y_BitStream_startReading : MethodName × ByteArray × Nat × Option FieldType := (⟨"RingPacker$BitStream", "startReading", "()V"⟩, prog_2_method_6_code, 1, none)
def Y_BitStream_take : MethodName × ByteArray × Nat × Option FieldType := (⟨"RingPacker$BitStream", "take", "(I)I"⟩, prog_2_method_7_code, 4, some .int)
def Y_BitStream_takeZerosToByteEnd : MethodName × ByteArray × Nat × Option FieldType := (⟨"RingPacker$BitStream", "takeZerosToByteEnd", "()Z"⟩, prog_2_method_8_code, 2, some .boolean)
def Y_BitStream_isReadWhole : MethodName × ByteArray × Nat × Option FieldType := (⟨"RingPacker$BitStream", "isReadWhole", "()Z"⟩, prog_2_method_9_code, 1, some .boolean)
def Y_BitStream_startWriting : MethodName × ByteArray × Nat × Option FieldType := (⟨"RingPacker$BitStream", "startWriting", "()V"⟩, prog_2_method_10_code, 1, none)
def Y_BitStream_goBackTo : MethodName × ByteArray × Nat × Option FieldType := (⟨"RingPacker$BitStream", "goBackTo", "(I)V"⟩, prog_2_method_11_code, 2, none)
def Y_BitStream_give : MethodName × ByteArray × Nat × Option FieldType := (⟨"RingPacker$BitStream", "give", "(II)V"⟩, prog_2_method_12_code, 6, none)
def Y_BitStream_giveZerosToByteEnd : MethodName × ByteArray × Nat × Option FieldType := (⟨"RingPacker$BitStream", "giveZerosToByteEnd", "()V"⟩, prog_2_method_13_code, 1, none)
def Y_BitStream_finishWriting : MethodName × ByteArray × Nat × Option FieldType := (⟨"RingPacker$BitStream", "finishWriting", "()V"⟩, prog_2_method_14_code, 1, none)
def Y_Code_init : MethodName × ByteArray × Nat × Option FieldType := (⟨"RingPacker$Code", "<init>", "(II)V"⟩, prog_3_method_1_code, 3, none)
def Y_Code_readDescription : MethodName × ByteArray × Nat × Option FieldType := (⟨"RingPacker$Code", "readDescription", "(LRingPacker$BitStream;)Z"⟩, prog_3_method_2_code, 4, some .boolean)
def Y_Code_readSimple : MethodName × ByteArray × Nat × Option FieldType := (⟨"RingPacker$Code", "readSimple", "(LRingPacker$BitStream;)Z"⟩, prog_3_method_3_code, 5, some .boolean)
def Y_Code_readBitNumbers : MethodName × ByteArray × Nat × Option FieldType := (⟨"RingPacker$Code", "readBitNumbers", "(LRingPacker$BitStream;)Z"⟩, prog_3_method_4_code, 5, some .boolean)
def Y_Code_readWord : MethodName × ByteArray × Nat × Option FieldType := (⟨"RingPacker$Code", "readWord", "(LRingPacker$BitStream;)I"⟩, prog_3_method_5_code, 5, some .int)
def Y_Code_forgetTimes : MethodName × ByteArray × Nat × Option FieldType := (⟨"RingPacker$Code", "forgetTimes", "()V"⟩, prog_3_method_6_code, 2, none)
def Y_Code_countOnce : MethodName × ByteArray × Nat × Option FieldType := (⟨"RingPacker$Code", "countOnce", "(I)V"⟩, prog_3_method_7_code, 2, none)
def Y_Code_makeFromTimes : MethodName × ByteArray × Nat × Option FieldType := (⟨"RingPacker$Code", "makeFromTimes", "()V"⟩, prog_3_method_8_code, 2, none)
def Y_Code_chooseSimpleBits : MethodName × ByteArray × Nat × Option FieldType := (⟨"RingPacker$Code", "chooseSimpleBits", "()V"⟩, prog_3_method_9_code, 3, none)
def Y_Code_chooseFirstBits : MethodName × ByteArray × Nat × Option FieldType := (⟨"RingPacker$Code", "chooseFirstBits", "()I"⟩, prog_3_method_10_code, 5, some .int)
def Y_Code_spreadSpace : MethodName × ByteArray × Nat × Option FieldType := (⟨"RingPacker$Code", "spreadSpace", "(I)V"⟩, prog_3_method_11_code, 7, none)
def Y_Code_writeDescription : MethodName × ByteArray × Nat × Option FieldType := (⟨"RingPacker$Code", "writeDescription", "(LRingPacker$BitStream;)V"⟩, prog_3_method_12_code, 3, none)
def Y_Code_writeBitNumbers : MethodName × ByteArray × Nat × Option FieldType := (⟨"RingPacker$Code", "writeBitNumbers", "(LRingPacker$BitStream;)V"⟩, prog_3_method_13_code, 5, none)
def Y_Code_writeMissing : MethodName × ByteArray × Nat × Option FieldType := (⟨"RingPacker$Code", "writeMissing", "(LRingPacker$BitStream;I)V"⟩, prog_3_method_14_code, 4, none)
def Y_Code_writeWord : MethodName × ByteArray × Nat × Option FieldType := (⟨"RingPacker$Code", "writeWord", "(LRingPacker$BitStream;I)V"⟩, prog_3_method_15_code, 4, none)
def Y_Code_simpleBits : MethodName × ByteArray × Nat × Option FieldType := (⟨"RingPacker$Code", "simpleBits", "(IZ)I"⟩, prog_3_method_16_code, 2, some .int)
def Y_Code_forgetListed : MethodName × ByteArray × Nat × Option FieldType := (⟨"RingPacker$Code", "forgetListed", "()V"⟩, prog_3_method_17_code, 2, none)
def Y_Code_list : MethodName × ByteArray × Nat × Option FieldType := (⟨"RingPacker$Code", "list", "(II)V"⟩, prog_3_method_18_code, 3, none)
def Y_Code_isListed : MethodName × ByteArray × Nat × Option FieldType := (⟨"RingPacker$Code", "isListed", "(I)Z"⟩, prog_3_method_19_code, 3, some .boolean)
def Y_Code_sortListed : MethodName × ByteArray × Nat × Option FieldType := (⟨"RingPacker$Code", "sortListed", "()V"⟩, prog_3_method_20_code, 5, none)
def Y_Code_giveCodeWords : MethodName × ByteArray × Nat × Option FieldType := (⟨"RingPacker$Code", "giveCodeWords", "()V"⟩, prog_3_method_21_code, 3, none)
def Y_Codes_init : MethodName × ByteArray × Nat × Option FieldType := (⟨"RingPacker$Codes", "<init>", "()V"⟩, prog_4_method_1_code, 1, none)
def Y_Codes_literalAt : MethodName × ByteArray × Nat × Option FieldType := (⟨"RingPacker$Codes", "literalAt", "(LRingPacker$Text;IZ)LRingPacker$Code;"⟩, prog_4_method_2_code, 4, some (.object "RingPacker$Code"))
def Y_Codes_readDescriptions : MethodName × ByteArray × Nat × Option FieldType := (⟨"RingPacker$Codes", "readDescriptions", "(LRingPacker$BitStream;Z)Z"⟩, prog_4_method_3_code, 3, some .boolean)
def Y_Codes_forgetTimes : MethodName × ByteArray × Nat × Option FieldType := (⟨"RingPacker$Codes", "forgetTimes", "()V"⟩, prog_4_method_4_code, 1, none)
def Y_Codes_makeFromTimes : MethodName × ByteArray × Nat × Option FieldType := (⟨"RingPacker$Codes", "makeFromTimes", "()V"⟩, prog_4_method_5_code, 1, none)
def Y_Counts_init : MethodName × ByteArray × Nat × Option FieldType := (⟨"RingPacker$Counts", "<init>", "()V"⟩, prog_5_method_1_code, 1, none)
def Y_Counts_reset : MethodName × ByteArray × Nat × Option FieldType := (⟨"RingPacker$Counts", "reset", "()V"⟩, prog_5_method_2_code, 1, none)
def Y_Counts_become : MethodName × ByteArray × Nat × Option FieldType := (⟨"RingPacker$Counts", "become", "(LRingPacker$Counts;)V"⟩, prog_5_method_3_code, 2, none)
def Y_Counts_addBlock : MethodName × ByteArray × Nat × Option FieldType := (⟨"RingPacker$Counts", "addBlock", "(LRingPacker$Plan;)V"⟩, prog_5_method_4_code, 2, none)
def Y_Finder_init : MethodName × ByteArray × Nat × Option FieldType := (⟨"RingPacker$Finder", "<init>", "()V"⟩, prog_6_method_1_code, 1, none)
def Y_Finder_findCopy : MethodName × ByteArray × Nat × Option FieldType := (⟨"RingPacker$Finder", "findCopy", "(LRingPacker$Text;II)V"⟩, prog_6_method_2_code, 7, none)
def Y_Finder_findWord : MethodName × ByteArray × Nat × Option FieldType := (⟨"RingPacker$Finder", "findWord", "(LRingPacker$Text;II)V"⟩, prog_6_method_3_code, 7, none)
def Y_Finder_isWord : MethodName × ByteArray × Nat × Option FieldType := (⟨"RingPacker$Finder", "isWord", "()Z"⟩, prog_6_method_4_code, 1, some .boolean)
def Y_Finder_isCopy : MethodName × ByteArray × Nat × Option FieldType := (⟨"RingPacker$Finder", "isCopy", "()Z"⟩, prog_6_method_5_code, 1, some .boolean)
def Y_Packer_init : MethodName × ByteArray × Nat × Option FieldType := (⟨"RingPacker$Packer", "<init>", "()V"⟩, prog_7_method_1_code, 1, none)
def Y_Packer_start : MethodName × ByteArray × Nat × Option FieldType := (⟨"RingPacker$Packer", "start", "()V"⟩, prog_7_method_2_code, 1, none)
def Y_Packer_writeBlock : MethodName × ByteArray × Nat × Option FieldType := (⟨"RingPacker$Packer", "writeBlock", "(LRingPacker$Text;LRingPacker$BitStream;I)V"⟩, prog_7_method_3_code, 9, none)
def Y_Packer_writeInWay : MethodName × ByteArray × Nat × Option FieldType := (⟨"RingPacker$Packer", "writeInWay", "(ILRingPacker$Text;LRingPacker$BitStream;II)V"⟩, prog_7_method_4_code, 9, none)
def Y_Packer_writeRaw : MethodName × ByteArray × Nat × Option FieldType := (⟨"RingPacker$Packer", "writeRaw", "(LRingPacker$Text;LRingPacker$BitStream;II)V"⟩, prog_7_method_5_code, 6, none)
def Y_Packer_countSymbols : MethodName × ByteArray × Nat × Option FieldType := (⟨"RingPacker$Packer", "countSymbols", "(LRingPacker$Text;Z)V"⟩, prog_7_method_6_code, 6, none)
def Y_Packer_writeCommand : MethodName × ByteArray × Nat × Option FieldType := (⟨"RingPacker$Packer", "writeCommand", "(LRingPacker$Text;LRingPacker$BitStream;ZI)V"⟩, prog_7_method_7_code, 9, none)
def Y_Plan_init : MethodName × ByteArray × Nat × Option FieldType := (⟨"RingPacker$Plan", "<init>", "()V"⟩, prog_8_method_1_code, 1, none)
def Y_Plan_parse : MethodName × ByteArray × Nat × Option FieldType := (⟨"RingPacker$Plan", "parse", "(LRingPacker$Text;IILRingPacker$Ring;)V"⟩, prog_8_method_2_code, 8, none)
def Y_Plan_addWord : MethodName × ByteArray × Nat × Option FieldType := (⟨"RingPacker$Plan", "addWord", "(II)V"⟩, prog_8_method_3_code, 5, none)
def Y_Plan_addCopy : MethodName × ByteArray × Nat × Option FieldType := (⟨"RingPacker$Plan", "addCopy", "(II)V"⟩, prog_8_method_4_code, 6, none)
def Y_Plan_copySymbolOf : MethodName × ByteArray × Nat × Option FieldType := (⟨"RingPacker$Plan", "copySymbolOf", "(I)I"⟩, prog_8_method_5_code, 2, some .int)
def Y_Plan_addCommand : MethodName × ByteArray × Nat × Option FieldType := (⟨"RingPacker$Plan", "addCommand", "(IIIIII)V"⟩, prog_8_method_6_code, 7, none)
def Y_Plan_insertSymbolOf : MethodName × ByteArray × Nat × Option FieldType := (⟨"RingPacker$Plan", "insertSymbolOf", "(I)I"⟩, prog_8_method_7_code, 3, some .int)
def Y_Plan_commandSymbolOf : MethodName × ByteArray × Nat × Option FieldType := (⟨"RingPacker$Plan", "commandSymbolOf", "(I)I"⟩, prog_8_method_8_code, 2, some .int)
def Y_Ring_init : MethodName × ByteArray × Nat × Option FieldType := (⟨"RingPacker$Ring", "<init>", "()V"⟩, prog_9_method_1_code, 1, none)
def Y_Ring_reset : MethodName × ByteArray × Nat × Option FieldType := (⟨"RingPacker$Ring", "reset", "()V"⟩, prog_9_method_2_code, 2, none)
def Y_Ring_become : MethodName × ByteArray × Nat × Option FieldType := (⟨"RingPacker$Ring", "become", "(LRingPacker$Ring;)V"⟩, prog_9_method_3_code, 2, none)
def Y_Ring_remember : MethodName × ByteArray × Nat × Option FieldType := (⟨"RingPacker$Ring", "remember", "(I)V"⟩, prog_9_method_4_code, 3, none)
def Y_Ring_isLatest : MethodName × ByteArray × Nat × Option FieldType := (⟨"RingPacker$Ring", "isLatest", "(I)Z"⟩, prog_9_method_5_code, 2, some .boolean)
def Y_Ring_distanceOf : MethodName × ByteArray × Nat × Option FieldType := (⟨"RingPacker$Ring", "distanceOf", "(I)I"⟩, prog_9_method_6_code, 2, some .int)
def Y_Ring_symbolOf : MethodName × ByteArray × Nat × Option FieldType := (⟨"RingPacker$Ring", "symbolOf", "(I)I"⟩, prog_9_method_7_code, 3, some .int)
def Y_Ring_plainSymbolOf : MethodName × ByteArray × Nat × Option FieldType := (⟨"RingPacker$Ring", "plainSymbolOf", "(I)I"⟩, prog_9_method_8_code, 2, some .int)
def Y_Text_init : MethodName × ByteArray × Nat × Option FieldType := (⟨"RingPacker$Text", "<init>", "()V"⟩, prog_10_method_1_code, 1, none)
def Y_Text_add : MethodName × ByteArray × Nat × Option FieldType := (⟨"RingPacker$Text", "add", "(I)Z"⟩, prog_10_method_2_code, 2, some .boolean)
def Y_Text_get : MethodName × ByteArray × Nat × Option FieldType := (⟨"RingPacker$Text", "get", "(I)I"⟩, prog_10_method_3_code, 2, some .int)
def Y_Text_makeEmpty : MethodName × ByteArray × Nat × Option FieldType := (⟨"RingPacker$Text", "makeEmpty", "()V"⟩, prog_10_method_4_code, 1, none)
def Y_Text_become : MethodName × ByteArray × Nat × Option FieldType := (⟨"RingPacker$Text", "become", "(LRingPacker$Text;)V"⟩, prog_10_method_5_code, 2, none)
def Y_Text_followsSmallLetter : MethodName × ByteArray × Nat × Option FieldType := (⟨"RingPacker$Text", "followsSmallLetter", "(I)Z"⟩, prog_10_method_6_code, 3, some .boolean)
def Y_Text_equalBytes : MethodName × ByteArray × Nat × Option FieldType := (⟨"RingPacker$Text", "equalBytes", "(III)I"⟩, prog_10_method_7_code, 6, some .int)
def Y_Unpacker_init : MethodName × ByteArray × Nat × Option FieldType := (⟨"RingPacker$Unpacker", "<init>", "()V"⟩, prog_11_method_1_code, 1, none)
def Y_Unpacker_readAll : MethodName × ByteArray × Nat × Option FieldType := (⟨"RingPacker$Unpacker", "readAll", "(LRingPacker$BitStream;)Z"⟩, prog_11_method_2_code, 7, some .boolean)
def Y_Unpacker_readRaw : MethodName × ByteArray × Nat × Option FieldType := (⟨"RingPacker$Unpacker", "readRaw", "(LRingPacker$BitStream;I)Z"⟩, prog_11_method_3_code, 4, some .boolean)
def Y_Unpacker_readCoded : MethodName × ByteArray × Nat × Option FieldType := (⟨"RingPacker$Unpacker", "readCoded", "(LRingPacker$BitStream;I)Z"⟩, prog_11_method_4_code, 5, some .boolean)
def Y_Unpacker_readCommand : MethodName × ByteArray × Nat × Option FieldType := (⟨"RingPacker$Unpacker", "readCommand", "(LRingPacker$BitStream;ZI)Z"⟩, prog_11_method_5_code, 10, some .boolean)
def Y_Unpacker_readDistance : MethodName × ByteArray × Nat × Option FieldType := (⟨"RingPacker$Unpacker", "readDistance", "(LRingPacker$BitStream;I)I"⟩, prog_11_method_6_code, 5, some .int)
def Y_Unpacker_yieldCopy : MethodName × ByteArray × Nat × Option FieldType := (⟨"RingPacker$Unpacker", "yieldCopy", "(III)Z"⟩, prog_11_method_7_code, 5, some .boolean)
def Y_Unpacker_yieldWord : MethodName × ByteArray × Nat × Option FieldType := (⟨"RingPacker$Unpacker", "yieldWord", "(III)Z"⟩, prog_11_method_8_code, 6, some .boolean)
def Y_Words_yieldOf : MethodName × ByteArray × Nat × Option FieldType := (⟨"RingPacker$Words", "yieldOf", "(II)I"⟩, prog_12_method_2_code, 3, some .int)
def Y_Words_byteOf : MethodName × ByteArray × Nat × Option FieldType := (⟨"RingPacker$Words", "byteOf", "(III)I"⟩, prog_12_method_3_code, 7, some .int)
def Y_Words_standsIn : MethodName × ByteArray × Nat × Option FieldType := (⟨"RingPacker$Words", "standsIn", "(LRingPacker$Text;III)Z"⟩, prog_12_method_4_code, 6, some .boolean)
def Y_Rp_init : MethodName × ByteArray × Nat × Option FieldType := (⟨"RingPacker", "<init>", "()V"⟩, prog_1_method_1_code, 1, none)
def Y_Rp_put : MethodName × ByteArray × Nat × Option FieldType := (⟨"RingPacker", "put", "(I)Z"⟩, prog_1_method_2_code, 2, some .boolean)
def Y_Rp_clear : MethodName × ByteArray × Nat × Option FieldType := (⟨"RingPacker", "clear", "()V"⟩, prog_1_method_3_code, 1, none)
def Y_Rp_length : MethodName × ByteArray × Nat × Option FieldType := (⟨"RingPacker", "length", "()I"⟩, prog_1_method_4_code, 1, some .int)
def Y_Rp_at : MethodName × ByteArray × Nat × Option FieldType := (⟨"RingPacker", "at", "(I)I"⟩, prog_1_method_5_code, 2, some .int)
def Y_Rp_pack : MethodName × ByteArray × Nat × Option FieldType := (⟨"RingPacker", "pack", "()I"⟩, prog_1_method_6_code, 2, some .int)
def Y_Rp_unpack : MethodName × ByteArray × Nat × Option FieldType := (⟨"RingPacker", "unpack", "()I"⟩, prog_1_method_7_code, 1, some .int)
def Y_Rp_size : MethodName × ByteArray × Nat × Option FieldType := (⟨"RingPacker", "size", "()I"⟩, prog_1_method_8_code, 1, some .int)
def Y_Rp_byteAt : MethodName × ByteArray × Nat × Option FieldType := (⟨"RingPacker", "byteAt", "(I)I"⟩, prog_1_method_9_code, 2, some .int)
def Y_Rp_poke : MethodName × ByteArray × Nat × Option FieldType := (⟨"RingPacker", "poke", "(II)Z"⟩, prog_1_method_10_code, 3, some .boolean)
def Y_Rp_append : MethodName × ByteArray × Nat × Option FieldType := (⟨"RingPacker", "append", "(I)Z"⟩, prog_1_method_11_code, 2, some .boolean)
def Y_Rp_trim : MethodName × ByteArray × Nat × Option FieldType := (⟨"RingPacker", "trim", "(I)Z"⟩, prog_1_method_12_code, 2, some .boolean)
def Y_Rp_coded : MethodName × ByteArray × Nat × Option FieldType := (⟨"RingPacker", "coded", "()I"⟩, prog_1_method_13_code, 1, some .int)
def Y_Rp_copies : MethodName × ByteArray × Nat × Option FieldType := (⟨"RingPacker", "copies", "()I"⟩, prog_1_method_14_code, 1, some .int)
def Y_Rp_words : MethodName × ByteArray × Nat × Option FieldType := (⟨"RingPacker", "words", "()I"⟩, prog_1_method_15_code, 1, some .int)
def Y_Rp_symbols : MethodName × ByteArray × Nat × Option FieldType := (⟨"RingPacker", "symbols", "()I"⟩, prog_1_method_16_code, 1, some .int)
def Y_Rp_isByte : MethodName × ByteArray × Nat × Option FieldType := (⟨"RingPacker", "isByte", "(I)Z"⟩, prog_1_method_17_code, 1, some .boolean)
def Y_Mo_init : MethodName × ByteArray × Nat × Option FieldType := (⟨"RingPackerModel", "<init>", "()V"⟩, prog_14_method_1_code, 1, none)
def Y_Mo_isByte : MethodName × ByteArray × Nat × Option FieldType := (⟨"RingPackerModel", "isByte", "(I)Z"⟩, prog_14_method_2_code, 1, some .boolean)
def Y_Mo_put : MethodName × ByteArray × Nat × Option FieldType := (⟨"RingPackerModel", "put", "(I)Z"⟩, prog_14_method_3_code, 2, some .boolean)
def Y_Mo_clear : MethodName × ByteArray × Nat × Option FieldType := (⟨"RingPackerModel", "clear", "()V"⟩, prog_14_method_4_code, 1, none)
def Y_Mo_length : MethodName × ByteArray × Nat × Option FieldType := (⟨"RingPackerModel", "length", "()I"⟩, prog_14_method_5_code, 1, some .int)
def Y_Mo_at : MethodName × ByteArray × Nat × Option FieldType := (⟨"RingPackerModel", "at", "(I)I"⟩, prog_14_method_6_code, 2, some .int)
def Y_Mo_size : MethodName × ByteArray × Nat × Option FieldType := (⟨"RingPackerModel", "size", "()I"⟩, prog_14_method_7_code, 1, some .int)
def Y_Mo_byteAt : MethodName × ByteArray × Nat × Option FieldType := (⟨"RingPackerModel", "byteAt", "(I)I"⟩, prog_14_method_8_code, 2, some .int)
def Y_Mo_poke : MethodName × ByteArray × Nat × Option FieldType := (⟨"RingPackerModel", "poke", "(II)Z"⟩, prog_14_method_9_code, 3, some .boolean)
def Y_Mo_append : MethodName × ByteArray × Nat × Option FieldType := (⟨"RingPackerModel", "append", "(I)Z"⟩, prog_14_method_10_code, 2, some .boolean)
def Y_Mo_trim : MethodName × ByteArray × Nat × Option FieldType := (⟨"RingPackerModel", "trim", "(I)Z"⟩, prog_14_method_11_code, 2, some .boolean)
def Y_Mo_coded : MethodName × ByteArray × Nat × Option FieldType := (⟨"RingPackerModel", "coded", "()I"⟩, prog_14_method_12_code, 1, some .int)
def Y_Mo_copies : MethodName × ByteArray × Nat × Option FieldType := (⟨"RingPackerModel", "copies", "()I"⟩, prog_14_method_13_code, 1, some .int)
def Y_Mo_words : MethodName × ByteArray × Nat × Option FieldType := (⟨"RingPackerModel", "words", "()I"⟩, prog_14_method_14_code, 1, some .int)
def Y_Mo_symbols : MethodName × ByteArray × Nat × Option FieldType := (⟨"RingPackerModel", "symbols", "()I"⟩, prog_14_method_15_code, 1, some .int)
def Y_Mo_spell : MethodName × ByteArray × Nat × Option FieldType := (⟨"RingPackerModel", "spell", "(IIIII)J"⟩, prog_14_method_16_code, 7, some .long)
def Y_Mo_letters : MethodName × ByteArray × Nat × Option FieldType := (⟨"RingPackerModel", "letters", "(II)J"⟩, prog_14_method_17_code, 2, some .long)
def Y_Mo_letter : MethodName × ByteArray × Nat × Option FieldType := (⟨"RingPackerModel", "letter", "(III)I"⟩, prog_14_method_18_code, 5, some .int)
def Y_Mo_bytesOf : MethodName × ByteArray × Nat × Option FieldType := (⟨"RingPackerModel", "bytesOf", "(II)I"⟩, prog_14_method_19_code, 2, some .int)
def Y_Mo_byteOf : MethodName × ByteArray × Nat × Option FieldType := (⟨"RingPackerModel", "byteOf", "(III)I"⟩, prog_14_method_20_code, 6, some .int)
def Y_Mo_match : MethodName × ByteArray × Nat × Option FieldType := (⟨"RingPackerModel", "match", "(II)V"⟩, prog_14_method_21_code, 5, none)
def Y_Mo_stands : MethodName × ByteArray × Nat × Option FieldType := (⟨"RingPackerModel", "stands", "(IIII)Z"⟩, prog_14_method_22_code, 7, some .boolean)
def Y_Mo_seek : MethodName × ByteArray × Nat × Option FieldType := (⟨"RingPackerModel", "seek", "(II)V"⟩, prog_14_method_23_code, 5, none)
def Y_Mo_lowest : MethodName × ByteArray × Nat × Option FieldType := (⟨"RingPackerModel", "lowest", "(I)I"⟩, prog_14_method_24_code, 1, some .int)
def Y_Mo_extra : MethodName × ByteArray × Nat × Option FieldType := (⟨"RingPackerModel", "extra", "(I)I"⟩, prog_14_method_25_code, 1, some .int)
def Y_Mo_distance : MethodName × ByteArray × Nat × Option FieldType := (⟨"RingPackerModel", "distance", "(IZ)V"⟩, prog_14_method_26_code, 5, none)
def Y_Mo_remember : MethodName × ByteArray × Nat × Option FieldType := (⟨"RingPackerModel", "remember", "(I)V"⟩, prog_14_method_27_code, 2, none)
def Y_Mo_command : MethodName × ByteArray × Nat × Option FieldType := (⟨"RingPackerModel", "command", "(IIIIZ)V"⟩, prog_14_method_28_code, 6, none)
def Y_Mo_parse : MethodName × ByteArray × Nat × Option FieldType := (⟨"RingPackerModel", "parse", "(II)V"⟩, prog_14_method_29_code, 5, none)
def Y_Mo_forget : MethodName × ByteArray × Nat × Option FieldType := (⟨"RingPackerModel", "forget", "()V"⟩, prog_14_method_30_code, 2, none)
def Y_Mo_weigh : MethodName × ByteArray × Nat × Option FieldType := (⟨"RingPackerModel", "weigh", "(II)I"⟩, prog_14_method_31_code, 7, some .int)
def Y_Mo_share : MethodName × ByteArray × Nat × Option FieldType := (⟨"RingPackerModel", "share", "(III)V"⟩, prog_14_method_32_code, 9, none)
def Y_Mo_assign : MethodName × ByteArray × Nat × Option FieldType := (⟨"RingPackerModel", "assign", "(II)V"⟩, prog_14_method_33_code, 8, none)
def Y_Mo_number : MethodName × ByteArray × Nat × Option FieldType := (⟨"RingPackerModel", "number", "(II)V"⟩, prog_14_method_34_code, 4, none)
def Y_Mo_wide : MethodName × ByteArray × Nat × Option FieldType := (⟨"RingPackerModel", "wide", "(I)I"⟩, prog_14_method_35_code, 1, some .int)
def Y_Mo_symbolsOf : MethodName × ByteArray × Nat × Option FieldType := (⟨"RingPackerModel", "symbolsOf", "(I)I"⟩, prog_14_method_36_code, 1, some .int)
def Y_Mo_describe : MethodName × ByteArray × Nat × Option FieldType := (⟨"RingPackerModel", "describe", "(I)V"⟩, prog_14_method_37_code, 7, none)
def Y_Mo_full : MethodName × ByteArray × Nat × Option FieldType := (⟨"RingPackerModel", "full", "(II)V"⟩, prog_14_method_38_code, 6, none)
def Y_Mo_symbol : MethodName × ByteArray × Nat × Option FieldType := (⟨"RingPackerModel", "symbol", "(IZ)V"⟩, prog_14_method_39_code, 4, none)
def Y_Mo_insertKind : MethodName × ByteArray × Nat × Option FieldType := (⟨"RingPackerModel", "insertKind", "(I)I"⟩, prog_14_method_40_code, 1, some .int)
def Y_Mo_copyBits : MethodName × ByteArray × Nat × Option FieldType := (⟨"RingPackerModel", "copyBits", "(I)I"⟩, prog_14_method_41_code, 1, some .int)
def Y_Mo_copyFrom : MethodName × ByteArray × Nat × Option FieldType := (⟨"RingPackerModel", "copyFrom", "(I)I"⟩, prog_14_method_42_code, 1, some .int)
def Y_Mo_through : MethodName × ByteArray × Nat × Option FieldType := (⟨"RingPackerModel", "through", "(IZZ)V"⟩, prog_14_method_43_code, 9, none)
def Y_Mo_block : MethodName × ByteArray × Nat × Option FieldType := (⟨"RingPackerModel", "block", "(III)V"⟩, prog_14_method_44_code, 6, none)
def Y_Mo_counts : MethodName × ByteArray × Nat × Option FieldType := (⟨"RingPackerModel", "counts", "()V"⟩, prog_14_method_45_code, 2, none)
def Y_Mo_tally : MethodName × ByteArray × Nat × Option FieldType := (⟨"RingPackerModel", "tally", "()V"⟩, prog_14_method_46_code, 2, none)
def Y_Mo_choose : MethodName × ByteArray × Nat × Option FieldType := (⟨"RingPackerModel", "choose", "(II)V"⟩, prog_14_method_47_code, 7, none)
def Y_Mo_pack : MethodName × ByteArray × Nat × Option FieldType := (⟨"RingPackerModel", "pack", "()I"⟩, prog_14_method_48_code, 3, some .int)
def Y_Mo_take : MethodName × ByteArray × Nat × Option FieldType := (⟨"RingPackerModel", "take", "(I)I"⟩, prog_14_method_49_code, 4, some .int)
def Y_Mo_pad : MethodName × ByteArray × Nat × Option FieldType := (⟨"RingPackerModel", "pad", "()V"⟩, prog_14_method_50_code, 1, none)
def Y_Mo_readSimple : MethodName × ByteArray × Nat × Option FieldType := (⟨"RingPackerModel", "readSimple", "(II)V"⟩, prog_14_method_51_code, 6, none)
def Y_Mo_readCode : MethodName × ByteArray × Nat × Option FieldType := (⟨"RingPackerModel", "readCode", "(I)V"⟩, prog_14_method_52_code, 6, none)
def Y_Mo_readSymbol : MethodName × ByteArray × Nat × Option FieldType := (⟨"RingPackerModel", "readSymbol", "(I)I"⟩, prog_14_method_53_code, 6, some .int)
def Y_Mo_make : MethodName × ByteArray × Nat × Option FieldType := (⟨"RingPackerModel", "make", "(II)V"⟩, prog_14_method_54_code, 3, none)
def Y_Mo_readDistance : MethodName × ByteArray × Nat × Option FieldType := (⟨"RingPackerModel", "readDistance", "(I)I"⟩, prog_14_method_55_code, 2, some .int)
def Y_Mo_copy : MethodName × ByteArray × Nat × Option FieldType := (⟨"RingPackerModel", "copy", "(III)V"⟩, prog_14_method_56_code, 9, none)
def Y_Mo_readCoded : MethodName × ByteArray × Nat × Option FieldType := (⟨"RingPackerModel", "readCoded", "(I)V"⟩, prog_14_method_57_code, 11, none)
def Y_Mo_readBlock : MethodName × ByteArray × Nat × Option FieldType := (⟨"RingPackerModel", "readBlock", "()Z"⟩, prog_14_method_58_code, 5, some .boolean)
def Y_Mo_unpack : MethodName × ByteArray × Nat × Option FieldType := (⟨"RingPackerModel", "unpack", "()I"⟩, prog_14_method_59_code, 7, some .int)
theorem v_BitStream_init : Y_BitStream_init.2.2.2 = none ∧ Cond.code Y_BitStream_init.1 Y_BitStream_init.2.1 Y_BitStream_init.2.2.1 none ∈ zGW ∧ Cond.instanceMethod Y_BitStream_init.1 ∈ zGW ∧ Cond.initialized Y_BitStream_init.1.cls ∈ zGW ∧ (Y_BitStream_init.1.cls ≠ "java/lang/invoke/MethodHandle" ∧ Y_BitStream_init.1.cls ≠ "java/lang/invoke/VarHandle" ∧ (parseMethodDescriptor Y_BitStream_init.1.desc).map (fun d => d.parameters.length) = some 0) ∧ plainName Y_BitStream_init.1.cls = true ∧ Y_BitStream_init.2.2.1 ≤ 21 ∧ 0 + 1 ≤ Y_BitStream_init.2.2.1 ∧ Y_BitStream_init.1.name = "<init>" := ⟨rfl, zin 103 (by decide +kernel) (by decide +kernel), zin 102 (by decide +kernel) (by decide +kernel), zin 57 (by decide +kernel) (by decide +kernel), ⟨(by decide +kernel), (by decide +kernel), (by decide +kernel)⟩, (by decide +kernel), by decide, by decide, rfl⟩
theorem v_BitStream_add : Cond.code Y_BitStream_add.1 Y_BitStream_add.2.1 Y_BitStream_add.2.2.1 Y_BitStream_add.2.2.2 ∈ zGW ∧ Cond.instanceMethod Y_BitStream_add.1 ∈ zGW ∧ Cond.selects Y_BitStream_add.1.cls Y_BitStream_add.1 Y_BitStream_add.1 ∈ zGW ∧ Cond.initialized Y_BitStream_add.1.cls ∈ zGW ∧ (Y_BitStream_add.1.cls ≠ "java/lang/invoke/MethodHandle" ∧ Y_BitStream_add.1.cls ≠ "java/lang/invoke/VarHandle" ∧ (parseMethodDescriptor Y_BitStream_add.1.desc).map (fun d => d.parameters.length) = some 1) ∧ plainName Y_BitStream_add.1.cls = true ∧ Y_BitStream_add.2.2.1 ≤ 21 ∧ 1 + 1 ≤ Y_BitStream_add.2.2.1 := ⟨zin 813 (by decide +kernel) (by decide +kernel), zin 811 (by decide +kernel) (by decide +kernel), zin 812 (by decide +kernel) (by decide +kernel), zin 57 (by decide +kernel) (by decide +kernel), ⟨(by decide +kernel), (by decide +kernel), (by decide +kernel)⟩, (by decide +kernel), by decide, by decide⟩
theorem v_BitStream_get : Cond.code Y_BitStream_get.1 Y_BitStream_get.2.1 Y_BitStream_get.2.2.1 Y_BitStream_get.2.2.2 ∈ zGW ∧ Cond.instanceMethod Y_BitStream_get.1 ∈ zGW ∧ Cond.selects Y_BitStream_get.1.cls Y_BitStream_get.1 Y_BitStream_get.1 ∈ zGW ∧ Cond.initialized Y_BitStream_get.1.cls ∈ zGW ∧ (Y_BitStream_get.1.cls ≠ "java/lang/invoke/MethodHandle" ∧ Y_BitStream_get.1.cls ≠ "java/lang/invoke/VarHandle" ∧ (parseMethodDescriptor Y_BitStream_get.1.desc).map (fun d => d.parameters.length) = some 1) ∧ plainName Y_BitStream_get.1.cls = true ∧ Y_BitStream_get.2.2.1 ≤ 21 ∧ 1 + 1 ≤ Y_BitStream_get.2.2.1 := ⟨zin 796 (by decide +kernel) (by decide +kernel), zin 794 (by decide +kernel) (by decide +kernel), zin 795 (by decide +kernel) (by decide +kernel), zin 57 (by decide +kernel) (by decide +kernel), ⟨(by decide +kernel), (by decide +kernel), (by decide +kernel)⟩, (by decide +kernel), by decide, by decide⟩
theorem v_BitStream_change : Cond.code Y_BitStream_change.1 Y_BitStream_change.2.1 Y_BitStream_change.2.2.1 Y_BitStream_change.2.2.2 ∈ zGW ∧ Cond.instanceMethod Y_BitStream_change.1 ∈ zGW ∧ Cond.selects Y_BitStream_change.1.cls Y_BitStream_change.1 Y_BitStream_change.1 ∈ zGW ∧ Cond.initialized Y_BitStream_change.1.cls ∈ zGW ∧ (Y_BitStream_change.1.cls ≠ "java/lang/invoke/MethodHandle" ∧ Y_BitStream_change.1.cls ≠ "java/lang/invoke/VarHandle" ∧ (parseMethodDescriptor Y_BitStream_change.1.desc).map (fun d => d.parameters.length) = some 2) ∧ plainName Y_BitStream_change.1.cls = true ∧ Y_BitStream_change.2.2.1 ≤ 21 ∧ 2 + 1 ≤ Y_BitStream_change.2.2.1 := ⟨zin 804 (by decide +kernel) (by decide +kernel), zin 802 (by decide +kernel) (by decide +kernel), zin 803 (by decide +kernel) (by decide +kernel), zin 57 (by decide +kernel) (by decide +kernel), ⟨(by decide +kernel), (by decide +kernel), (by decide +kernel)⟩, (by decide +kernel), by decide, by decide⟩
theorem v_BitStream_keep : Cond.code Y_BitStream_keep.1 Y_BitStream_keep.2.1 Y_BitStream_keep.2.2.1 Y_BitStream_keep.2.2.2 ∈ zGW ∧ Cond.instanceMethod Y_BitStream_keep.1 ∈ zGW ∧ Cond.selects Y_BitStream_keep.1.cls Y_BitStream_keep.1 Y_BitStream_keep.1 ∈ zGW ∧ Cond.initialized Y_BitStream_keep.1.cls ∈ zGW ∧ (Y_BitStream_keep.1.cls ≠ "java/lang/invoke/MethodHandle" ∧ Y_BitStream_keep.1.cls ≠ "java/lang/invoke/VarHandle" ∧ (parseMethodDescriptor Y_BitStream_keep.1.desc).map (fun d => d.parameters.length) = some 1) ∧ plainName Y_BitStream_keep.1.cls = true ∧ Y_BitStream_keep.2.2.1 ≤ 21 ∧ 1 + 1 ≤ Y_BitStream_keep.2.2.1 := ⟨zin 821 (by decide +kernel) (by decide +kernel), zin 819 (by decide +kernel) (by decide +kernel), zin 820 (by decide +kernel) (by decide +kernel), zin 57 (by decide +kernel) (by decide +kernel), ⟨(by decide +kernel), (by decide +kernel), (by decide +kernel)⟩, (by decide +kernel), by decide, by decide⟩
theorem v_BitStream_startReading : Cond.code Y_BitStream_startReading.1 Y_BitStream_startReading.2.1 Y_BitStream_startReading.2.2.1 Y_BitStream_startReading.2.2.2 ∈ zGW ∧ Cond.instanceMethod Y_BitStream_startReading.1 ∈ zGW ∧ Cond.selects Y_BitStream_startReading.1.cls Y_BitStream_startReading.1 Y_BitStream_startReading.1 ∈ zGW ∧ Cond.initialized Y_BitStream_startReading.1.cls ∈ zGW ∧ (Y_BitStream_startReading.1.cls ≠ "java/lang/invoke/MethodHandle" ∧ Y_BitStream_startReading.1.cls ≠ "java/lang/invoke/VarHandle" ∧ (parseMethodDescriptor Y_BitStream_startReading.1.desc).map (fun d => d.parameters.length) = some 0) ∧ plainName Y_BitStream_startReading.1.cls = true ∧ Y_BitStream_startReading.2.2.1 ≤ 21 ∧ 0 + 1 ≤ Y_BitStream_startReading.2.2.1 := ⟨zin 703 (by decide +kernel) (by decide +kernel), zin 701 (by decide +kernel) (by decide +kernel), zin 702 (by decide +kernel) (by decide +kernel), zin 57 (by decide +kernel) (by decide +kernel), ⟨(by decide +kernel), (by decide +kernel), (by decide +kernel)⟩, (by decide +kernel), by decide, by decide⟩
theorem v_BitStream_take : Cond.code Y_BitStream_take.1 Y_BitStream_take.2.1 Y_BitStream_take.2.2.1 Y_BitStream_take.2.2.2 ∈ zGW ∧ Cond.instanceMethod Y_BitStream_take.1 ∈ zGW ∧ Cond.selects Y_BitStream_take.1.cls Y_BitStream_take.1 Y_BitStream_take.1 ∈ zGW ∧ Cond.initialized Y_BitStream_take.1.cls ∈ zGW ∧ (Y_BitStream_take.1.cls ≠ "java/lang/invoke/MethodHandle" ∧ Y_BitStream_take.1.cls ≠ "java/lang/invoke/VarHandle" ∧ (parseMethodDescriptor Y_BitStream_take.1.desc).map (fun d => d.parameters.length) = some 1) ∧ plainName Y_BitStream_take.1.cls = true ∧ Y_BitStream_take.2.2.1 ≤ 21 ∧ 1 + 1 ≤ Y_BitStream_take.2.2.1 := ⟨zin 707 (by decide +kernel) (by decide +kernel), zin 705 (by decide +kernel) (by decide +kernel), zin 706 (by decide +kernel) (by decide +kernel), zin 57 (by decide +kernel) (by decide +kernel), ⟨(by decide +kernel), (by decide +kernel), (by decide +kernel)⟩, (by decide +kernel), by decide, by decide⟩
theorem v_BitStream_takeZerosToByteEnd : Cond.code Y_BitStream_takeZerosToByteEnd.1 Y_BitStream_takeZerosToByteEnd.2.1 Y_BitStream_takeZerosToByteEnd.2.2.1 Y_BitStream_takeZerosToByteEnd.2.2.2 ∈ zGW ∧ Cond.instanceMethod Y_BitStream_takeZerosToByteEnd.1 ∈ zGW ∧ Cond.selects Y_BitStream_takeZerosToByteEnd.1.cls Y_BitStream_takeZerosToByteEnd.1 Y_BitStream_takeZerosToByteEnd.1 ∈ zGW ∧ Cond.initialized Y_BitStream_takeZerosToByteEnd.1.cls ∈ zGW ∧ (Y_BitStream_takeZerosToByteEnd.1.cls ≠ "java/lang/invoke/MethodHandle" ∧ Y_BitStream_takeZerosToByteEnd.1.cls ≠ "java/lang/invoke/VarHandle" ∧ (parseMethodDescriptor Y_BitStream_takeZerosToByteEnd.1.desc).map (fun d => d.parameters.length) = some 0) ∧ plainName Y_BitStream_takeZerosToByteEnd.1.cls = true ∧ Y_BitStream_takeZerosToByteEnd.2.2.1 ≤ 21 ∧ 0 + 1 ≤ Y_BitStream_takeZerosToByteEnd.2.2.1 := ⟨zin 773 (by decide +kernel) (by decide +kernel), zin 771 (by decide +kernel) (by decide +kernel), zin 772 (by decide +kernel) (by decide +kernel), zin 57 (by decide +kernel) (by decide +kernel), ⟨(by decide +kernel), (by decide +kernel), (by decide +kernel)⟩, (by decide +kernel), by decide, by decide⟩
theorem v_BitStream_isReadWhole : Cond.code Y_BitStream_isReadWhole.1 Y_BitStream_isReadWhole.2.1 Y_BitStream_isReadWhole.2.2.1 Y_BitStream_isReadWhole.2.2.2 ∈ zGW ∧ Cond.instanceMethod Y_BitStream_isReadWhole.1 ∈ zGW ∧ Cond.selects Y_BitStream_isReadWhole.1.cls Y_BitStream_isReadWhole.1 Y_BitStream_isReadWhole.1 ∈ zGW ∧ Cond.initialized Y_BitStream_isReadWhole.1.cls ∈ zGW ∧ (Y_BitStream_isReadWhole.1.cls ≠ "java/lang/invoke/MethodHandle" ∧ Y_BitStream_isReadWhole.1.cls ≠ "java/lang/invoke/VarHandle" ∧ (parseMethodDescriptor Y_BitStream_isReadWhole.1.desc).map (fun d => d.parameters.length) = some 0) ∧ plainName Y_BitStream_isReadWhole.1.cls = true ∧ Y_BitStream_isReadWhole.2.2.1 ≤ 21 ∧ 0 + 1 ≤ Y_BitStream_isReadWhole.2.2.1 := ⟨zin 778 (by decide +kernel) (by decide +kernel), zin 776 (by decide +kernel) (by decide +kernel), zin 777 (by decide +kernel) (by decide +kernel), zin 57 (by decide +kernel) (by decide +kernel), ⟨(by decide +kernel), (by decide +kernel), (by decide +kernel)⟩, (by decide +kernel), by decide, by decide⟩
theorem v_BitStream_startWriting : Cond.code Y_BitStream_startWriting.1 Y_BitStream_startWriting.2.1 Y_BitStream_startWriting.2.2.1 Y_BitStream_startWriting.2.2.2 ∈ zGW ∧ Cond.instanceMethod Y_BitStream_startWriting.1 ∈ zGW ∧ Cond.selects Y_BitStream_startWriting.1.cls Y_BitStream_startWriting.1 Y_BitStream_startWriting.1 ∈ zGW ∧ Cond.initialized Y_BitStream_startWriting.1.cls ∈ zGW ∧ (Y_BitStream_startWriting.1.cls ≠ "java/lang/invoke/MethodHandle" ∧ Y_BitStream_startWriting.1.cls ≠ "java/lang/invoke/VarHandle" ∧ (parseMethodDescriptor Y_BitStream_startWriting.1.desc).map (fun d => d.parameters.length) = some 0) ∧ plainName Y_BitStream_startWriting.1.cls = true ∧ Y_BitStream_startWriting.2.2.1 ≤ 21 ∧ 0 + 1 ≤ Y_BitStream_startWriting.2.2.1 := ⟨zin 400 (by decide +kernel) (by decide +kernel), zin 398 (by decide +kernel) (by decide +kernel), zin 399 (by decide +kernel) (by decide +kernel), zin 57 (by decide +kernel) (by decide +kernel), ⟨(by decide +kernel), (by decide +kernel), (by decide +kernel)⟩, (by decide +kernel), by decide, by decide⟩
theorem v_BitStream_goBackTo : Cond.code Y_BitStream_goBackTo.1 Y_BitStream_goBackTo.2.1 Y_BitStream_goBackTo.2.2.1 Y_BitStream_goBackTo.2.2.2 ∈ zGW ∧ Cond.instanceMethod Y_BitStream_goBackTo.1 ∈ zGW ∧ Cond.selects Y_BitStream_goBackTo.1.cls Y_BitStream_goBackTo.1 Y_BitStream_goBackTo.1 ∈ zGW ∧ Cond.initialized Y_BitStream_goBackTo.1.cls ∈ zGW ∧ (Y_BitStream_goBackTo.1.cls ≠ "java/lang/invoke/MethodHandle" ∧ Y_BitStream_goBackTo.1.cls ≠ "java/lang/invoke/VarHandle" ∧ (parseMethodDescriptor Y_BitStream_goBackTo.1.desc).map (fun d => d.parameters.length) = some 1) ∧ plainName Y_BitStream_goBackTo.1.cls = true ∧ Y_BitStream_goBackTo.2.2.1 ≤ 21 ∧ 1 + 1 ≤ Y_BitStream_goBackTo.2.2.1 := ⟨zin 552 (by decide +kernel) (by decide +kernel), zin 550 (by decide +kernel) (by decide +kernel), zin 551 (by decide +kernel) (by decide +kernel), zin 57 (by decide +kernel) (by decide +kernel), ⟨(by decide +kernel), (by decide +kernel), (by decide +kernel)⟩, (by decide +kernel), by decide, by decide⟩
theorem v_BitStream_give : Cond.code Y_BitStream_give.1 Y_BitStream_give.2.1 Y_BitStream_give.2.2.1 Y_BitStream_give.2.2.2 ∈ zGW ∧ Cond.instanceMethod Y_BitStream_give.1 ∈ zGW ∧ Cond.selects Y_BitStream_give.1.cls Y_BitStream_give.1 Y_BitStream_give.1 ∈ zGW ∧ Cond.initialized Y_BitStream_give.1.cls ∈ zGW ∧ (Y_BitStream_give.1.cls ≠ "java/lang/invoke/MethodHandle" ∧ Y_BitStream_give.1.cls ≠ "java/lang/invoke/VarHandle" ∧ (parseMethodDescriptor Y_BitStream_give.1.desc).map (fun d => d.parameters.length) = some 2) ∧ plainName Y_BitStream_give.1.cls = true ∧ Y_BitStream_give.2.2.1 ≤ 21 ∧ 2 + 1 ≤ Y_BitStream_give.2.2.1 := ⟨zin 416 (by decide +kernel) (by decide +kernel), zin 414 (by decide +kernel) (by decide +kernel), zin 415 (by decide +kernel) (by decide +kernel), zin 57 (by decide +kernel) (by decide +kernel), ⟨(by decide +kernel), (by decide +kernel), (by decide +kernel)⟩, (by decide +kernel), by decide, by decide⟩
theorem v_BitStream_giveZerosToByteEnd : Cond.code Y_BitStream_giveZerosToByteEnd.1 Y_BitStream_giveZerosToByteEnd.2.1 Y_BitStream_giveZerosToByteEnd.2.2.1 Y_BitStream_giveZerosToByteEnd.2.2.2 ∈ zGW ∧ Cond.instanceMethod Y_BitStream_giveZerosToByteEnd.1 ∈ zGW ∧ Cond.selects Y_BitStream_giveZerosToByteEnd.1.cls Y_BitStream_giveZerosToByteEnd.1 Y_BitStream_giveZerosToByteEnd.1 ∈ zGW ∧ Cond.initialized Y_BitStream_giveZerosToByteEnd.1.cls ∈ zGW ∧ (Y_BitStream_giveZerosToByteEnd.1.cls ≠ "java/lang/invoke/MethodHandle" ∧ Y_BitStream_giveZerosToByteEnd.1.cls ≠ "java/lang/invoke/VarHandle" ∧ (parseMethodDescriptor Y_BitStream_giveZerosToByteEnd.1.desc).map (fun d => d.parameters.length) = some 0) ∧ plainName Y_BitStream_giveZerosToByteEnd.1.cls = true ∧ Y_BitStream_giveZerosToByteEnd.2.2.1 ≤ 21 ∧ 0 + 1 ≤ Y_BitStream_giveZerosToByteEnd.2.2.1 := ⟨zin 565 (by decide +kernel) (by decide +kernel), zin 563 (by decide +kernel) (by decide +kernel), zin 564 (by decide +kernel) (by decide +kernel), zin 57 (by decide +kernel) (by decide +kernel), ⟨(by decide +kernel), (by decide +kernel), (by decide +kernel)⟩, (by decide +kernel), by decide, by decide⟩
theorem v_BitStream_finishWriting : Cond.code Y_BitStream_finishWriting.1 Y_BitStream_finishWriting.2.1 Y_BitStream_finishWriting.2.2.1 Y_BitStream_finishWriting.2.2.2 ∈ zGW ∧ Cond.instanceMethod Y_BitStream_finishWriting.1 ∈ zGW ∧ Cond.selects Y_BitStream_finishWriting.1.cls Y_BitStream_finishWriting.1 Y_BitStream_finishWriting.1 ∈ zGW ∧ Cond.initialized Y_BitStream_finishWriting.1.cls ∈ zGW ∧ (Y_BitStream_finishWriting.1.cls ≠ "java/lang/invoke/MethodHandle" ∧ Y_BitStream_finishWriting.1.cls ≠ "java/lang/invoke/VarHandle" ∧ (parseMethodDescriptor Y_BitStream_finishWriting.1.desc).map (fun d => d.parameters.length) = some 0) ∧ plainName Y_BitStream_finishWriting.1.cls = true ∧ Y_BitStream_finishWriting.2.2.1 ≤ 21 ∧ 0 + 1 ≤ Y_BitStream_finishWriting.2.2.1 := ⟨zin 681 (by decide +kernel) (by decide +kernel), zin 679 (by decide +kernel) (by decide +kernel), zin 680 (by decide +kernel) (by decide +kernel), zin 57 (by decide +kernel) (by decide +kernel), ⟨(by decide +kernel), (by decide +kernel), (by decide +kernel)⟩, (by decide +kernel), by decide, by decide⟩
theorem v_Code_init : Y_Code_init.2.2.2 = none ∧ Cond.code Y_Code_init.1 Y_Code_init.2.1 Y_Code_init.2.2.1 none ∈ zGW ∧ Cond.instanceMethod Y_Code_init.1 ∈ zGW ∧ Cond.initialized Y_Code_init.1.cls ∈ zGW ∧ (Y_Code_init.1.cls ≠ "java/lang/invoke/MethodHandle" ∧ Y_Code_init.1.cls ≠ "java/lang/invoke/VarHandle" ∧ (parseMethodDescriptor Y_Code_init.1.desc).map (fun d => d.parameters.length) = some 2) ∧ plainName Y_Code_init.1.cls = true ∧ Y_Code_init.2.2.1 ≤ 21 ∧ 2 + 1 ≤ Y_Code_init.2.2.1 ∧ Y_Code_init.1.name = "<init>" := ⟨rfl, zin 177 (by decide +kernel) (by decide +kernel), zin 176 (by decide +kernel) (by decide +kernel), zin 62 (by decide +kernel) (by decide +kernel), ⟨(by decide +kernel), (by decide +kernel), (by decide +kernel)⟩, (by decide +kernel), by decide, by decide, rfl⟩
theorem v_Code_readDescription : Cond.code Y_Code_readDescription.1 Y_Code_readDescription.2.1 Y_Code_readDescription.2.2.1 Y_Code_readDescription.2.2.2 ∈ zGW ∧ Cond.instanceMethod Y_Code_readDescription.1 ∈ zGW ∧ Cond.selects Y_Code_readDescription.1.cls Y_Code_readDescription.1 Y_Code_readDescription.1 ∈ zGW ∧ Cond.initialized Y_Code_readDescription.1.cls ∈ zGW ∧ (Y_Code_readDescription.1.cls ≠ "java/lang/invoke/MethodHandle" ∧ Y_Code_readDescription.1.cls ≠ "java/lang/invoke/VarHandle" ∧ (parseMethodDescriptor Y_Code_readDescription.1.desc).map (fun d => d.parameters.length) = some 1) ∧ plainName Y_Code_readDescription.1.cls = true ∧ Y_Code_readDescription.2.2.1 ≤ 21 ∧ 1 + 1 ≤ Y_Code_readDescription.2.2.1 := ⟨zin 719 (by decide +kernel) (by decide +kernel), zin 717 (by decide +kernel) (by decide +kernel), zin 718 (by decide +kernel) (by decide +kernel), zin 62 (by decide +kernel) (by decide +kernel), ⟨(by decide +kernel), (by decide +kernel), (by decide +kernel)⟩, (by decide +kernel), by decide, by decide⟩
theorem v_Code_readSimple : Cond.code Y_Code_readSimple.1 Y_Code_readSimple.2.1 Y_Code_readSimple.2.2.1 Y_Code_readSimple.2.2.2 ∈ zGW ∧ Cond.instanceMethod Y_Code_readSimple.1 ∈ zGW ∧ Cond.selects Y_Code_readSimple.1.cls Y_Code_readSimple.1 Y_Code_readSimple.1 ∈ zGW ∧ Cond.initialized Y_Code_readSimple.1.cls ∈ zGW ∧ (Y_Code_readSimple.1.cls ≠ "java/lang/invoke/MethodHandle" ∧ Y_Code_readSimple.1.cls ≠ "java/lang/invoke/VarHandle" ∧ (parseMethodDescriptor Y_Code_readSimple.1.desc).map (fun d => d.parameters.length) = some 1) ∧ plainName Y_Code_readSimple.1.cls = true ∧ Y_Code_readSimple.2.2.1 ≤ 21 ∧ 1 + 1 ≤ Y_Code_readSimple.2.2.1 := ⟨zin 724 (by decide +kernel) (by decide +kernel), zin 723 (by decide +kernel) (by decide +kernel), zin 16 (by decide +kernel) (by decide +kernel), zin 62 (by decide +kernel) (by decide +kernel), ⟨(by decide +kernel), (by decide +kernel), (by decide +kernel)⟩, (by decide +kernel), by decide, by decide⟩
theorem v_Code_readBitNumbers : Cond.code Y_Code_readBitNumbers.1 Y_Code_readBitNumbers.2.1 Y_Code_readBitNumbers.2.2.1 Y_Code_readBitNumbers.2.2.2 ∈ zGW ∧ Cond.instanceMethod Y_Code_readBitNumbers.1 ∈ zGW ∧ Cond.selects Y_Code_readBitNumbers.1.cls Y_Code_readBitNumbers.1 Y_Code_readBitNumbers.1 ∈ zGW ∧ Cond.initialized Y_Code_readBitNumbers.1.cls ∈ zGW ∧ (Y_Code_readBitNumbers.1.cls ≠ "java/lang/invoke/MethodHandle" ∧ Y_Code_readBitNumbers.1.cls ≠ "java/lang/invoke/VarHandle" ∧ (parseMethodDescriptor Y_Code_readBitNumbers.1.desc).map (fun d => d.parameters.length) = some 1) ∧ plainName Y_Code_readBitNumbers.1.cls = true ∧ Y_Code_readBitNumbers.2.2.1 ≤ 21 ∧ 1 + 1 ≤ Y_Code_readBitNumbers.2.2.1 := ⟨zin 732 (by decide +kernel) (by decide +kernel), zin 731 (by decide +kernel) (by decide +kernel), zin 18 (by decide +kernel) (by decide +kernel), zin 62 (by decide +kernel) (by decide +kernel), ⟨(by decide +kernel), (by decide +kernel), (by decide +kernel)⟩, (by decide +kernel), by decide, by decide⟩
theorem v_Code_readWord : Cond.code Y_Code_readWord.1 Y_Code_readWord.2.1 Y_Code_readWord.2.2.1 Y_Code_readWord.2.2.2 ∈ zGW ∧ Cond.instanceMethod Y_Code_readWord.1 ∈ zGW ∧ Cond.selects Y_Code_readWord.1.cls Y_Code_readWord.1 Y_Code_readWord.1 ∈ zGW ∧ Cond.initialized Y_Code_readWord.1.cls ∈ zGW ∧ (Y_Code_readWord.1.cls ≠ "java/lang/invoke/MethodHandle" ∧ Y_Code_readWord.1.cls ≠ "java/lang/invoke/VarHandle" ∧ (parseMethodDescriptor Y_Code_readWord.1.desc).map (fun d => d.parameters.length) = some 1) ∧ plainName Y_Code_readWord.1.cls = true ∧ Y_Code_readWord.2.2.1 ≤ 21 ∧ 1 + 1 ≤ Y_Code_readWord.2.2.1 := ⟨zin 740 (by decide +kernel) (by decide +kernel), zin 738 (by decide +kernel) (by decide +kernel), zin 739 (by decide +kernel) (by decide +kernel), zin 62 (by decide +kernel) (by decide +kernel), ⟨(by decide +kernel), (by decide +kernel), (by decide +kernel)⟩, (by decide +kernel), by decide, by decide⟩
theorem v_Code_forgetTimes : Cond.code Y_Code_forgetTimes.1 Y_Code_forgetTimes.2.1 Y_Code_forgetTimes.2.2.1 Y_Code_forgetTimes.2.2.2 ∈ zGW ∧ Cond.instanceMethod Y_Code_forgetTimes.1 ∈ zGW ∧ Cond.selects Y_Code_forgetTimes.1.cls Y_Code_forgetTimes.1 Y_Code_forgetTimes.1 ∈ zGW ∧ Cond.initialized Y_Code_forgetTimes.1.cls ∈ zGW ∧ (Y_Code_forgetTimes.1.cls ≠ "java/lang/invoke/MethodHandle" ∧ Y_Code_forgetTimes.1.cls ≠ "java/lang/invoke/VarHandle" ∧ (parseMethodDescriptor Y_Code_forgetTimes.1.desc).map (fun d => d.parameters.length) = some 0) ∧ plainName Y_Code_forgetTimes.1.cls = true ∧ Y_Code_forgetTimes.2.2.1 ≤ 21 ∧ 0 + 1 ≤ Y_Code_forgetTimes.2.2.1 := ⟨zin 579 (by decide +kernel) (by decide +kernel), zin 577 (by decide +kernel) (by decide +kernel), zin 578 (by decide +kernel) (by decide +kernel), zin 62 (by decide +kernel) (by decide +kernel), ⟨(by decide +kernel), (by decide +kernel), (by decide +kernel)⟩, (by decide +kernel), by decide, by decide⟩
theorem v_Code_countOnce : Cond.code Y_Code_countOnce.1 Y_Code_countOnce.2.1 Y_Code_countOnce.2.2.1 Y_Code_countOnce.2.2.2 ∈ zGW ∧ Cond.instanceMethod Y_Code_countOnce.1 ∈ zGW ∧ Cond.selects Y_Code_countOnce.1.cls Y_Code_countOnce.1 Y_Code_countOnce.1 ∈ zGW ∧ Cond.initialized Y_Code_countOnce.1.cls ∈ zGW ∧ (Y_Code_countOnce.1.cls ≠ "java/lang/invoke/MethodHandle" ∧ Y_Code_countOnce.1.cls ≠ "java/lang/invoke/VarHandle" ∧ (parseMethodDescriptor Y_Code_countOnce.1.desc).map (fun d => d.parameters.length) = some 1) ∧ plainName Y_Code_countOnce.1.cls = true ∧ Y_Code_countOnce.2.2.1 ≤ 21 ∧ 1 + 1 ≤ Y_Code_countOnce.2.2.1 := ⟨zin 593 (by decide +kernel) (by decide +kernel), zin 591 (by decide +kernel) (by decide +kernel), zin 592 (by decide +kernel) (by decide +kernel), zin 62 (by decide +kernel) (by decide +kernel), ⟨(by decide +kernel), (by decide +kernel), (by decide +kernel)⟩, (by decide +kernel), by decide, by decide⟩
theorem v_Code_makeFromTimes : Cond.code Y_Code_makeFromTimes.1 Y_Code_makeFromTimes.2.1 Y_Code_makeFromTimes.2.2.1 Y_Code_makeFromTimes.2.2.2 ∈ zGW ∧ Cond.instanceMethod Y_Code_makeFromTimes.1 ∈ zGW ∧ Cond.selects Y_Code_makeFromTimes.1.cls Y_Code_makeFromTimes.1 Y_Code_makeFromTimes.1 ∈ zGW ∧ Cond.initialized Y_Code_makeFromTimes.1.cls ∈ zGW ∧ (Y_Code_makeFromTimes.1.cls ≠ "java/lang/invoke/MethodHandle" ∧ Y_Code_makeFromTimes.1.cls ≠ "java/lang/invoke/VarHandle" ∧ (parseMethodDescriptor Y_Code_makeFromTimes.1.desc).map (fun d => d.parameters.length) = some 0) ∧ plainName Y_Code_makeFromTimes.1.cls = true ∧ Y_Code_makeFromTimes.2.2.1 ≤ 21 ∧ 0 + 1 ≤ Y_Code_makeFromTimes.2.2.1 := ⟨zin 610 (by decide +kernel) (by decide +kernel), zin 608 (by decide +kernel) (by decide +kernel), zin 609 (by decide +kernel) (by decide +kernel), zin 62 (by decide +kernel) (by decide +kernel), ⟨(by decide +kernel), (by decide +kernel), (by decide +kernel)⟩, (by decide +kernel), by decide, by decide⟩
theorem v_Code_chooseSimpleBits : Cond.code Y_Code_chooseSimpleBits.1 Y_Code_chooseSimpleBits.2.1 Y_Code_chooseSimpleBits.2.2.1 Y_Code_chooseSimpleBits.2.2.2 ∈ zGW ∧ Cond.instanceMethod Y_Code_chooseSimpleBits.1 ∈ zGW ∧ Cond.selects Y_Code_chooseSimpleBits.1.cls Y_Code_chooseSimpleBits.1 Y_Code_chooseSimpleBits.1 ∈ zGW ∧ Cond.initialized Y_Code_chooseSimpleBits.1.cls ∈ zGW ∧ (Y_Code_chooseSimpleBits.1.cls ≠ "java/lang/invoke/MethodHandle" ∧ Y_Code_chooseSimpleBits.1.cls ≠ "java/lang/invoke/VarHandle" ∧ (parseMethodDescriptor Y_Code_chooseSimpleBits.1.desc).map (fun d => d.parameters.length) = some 0) ∧ plainName Y_Code_chooseSimpleBits.1.cls = true ∧ Y_Code_chooseSimpleBits.2.2.1 ≤ 21 ∧ 0 + 1 ≤ Y_Code_chooseSimpleBits.2.2.1 := ⟨zin 622 (by decide +kernel) (by decide +kernel), zin 621 (by decide +kernel) (by decide +kernel), zin 8 (by decide +kernel) (by decide +kernel), zin 62 (by decide +kernel) (by decide +kernel), ⟨(by decide +kernel), (by decide +kernel), (by decide +kernel)⟩, (by decide +kernel), by decide, by decide⟩
theorem v_Code_chooseFirstBits : Cond.code Y_Code_chooseFirstBits.1 Y_Code_chooseFirstBits.2.1 Y_Code_chooseFirstBits.2.2.1 Y_Code_chooseFirstBits.2.2.2 ∈ zGW ∧ Cond.instanceMethod Y_Code_chooseFirstBits.1 ∈ zGW ∧ Cond.selects Y_Code_chooseFirstBits.1.cls Y_Code_chooseFirstBits.1 Y_Code_chooseFirstBits.1 ∈ zGW ∧ Cond.initialized Y_Code_chooseFirstBits.1.cls ∈ zGW ∧ (Y_Code_chooseFirstBits.1.cls ≠ "java/lang/invoke/MethodHandle" ∧ Y_Code_chooseFirstBits.1.cls ≠ "java/lang/invoke/VarHandle" ∧ (parseMethodDescriptor Y_Code_chooseFirstBits.1.desc).map (fun d => d.parameters.length) = some 0) ∧ plainName Y_Code_chooseFirstBits.1.cls = true ∧ Y_Code_chooseFirstBits.2.2.1 ≤ 21 ∧ 0 + 1 ≤ Y_Code_chooseFirstBits.2.2.1 := ⟨zin 629 (by decide +kernel) (by decide +kernel), zin 628 (by decide +kernel) (by decide +kernel), zin 9 (by decide +kernel) (by decide +kernel), zin 62 (by decide +kernel) (by decide +kernel), ⟨(by decide +kernel), (by decide +kernel), (by decide +kernel)⟩, (by decide +kernel), by decide, by decide⟩
theorem v_Code_spreadSpace : Cond.code Y_Code_spreadSpace.1 Y_Code_spreadSpace.2.1 Y_Code_spreadSpace.2.2.1 Y_Code_spreadSpace.2.2.2 ∈ zGW ∧ Cond.instanceMethod Y_Code_spreadSpace.1 ∈ zGW ∧ Cond.selects Y_Code_spreadSpace.1.cls Y_Code_spreadSpace.1 Y_Code_spreadSpace.1 ∈ zGW ∧ Cond.initialized Y_Code_spreadSpace.1.cls ∈ zGW ∧ (Y_Code_spreadSpace.1.cls ≠ "java/lang/invoke/MethodHandle" ∧ Y_Code_spreadSpace.1.cls ≠ "java/lang/invoke/VarHandle" ∧ (parseMethodDescriptor Y_Code_spreadSpace.1.desc).map (fun d => d.parameters.length) = some 1) ∧ plainName Y_Code_spreadSpace.1.cls = true ∧ Y_Code_spreadSpace.2.2.1 ≤ 21 ∧ 1 + 1 ≤ Y_Code_spreadSpace.2.2.1 := ⟨zin 633 (by decide +kernel) (by decide +kernel), zin 632 (by decide +kernel) (by decide +kernel), zin 10 (by decide +kernel) (by decide +kernel), zin 62 (by decide +kernel) (by decide +kernel), ⟨(by decide +kernel), (by decide +kernel), (by decide +kernel)⟩, (by decide +kernel), by decide, by decide⟩
theorem v_Code_writeDescription : Cond.code Y_Code_writeDescription.1 Y_Code_writeDescription.2.1 Y_Code_writeDescription.2.2.1 Y_Code_writeDescription.2.2.2 ∈ zGW ∧ Cond.instanceMethod Y_Code_writeDescription.1 ∈ zGW ∧ Cond.selects Y_Code_writeDescription.1.cls Y_Code_writeDescription.1 Y_Code_writeDescription.1 ∈ zGW ∧ Cond.initialized Y_Code_writeDescription.1.cls ∈ zGW ∧ (Y_Code_writeDescription.1.cls ≠ "java/lang/invoke/MethodHandle" ∧ Y_Code_writeDescription.1.cls ≠ "java/lang/invoke/VarHandle" ∧ (parseMethodDescriptor Y_Code_writeDescription.1.desc).map (fun d => d.parameters.length) = some 1) ∧ plainName Y_Code_writeDescription.1.cls = true ∧ Y_Code_writeDescription.2.2.1 ≤ 21 ∧ 1 + 1 ≤ Y_Code_writeDescription.2.2.1 := ⟨zin 645 (by decide +kernel) (by decide +kernel), zin 643 (by decide +kernel) (by decide +kernel), zin 644 (by decide +kernel) (by decide +kernel), zin 62 (by decide +kernel) (by decide +kernel), ⟨(by decide +kernel), (by decide +kernel), (by decide +kernel)⟩, (by decide +kernel), by decide, by decide⟩
theorem v_Code_writeBitNumbers : Cond.code Y_Code_writeBitNumbers.1 Y_Code_writeBitNumbers.2.1 Y_Code_writeBitNumbers.2.2.1 Y_Code_writeBitNumbers.2.2.2 ∈ zGW ∧ Cond.instanceMethod Y_Code_writeBitNumbers.1 ∈ zGW ∧ Cond.selects Y_Code_writeBitNumbers.1.cls Y_Code_writeBitNumbers.1 Y_Code_writeBitNumbers.1 ∈ zGW ∧ Cond.initialized Y_Code_writeBitNumbers.1.cls ∈ zGW ∧ (Y_Code_writeBitNumbers.1.cls ≠ "java/lang/invoke/MethodHandle" ∧ Y_Code_writeBitNumbers.1.cls ≠ "java/lang/invoke/VarHandle" ∧ (parseMethodDescriptor Y_Code_writeBitNumbers.1.desc).map (fun d => d.parameters.length) = some 1) ∧ plainName Y_Code_writeBitNumbers.1.cls = true ∧ Y_Code_writeBitNumbers.2.2.1 ≤ 21 ∧ 1 + 1 ≤ Y_Code_writeBitNumbers.2.2.1 := ⟨zin 650 (by decide +kernel) (by decide +kernel), zin 649 (by decide +kernel) (by decide +kernel), zin 13 (by decide +kernel) (by decide +kernel), zin 62 (by decide +kernel) (by decide +kernel), ⟨(by decide +kernel), (by decide +kernel), (by decide +kernel)⟩, (by decide +kernel), by decide, by decide⟩
theorem v_Code_writeMissing : Cond.code Y_Code_writeMissing.1 Y_Code_writeMissing.2.1 Y_Code_writeMissing.2.2.1 Y_Code_writeMissing.2.2.2 ∈ zGW ∧ Cond.static Y_Code_writeMissing.1 ∈ zGW ∧ Cond.initialized Y_Code_writeMissing.1.cls ∈ zGW ∧ (Y_Code_writeMissing.1.cls ≠ "java/lang/invoke/MethodHandle" ∧ Y_Code_writeMissing.1.cls ≠ "java/lang/invoke/VarHandle" ∧ (parseMethodDescriptor Y_Code_writeMissing.1.desc).map (fun d => d.parameters.length) = some 2) ∧ plainName Y_Code_writeMissing.1.cls = true ∧ Y_Code_writeMissing.2.2.1 ≤ 21 ∧ 2 ≤ Y_Code_writeMissing.2.2.1 := ⟨zin 653 (by decide +kernel) (by decide +kernel), zin 652 (by decide +kernel) (by decide +kernel), zin 62 (by decide +kernel) (by decide +kernel), ⟨(by decide +kernel), (by decide +kernel), (by decide +kernel)⟩, (by decide +kernel), by decide, by decide⟩
theorem v_Code_writeWord : Cond.code Y_Code_writeWord.1 Y_Code_writeWord.2.1 Y_Code_writeWord.2.2.1 Y_Code_writeWord.2.2.2 ∈ zGW ∧ Cond.instanceMethod Y_Code_writeWord.1 ∈ zGW ∧ Cond.selects Y_Code_writeWord.1.cls Y_Code_writeWord.1 Y_Code_writeWord.1 ∈ zGW ∧ Cond.initialized Y_Code_writeWord.1.cls ∈ zGW ∧ (Y_Code_writeWord.1.cls ≠ "java/lang/invoke/MethodHandle" ∧ Y_Code_writeWord.1.cls ≠ "java/lang/invoke/VarHandle" ∧ (parseMethodDescriptor Y_Code_writeWord.1.desc).map (fun d => d.parameters.length) = some 2) ∧ plainName Y_Code_writeWord.1.cls = true ∧ Y_Code_writeWord.2.2.1 ≤ 21 ∧ 2 + 1 ≤ Y_Code_writeWord.2.2.1 := ⟨zin 663 (by decide +kernel) (by decide +kernel), zin 661 (by decide +kernel) (by decide +kernel), zin 662 (by decide +kernel) (by decide +kernel), zin 62 (by decide +kernel) (by decide +kernel), ⟨(by decide +kernel), (by decide +kernel), (by decide +kernel)⟩, (by decide +kernel), by decide, by decide⟩
theorem v_Code_simpleBits : Cond.code Y_Code_simpleBits.1 Y_Code_simpleBits.2.1 Y_Code_simpleBits.2.2.1 Y_Code_simpleBits.2.2.2 ∈ zGW ∧ Cond.static Y_Code_simpleBits.1 ∈ zGW ∧ Cond.initialized Y_Code_simpleBits.1.cls ∈ zGW ∧ (Y_Code_simpleBits.1.cls ≠ "java/lang/invoke/MethodHandle" ∧ Y_Code_simpleBits.1.cls ≠ "java/lang/invoke/VarHandle" ∧ (parseMethodDescriptor Y_Code_simpleBits.1.desc).map (fun d => d.parameters.length) = some 2) ∧ plainName Y_Code_simpleBits.1.cls = true ∧ Y_Code_simpleBits.2.2.1 ≤ 21 ∧ 2 ≤ Y_Code_simpleBits.2.2.1 := ⟨zin 625 (by decide +kernel) (by decide +kernel), zin 624 (by decide +kernel) (by decide +kernel), zin 62 (by decide +kernel) (by decide +kernel), ⟨(by decide +kernel), (by decide +kernel), (by decide +kernel)⟩, (by decide +kernel), by decide, by decide⟩
theorem v_Code_forgetListed : Cond.code Y_Code_forgetListed.1 Y_Code_forgetListed.2.1 Y_Code_forgetListed.2.2.1 Y_Code_forgetListed.2.2.2 ∈ zGW ∧ Cond.instanceMethod Y_Code_forgetListed.1 ∈ zGW ∧ Cond.selects Y_Code_forgetListed.1.cls Y_Code_forgetListed.1 Y_Code_forgetListed.1 ∈ zGW ∧ Cond.initialized Y_Code_forgetListed.1.cls ∈ zGW ∧ (Y_Code_forgetListed.1.cls ≠ "java/lang/invoke/MethodHandle" ∧ Y_Code_forgetListed.1.cls ≠ "java/lang/invoke/VarHandle" ∧ (parseMethodDescriptor Y_Code_forgetListed.1.desc).map (fun d => d.parameters.length) = some 0) ∧ plainName Y_Code_forgetListed.1.cls = true ∧ Y_Code_forgetListed.2.2.1 ≤ 21 ∧ 0 + 1 ≤ Y_Code_forgetListed.2.2.1 := ⟨zin 614 (by decide +kernel) (by decide +kernel), zin 613 (by decide +kernel) (by decide +kernel), zin 6 (by decide +kernel) (by decide +kernel), zin 62 (by decide +kernel) (by decide +kernel), ⟨(by decide +kernel), (by decide +kernel), (by decide +kernel)⟩, (by decide +kernel), by decide, by decide⟩
theorem v_Code_list : Cond.code Y_Code_list.1 Y_Code_list.2.1 Y_Code_list.2.2.1 Y_Code_list.2.2.2 ∈ zGW ∧ Cond.instanceMethod Y_Code_list.1 ∈ zGW ∧ Cond.selects Y_Code_list.1.cls Y_Code_list.1 Y_Code_list.1 ∈ zGW ∧ Cond.initialized Y_Code_list.1.cls ∈ zGW ∧ (Y_Code_list.1.cls ≠ "java/lang/invoke/MethodHandle" ∧ Y_Code_list.1.cls ≠ "java/lang/invoke/VarHandle" ∧ (parseMethodDescriptor Y_Code_list.1.desc).map (fun d => d.parameters.length) = some 2) ∧ plainName Y_Code_list.1.cls = true ∧ Y_Code_list.2.2.1 ≤ 21 ∧ 2 + 1 ≤ Y_Code_list.2.2.1 := ⟨zin 618 (by decide +kernel) (by decide +kernel), zin 617 (by decide +kernel) (by decide +kernel), zin 7 (by decide +kernel) (by decide +kernel), zin 62 (by decide +kernel) (by decide +kernel), ⟨(by decide +kernel), (by decide +kernel), (by decide +kernel)⟩, (by decide +kernel), by decide, by decide⟩
theorem v_Code_isListed : Cond.code Y_Code_isListed.1 Y_Code_isListed.2.1 Y_Code_isListed.2.2.1 Y_Code_isListed.2.2.2 ∈ zGW ∧ Cond.instanceMethod Y_Code_isListed.1 ∈ zGW ∧ Cond.selects Y_Code_isListed.1.cls Y_Code_isListed.1 Y_Code_isListed.1 ∈ zGW ∧ Cond.initialized Y_Code_isListed.1.cls ∈ zGW ∧ (Y_Code_isListed.1.cls ≠ "java/lang/invoke/MethodHandle" ∧ Y_Code_isListed.1.cls ≠ "java/lang/invoke/VarHandle" ∧ (parseMethodDescriptor Y_Code_isListed.1.desc).map (fun d => d.parameters.length) = some 1) ∧ plainName Y_Code_isListed.1.cls = true ∧ Y_Code_isListed.2.2.1 ≤ 21 ∧ 1 + 1 ≤ Y_Code_isListed.2.2.1 := ⟨zin 728 (by decide +kernel) (by decide +kernel), zin 727 (by decide +kernel) (by decide +kernel), zin 17 (by decide +kernel) (by decide +kernel), zin 62 (by decide +kernel) (by decide +kernel), ⟨(by decide +kernel), (by decide +kernel), (by decide +kernel)⟩, (by decide +kernel), by decide, by decide⟩
theorem v_Code_sortListed : Cond.code Y_Code_sortListed.1 Y_Code_sortListed.2.1 Y_Code_sortListed.2.2.1 Y_Code_sortListed.2.2.2 ∈ zGW ∧ Cond.instanceMethod Y_Code_sortListed.1 ∈ zGW ∧ Cond.selects Y_Code_sortListed.1.cls Y_Code_sortListed.1 Y_Code_sortListed.1 ∈ zGW ∧ Cond.initialized Y_Code_sortListed.1.cls ∈ zGW ∧ (Y_Code_sortListed.1.cls ≠ "java/lang/invoke/MethodHandle" ∧ Y_Code_sortListed.1.cls ≠ "java/lang/invoke/VarHandle" ∧ (parseMethodDescriptor Y_Code_sortListed.1.desc).map (fun d => d.parameters.length) = some 0) ∧ plainName Y_Code_sortListed.1.cls = true ∧ Y_Code_sortListed.2.2.1 ≤ 21 ∧ 0 + 1 ≤ Y_Code_sortListed.2.2.1 := ⟨zin 637 (by decide +kernel) (by decide +kernel), zin 636 (by decide +kernel) (by decide +kernel), zin 11 (by decide +kernel) (by decide +kernel), zin 62 (by decide +kernel) (by decide +kernel), ⟨(by decide +kernel), (by decide +kernel), (by decide +kernel)⟩, (by decide +kernel), by decide, by decide⟩
theorem v_Code_giveCodeWords : Cond.code Y_Code_giveCodeWords.1 Y_Code_giveCodeWords.2.1 Y_Code_giveCodeWords.2.2.1 Y_Code_giveCodeWords.2.2.2 ∈ zGW ∧ Cond.instanceMethod Y_Code_giveCodeWords.1 ∈ zGW ∧ Cond.selects Y_Code_giveCodeWords.1.cls Y_Code_giveCodeWords.1 Y_Code_giveCodeWords.1 ∈ zGW ∧ Cond.initialized Y_Code_giveCodeWords.1.cls ∈ zGW ∧ (Y_Code_giveCodeWords.1.cls ≠ "java/lang/invoke/MethodHandle" ∧ Y_Code_giveCodeWords.1.cls ≠ "java/lang/invoke/VarHandle" ∧ (parseMethodDescriptor Y_Code_giveCodeWords.1.desc).map (fun d => d.parameters.length) = some 0) ∧ plainName Y_Code_giveCodeWords.1.cls = true ∧ Y_Code_giveCodeWords.2.2.1 ≤ 21 ∧ 0 + 1 ≤ Y_Code_giveCodeWords.2.2.1 := ⟨zin 641 (by decide +kernel) (by decide +kernel), zin 640 (by decide +kernel) (by decide +kernel), zin 12 (by decide +kernel) (by decide +kernel), zin 62 (by decide +kernel) (by decide +kernel), ⟨(by decide +kernel), (by decide +kernel), (by decide +kernel)⟩, (by decide +kernel), by decide, by decide⟩
theorem v_Codes_init : Y_Codes_init.2.2.2 = none ∧ Cond.code Y_Codes_init.1 Y_Codes_init.2.1 Y_Codes_init.2.2.1 none ∈ zGW ∧ Cond.instanceMethod Y_Codes_init.1 ∈ zGW ∧ Cond.initialized Y_Codes_init.1.cls ∈ zGW ∧ (Y_Codes_init.1.cls ≠ "java/lang/invoke/MethodHandle" ∧ Y_Codes_init.1.cls ≠ "java/lang/invoke/VarHandle" ∧ (parseMethodDescriptor Y_Codes_init.1.desc).map (fun d => d.parameters.length) = some 0) ∧ plainName Y_Codes_init.1.cls = true ∧ Y_Codes_init.2.2.1 ≤ 21 ∧ 0 + 1 ≤ Y_Codes_init.2.2.1 ∧ Y_Codes_init.1.name = "<init>" := ⟨rfl, zin 171 (by decide +kernel) (by decide +kernel), zin 170 (by decide +kernel) (by decide +kernel), zin 61 (by decide +kernel) (by decide +kernel), ⟨(by decide +kernel), (by decide +kernel), (by decide +kernel)⟩, (by decide +kernel), by decide, by decide, rfl⟩
theorem v_Codes_literalAt : Cond.code Y_Codes_literalAt.1 Y_Codes_literalAt.2.1 Y_Codes_literalAt.2.2.1 Y_Codes_literalAt.2.2.2 ∈ zGW ∧ Cond.instanceMethod Y_Codes_literalAt.1 ∈ zGW ∧ Cond.selects Y_Codes_literalAt.1.cls Y_Codes_literalAt.1 Y_Codes_literalAt.1 ∈ zGW ∧ Cond.initialized Y_Codes_literalAt.1.cls ∈ zGW ∧ (Y_Codes_literalAt.1.cls ≠ "java/lang/invoke/MethodHandle" ∧ Y_Codes_literalAt.1.cls ≠ "java/lang/invoke/VarHandle" ∧ (parseMethodDescriptor Y_Codes_literalAt.1.desc).map (fun d => d.parameters.length) = some 3) ∧ plainName Y_Codes_literalAt.1.cls = true ∧ Y_Codes_literalAt.2.2.1 ≤ 21 ∧ 3 + 1 ≤ Y_Codes_literalAt.2.2.1 := ⟨zin 597 (by decide +kernel) (by decide +kernel), zin 595 (by decide +kernel) (by decide +kernel), zin 596 (by decide +kernel) (by decide +kernel), zin 61 (by decide +kernel) (by decide +kernel), ⟨(by decide +kernel), (by decide +kernel), (by decide +kernel)⟩, (by decide +kernel), by decide, by decide⟩
theorem v_Codes_readDescriptions : Cond.code Y_Codes_readDescriptions.1 Y_Codes_readDescriptions.2.1 Y_Codes_readDescriptions.2.2.1 Y_Codes_readDescriptions.2.2.2 ∈ zGW ∧ Cond.instanceMethod Y_Codes_readDescriptions.1 ∈ zGW ∧ Cond.selects Y_Codes_readDescriptions.1.cls Y_Codes_readDescriptions.1 Y_Codes_readDescriptions.1 ∈ zGW ∧ Cond.initialized Y_Codes_readDescriptions.1.cls ∈ zGW ∧ (Y_Codes_readDescriptions.1.cls ≠ "java/lang/invoke/MethodHandle" ∧ Y_Codes_readDescriptions.1.cls ≠ "java/lang/invoke/VarHandle" ∧ (parseMethodDescriptor Y_Codes_readDescriptions.1.desc).map (fun d => d.parameters.length) = some 2) ∧ plainName Y_Codes_readDescriptions.1.cls = true ∧ Y_Codes_readDescriptions.2.2.1 ≤ 21 ∧ 2 + 1 ≤ Y_Codes_readDescriptions.2.2.1 := ⟨zin 715 (by decide +kernel) (by decide +kernel), zin 713 (by decide +kernel) (by decide +kernel), zin 714 (by decide +kernel) (by decide +kernel), zin 61 (by decide +kernel) (by decide +kernel), ⟨(by decide +kernel), (by decide +kernel), (by decide +kernel)⟩, (by decide +kernel), by decide, by decide⟩
theorem v_Codes_forgetTimes : Cond.code Y_Codes_forgetTimes.1 Y_Codes_forgetTimes.2.1 Y_Codes_forgetTimes.2.2.1 Y_Codes_forgetTimes.2.2.2 ∈ zGW ∧ Cond.instanceMethod Y_Codes_forgetTimes.1 ∈ zGW ∧ Cond.selects Y_Codes_forgetTimes.1.cls Y_Codes_forgetTimes.1 Y_Codes_forgetTimes.1 ∈ zGW ∧ Cond.initialized Y_Codes_forgetTimes.1.cls ∈ zGW ∧ (Y_Codes_forgetTimes.1.cls ≠ "java/lang/invoke/MethodHandle" ∧ Y_Codes_forgetTimes.1.cls ≠ "java/lang/invoke/VarHandle" ∧ (parseMethodDescriptor Y_Codes_forgetTimes.1.desc).map (fun d => d.parameters.length) = some 0) ∧ plainName Y_Codes_forgetTimes.1.cls = true ∧ Y_Codes_forgetTimes.2.2.1 ≤ 21 ∧ 0 + 1 ≤ Y_Codes_forgetTimes.2.2.1 := ⟨zin 575 (by decide +kernel) (by decide +kernel), zin 573 (by decide +kernel) (by decide +kernel), zin 574 (by decide +kernel) (by decide +kernel), zin 61 (by decide +kernel) (by decide +kernel), ⟨(by decide +kernel), (by decide +kernel), (by decide +kernel)⟩, (by decide +kernel), by decide, by decide⟩
theorem v_Codes_makeFromTimes : Cond.code Y_Codes_makeFromTimes.1 Y_Codes_makeFromTimes.2.1 Y_Codes_makeFromTimes.2.2.1 Y_Codes_makeFromTimes.2.2.2 ∈ zGW ∧ Cond.instanceMethod Y_Codes_makeFromTimes.1 ∈ zGW ∧ Cond.selects Y_Codes_makeFromTimes.1.cls Y_Codes_makeFromTimes.1 Y_Codes_makeFromTimes.1 ∈ zGW ∧ Cond.initialized Y_Codes_makeFromTimes.1.cls ∈ zGW ∧ (Y_Codes_makeFromTimes.1.cls ≠ "java/lang/invoke/MethodHandle" ∧ Y_Codes_makeFromTimes.1.cls ≠ "java/lang/invoke/VarHandle" ∧ (parseMethodDescriptor Y_Codes_makeFromTimes.1.desc).map (fun d => d.parameters.length) = some 0) ∧ plainName Y_Codes_makeFromTimes.1.cls = true ∧ Y_Codes_makeFromTimes.2.2.1 ≤ 21 ∧ 0 + 1 ≤ Y_Codes_makeFromTimes.2.2.1 := ⟨zin 606 (by decide +kernel) (by decide +kernel), zin 604 (by decide +kernel) (by decide +kernel), zin 605 (by decide +kernel) (by decide +kernel), zin 61 (by decide +kernel) (by decide +kernel), ⟨(by decide +kernel), (by decide +kernel), (by decide +kernel)⟩, (by decide +kernel), by decide, by decide⟩
theorem v_Counts_init : Y_Counts_init.2.2.2 = none ∧ Cond.code Y_Counts_init.1 Y_Counts_init.2.1 Y_Counts_init.2.2.1 none ∈ zGW ∧ Cond.instanceMethod Y_Counts_init.1 ∈ zGW ∧ Cond.initialized Y_Counts_init.1.cls ∈ zGW ∧ (Y_Counts_init.1.cls ≠ "java/lang/invoke/MethodHandle" ∧ Y_Counts_init.1.cls ≠ "java/lang/invoke/VarHandle" ∧ (parseMethodDescriptor Y_Counts_init.1.desc).map (fun d => d.parameters.length) = some 0) ∧ plainName Y_Counts_init.1.cls = true ∧ Y_Counts_init.2.2.1 ≤ 21 ∧ 0 + 1 ≤ Y_Counts_init.2.2.1 ∧ Y_Counts_init.1.name = "<init>" := ⟨rfl, zin 126 (by decide +kernel) (by decide +kernel), zin 125 (by decide +kernel) (by decide +kernel), zin 58 (by decide +kernel) (by decide +kernel), ⟨(by decide +kernel), (by decide +kernel), (by decide +kernel)⟩, (by decide +kernel), by decide, by decide, rfl⟩
theorem v_Counts_reset : Cond.code Y_Counts_reset.1 Y_Counts_reset.2.1 Y_Counts_reset.2.2.1 Y_Counts_reset.2.2.2 ∈ zGW ∧ Cond.instanceMethod Y_Counts_reset.1 ∈ zGW ∧ Cond.selects Y_Counts_reset.1.cls Y_Counts_reset.1 Y_Counts_reset.1 ∈ zGW ∧ Cond.initialized Y_Counts_reset.1.cls ∈ zGW ∧ (Y_Counts_reset.1.cls ≠ "java/lang/invoke/MethodHandle" ∧ Y_Counts_reset.1.cls ≠ "java/lang/invoke/VarHandle" ∧ (parseMethodDescriptor Y_Counts_reset.1.desc).map (fun d => d.parameters.length) = some 0) ∧ plainName Y_Counts_reset.1.cls = true ∧ Y_Counts_reset.2.2.1 ≤ 21 ∧ 0 + 1 ≤ Y_Counts_reset.2.2.1 := ⟨zin 408 (by decide +kernel) (by decide +kernel), zin 406 (by decide +kernel) (by decide +kernel), zin 407 (by decide +kernel) (by decide +kernel), zin 58 (by decide +kernel) (by decide +kernel), ⟨(by decide +kernel), (by decide +kernel), (by decide +kernel)⟩, (by decide +kernel), by decide, by decide⟩
theorem v_Counts_become : Cond.code Y_Counts_become.1 Y_Counts_become.2.1 Y_Counts_become.2.2.1 Y_Counts_become.2.2.2 ∈ zGW ∧ Cond.instanceMethod Y_Counts_become.1 ∈ zGW ∧ Cond.selects Y_Counts_become.1.cls Y_Counts_become.1 Y_Counts_become.1 ∈ zGW ∧ Cond.initialized Y_Counts_become.1.cls ∈ zGW ∧ (Y_Counts_become.1.cls ≠ "java/lang/invoke/MethodHandle" ∧ Y_Counts_become.1.cls ≠ "java/lang/invoke/VarHandle" ∧ (parseMethodDescriptor Y_Counts_become.1.desc).map (fun d => d.parameters.length) = some 1) ∧ plainName Y_Counts_become.1.cls = true ∧ Y_Counts_become.2.2.1 ≤ 21 ∧ 1 + 1 ≤ Y_Counts_become.2.2.1 := ⟨zin 687 (by decide +kernel) (by decide +kernel), zin 685 (by decide +kernel) (by decide +kernel), zin 686 (by decide +kernel) (by decide +kernel), zin 58 (by decide +kernel) (by decide +kernel), ⟨(by decide +kernel), (by decide +kernel), (by decide +kernel)⟩, (by decide +kernel), by decide, by decide⟩
theorem v_Counts_addBlock : Cond.code Y_Counts_addBlock.1 Y_Counts_addBlock.2.1 Y_Counts_addBlock.2.2.1 Y_Counts_addBlock.2.2.2 ∈ zGW ∧ Cond.instanceMethod Y_Counts_addBlock.1 ∈ zGW ∧ Cond.selects Y_Counts_addBlock.1.cls Y_Counts_addBlock.1 Y_Counts_addBlock.1 ∈ zGW ∧ Cond.initialized Y_Counts_addBlock.1.cls ∈ zGW ∧ (Y_Counts_addBlock.1.cls ≠ "java/lang/invoke/MethodHandle" ∧ Y_Counts_addBlock.1.cls ≠ "java/lang/invoke/VarHandle" ∧ (parseMethodDescriptor Y_Counts_addBlock.1.desc).map (fun d => d.parameters.length) = some 1) ∧ plainName Y_Counts_addBlock.1.cls = true ∧ Y_Counts_addBlock.2.2.1 ≤ 21 ∧ 1 + 1 ≤ Y_Counts_addBlock.2.2.1 := ⟨zin 677 (by decide +kernel) (by decide +kernel), zin 675 (by decide +kernel) (by decide +kernel), zin 676 (by decide +kernel) (by decide +kernel), zin 58 (by decide +kernel) (by decide +kernel), ⟨(by decide +kernel), (by decide +kernel), (by decide +kernel)⟩, (by decide +kernel), by decide, by decide⟩
theorem v_Finder_init : Y_Finder_init.2.2.2 = none ∧ Cond.code Y_Finder_init.1 Y_Finder_init.2.1 Y_Finder_init.2.2.1 none ∈ zGW ∧ Cond.instanceMethod Y_Finder_init.1 ∈ zGW ∧ Cond.initialized Y_Finder_init.1.cls ∈ zGW ∧ (Y_Finder_init.1.cls ≠ "java/lang/invoke/MethodHandle" ∧ Y_Finder_init.1.cls ≠ "java/lang/invoke/VarHandle" ∧ (parseMethodDescriptor Y_Finder_init.1.desc).map (fun d => d.parameters.length) = some 0) ∧ plainName Y_Finder_init.1.cls = true ∧ Y_Finder_init.2.2.1 ≤ 21 ∧ 0 + 1 ≤ Y_Finder_init.2.2.1 ∧ Y_Finder_init.1.name = "<init>" := ⟨rfl, zin 230 (by decide +kernel) (by decide +kernel), zin 229 (by decide +kernel) (by decide +kernel), zin 64 (by decide +kernel) (by decide +kernel), ⟨(by decide +kernel), (by decide +kernel), (by decide +kernel)⟩, (by decide +kernel), by decide, by decide, rfl⟩
theorem v_Finder_findCopy : Cond.code Y_Finder_findCopy.1 Y_Finder_findCopy.2.1 Y_Finder_findCopy.2.2.1 Y_Finder_findCopy.2.2.2 ∈ zGW ∧ Cond.instanceMethod Y_Finder_findCopy.1 ∈ zGW ∧ Cond.selects Y_Finder_findCopy.1.cls Y_Finder_findCopy.1 Y_Finder_findCopy.1 ∈ zGW ∧ Cond.initialized Y_Finder_findCopy.1.cls ∈ zGW ∧ (Y_Finder_findCopy.1.cls ≠ "java/lang/invoke/MethodHandle" ∧ Y_Finder_findCopy.1.cls ≠ "java/lang/invoke/VarHandle" ∧ (parseMethodDescriptor Y_Finder_findCopy.1.desc).map (fun d => d.parameters.length) = some 3) ∧ plainName Y_Finder_findCopy.1.cls = true ∧ Y_Finder_findCopy.2.2.1 ≤ 21 ∧ 3 + 1 ≤ Y_Finder_findCopy.2.2.1 := ⟨zin 438 (by decide +kernel) (by decide +kernel), zin 436 (by decide +kernel) (by decide +kernel), zin 437 (by decide +kernel) (by decide +kernel), zin 64 (by decide +kernel) (by decide +kernel), ⟨(by decide +kernel), (by decide +kernel), (by decide +kernel)⟩, (by decide +kernel), by decide, by decide⟩
theorem v_Finder_findWord : Cond.code Y_Finder_findWord.1 Y_Finder_findWord.2.1 Y_Finder_findWord.2.2.1 Y_Finder_findWord.2.2.2 ∈ zGW ∧ Cond.instanceMethod Y_Finder_findWord.1 ∈ zGW ∧ Cond.selects Y_Finder_findWord.1.cls Y_Finder_findWord.1 Y_Finder_findWord.1 ∈ zGW ∧ Cond.initialized Y_Finder_findWord.1.cls ∈ zGW ∧ (Y_Finder_findWord.1.cls ≠ "java/lang/invoke/MethodHandle" ∧ Y_Finder_findWord.1.cls ≠ "java/lang/invoke/VarHandle" ∧ (parseMethodDescriptor Y_Finder_findWord.1.desc).map (fun d => d.parameters.length) = some 3) ∧ plainName Y_Finder_findWord.1.cls = true ∧ Y_Finder_findWord.2.2.1 ≤ 21 ∧ 3 + 1 ≤ Y_Finder_findWord.2.2.1 := ⟨zin 448 (by decide +kernel) (by decide +kernel), zin 446 (by decide +kernel) (by decide +kernel), zin 447 (by decide +kernel) (by decide +kernel), zin 64 (by decide +kernel) (by decide +kernel), ⟨(by decide +kernel), (by decide +kernel), (by decide +kernel)⟩, (by decide +kernel), by decide, by decide⟩
theorem v_Finder_isWord : Cond.code Y_Finder_isWord.1 Y_Finder_isWord.2.1 Y_Finder_isWord.2.2.1 Y_Finder_isWord.2.2.2 ∈ zGW ∧ Cond.instanceMethod Y_Finder_isWord.1 ∈ zGW ∧ Cond.selects Y_Finder_isWord.1.cls Y_Finder_isWord.1 Y_Finder_isWord.1 ∈ zGW ∧ Cond.initialized Y_Finder_isWord.1.cls ∈ zGW ∧ (Y_Finder_isWord.1.cls ≠ "java/lang/invoke/MethodHandle" ∧ Y_Finder_isWord.1.cls ≠ "java/lang/invoke/VarHandle" ∧ (parseMethodDescriptor Y_Finder_isWord.1.desc).map (fun d => d.parameters.length) = some 0) ∧ plainName Y_Finder_isWord.1.cls = true ∧ Y_Finder_isWord.2.2.1 ≤ 21 ∧ 0 + 1 ≤ Y_Finder_isWord.2.2.1 := ⟨zin 505 (by decide +kernel) (by decide +kernel), zin 503 (by decide +kernel) (by decide +kernel), zin 504 (by decide +kernel) (by decide +kernel), zin 64 (by decide +kernel) (by decide +kernel), ⟨(by decide +kernel), (by decide +kernel), (by decide +kernel)⟩, (by decide +kernel), by decide, by decide⟩
theorem v_Finder_isCopy : Cond.code Y_Finder_isCopy.1 Y_Finder_isCopy.2.1 Y_Finder_isCopy.2.2.1 Y_Finder_isCopy.2.2.2 ∈ zGW ∧ Cond.instanceMethod Y_Finder_isCopy.1 ∈ zGW ∧ Cond.selects Y_Finder_isCopy.1.cls Y_Finder_isCopy.1 Y_Finder_isCopy.1 ∈ zGW ∧ Cond.initialized Y_Finder_isCopy.1.cls ∈ zGW ∧ (Y_Finder_isCopy.1.cls ≠ "java/lang/invoke/MethodHandle" ∧ Y_Finder_isCopy.1.cls ≠ "java/lang/invoke/VarHandle" ∧ (parseMethodDescriptor Y_Finder_isCopy.1.desc).map (fun d => d.parameters.length) = some 0) ∧ plainName Y_Finder_isCopy.1.cls = true ∧ Y_Finder_isCopy.2.2.1 ≤ 21 ∧ 0 + 1 ≤ Y_Finder_isCopy.2.2.1 := ⟨zin 527 (by decide +kernel) (by decide +kernel), zin 525 (by decide +kernel) (by decide +kernel), zin 526 (by decide +kernel) (by decide +kernel), zin 64 (by decide +kernel) (by decide +kernel), ⟨(by decide +kernel), (by decide +kernel), (by decide +kernel)⟩, (by decide +kernel), by decide, by decide⟩
theorem v_Packer_init : Y_Packer_init.2.2.2 = none ∧ Cond.code Y_Packer_init.1 Y_Packer_init.2.1 Y_Packer_init.2.2.1 none ∈ zGW ∧ Cond.instanceMethod Y_Packer_init.1 ∈ zGW ∧ Cond.initialized Y_Packer_init.1.cls ∈ zGW ∧ (Y_Packer_init.1.cls ≠ "java/lang/invoke/MethodHandle" ∧ Y_Packer_init.1.cls ≠ "java/lang/invoke/VarHandle" ∧ (parseMethodDescriptor Y_Packer_init.1.desc).map (fun d => d.parameters.length) = some 0) ∧ plainName Y_Packer_init.1.cls = true ∧ Y_Packer_init.2.2.1 ≤ 21 ∧ 0 + 1 ≤ Y_Packer_init.2.2.1 ∧ Y_Packer_init.1.name = "<init>" := ⟨rfl, zin 153 (by decide +kernel) (by decide +kernel), zin 152 (by decide +kernel) (by decide +kernel), zin 59 (by decide +kernel) (by decide +kernel), ⟨(by decide +kernel), (by decide +kernel), (by decide +kernel)⟩, (by decide +kernel), by decide, by decide, rfl⟩
theorem v_Packer_start : Cond.code Y_Packer_start.1 Y_Packer_start.2.1 Y_Packer_start.2.2.1 Y_Packer_start.2.2.2 ∈ zGW ∧ Cond.instanceMethod Y_Packer_start.1 ∈ zGW ∧ Cond.selects Y_Packer_start.1.cls Y_Packer_start.1 Y_Packer_start.1 ∈ zGW ∧ Cond.initialized Y_Packer_start.1.cls ∈ zGW ∧ (Y_Packer_start.1.cls ≠ "java/lang/invoke/MethodHandle" ∧ Y_Packer_start.1.cls ≠ "java/lang/invoke/VarHandle" ∧ (parseMethodDescriptor Y_Packer_start.1.desc).map (fun d => d.parameters.length) = some 0) ∧ plainName Y_Packer_start.1.cls = true ∧ Y_Packer_start.2.2.1 ≤ 21 ∧ 0 + 1 ≤ Y_Packer_start.2.2.1 := ⟨zin 404 (by decide +kernel) (by decide +kernel), zin 402 (by decide +kernel) (by decide +kernel), zin 403 (by decide +kernel) (by decide +kernel), zin 59 (by decide +kernel) (by decide +kernel), ⟨(by decide +kernel), (by decide +kernel), (by decide +kernel)⟩, (by decide +kernel), by decide, by decide⟩
theorem v_Packer_writeBlock : Cond.code Y_Packer_writeBlock.1 Y_Packer_writeBlock.2.1 Y_Packer_writeBlock.2.2.1 Y_Packer_writeBlock.2.2.2 ∈ zGW ∧ Cond.instanceMethod Y_Packer_writeBlock.1 ∈ zGW ∧ Cond.selects Y_Packer_writeBlock.1.cls Y_Packer_writeBlock.1 Y_Packer_writeBlock.1 ∈ zGW ∧ Cond.initialized Y_Packer_writeBlock.1.cls ∈ zGW ∧ (Y_Packer_writeBlock.1.cls ≠ "java/lang/invoke/MethodHandle" ∧ Y_Packer_writeBlock.1.cls ≠ "java/lang/invoke/VarHandle" ∧ (parseMethodDescriptor Y_Packer_writeBlock.1.desc).map (fun d => d.parameters.length) = some 3) ∧ plainName Y_Packer_writeBlock.1.cls = true ∧ Y_Packer_writeBlock.2.2.1 ≤ 21 ∧ 3 + 1 ≤ Y_Packer_writeBlock.2.2.1 := ⟨zin 420 (by decide +kernel) (by decide +kernel), zin 418 (by decide +kernel) (by decide +kernel), zin 419 (by decide +kernel) (by decide +kernel), zin 59 (by decide +kernel) (by decide +kernel), ⟨(by decide +kernel), (by decide +kernel), (by decide +kernel)⟩, (by decide +kernel), by decide, by decide⟩
theorem v_Packer_writeInWay : Cond.code Y_Packer_writeInWay.1 Y_Packer_writeInWay.2.1 Y_Packer_writeInWay.2.2.1 Y_Packer_writeInWay.2.2.2 ∈ zGW ∧ Cond.instanceMethod Y_Packer_writeInWay.1 ∈ zGW ∧ Cond.selects Y_Packer_writeInWay.1.cls Y_Packer_writeInWay.1 Y_Packer_writeInWay.1 ∈ zGW ∧ Cond.initialized Y_Packer_writeInWay.1.cls ∈ zGW ∧ (Y_Packer_writeInWay.1.cls ≠ "java/lang/invoke/MethodHandle" ∧ Y_Packer_writeInWay.1.cls ≠ "java/lang/invoke/VarHandle" ∧ (parseMethodDescriptor Y_Packer_writeInWay.1.desc).map (fun d => d.parameters.length) = some 5) ∧ plainName Y_Packer_writeInWay.1.cls = true ∧ Y_Packer_writeInWay.2.2.1 ≤ 21 ∧ 5 + 1 ≤ Y_Packer_writeInWay.2.2.1 := ⟨zin 556 (by decide +kernel) (by decide +kernel), zin 555 (by decide +kernel) (by decide +kernel), zin 3 (by decide +kernel) (by decide +kernel), zin 59 (by decide +kernel) (by decide +kernel), ⟨(by decide +kernel), (by decide +kernel), (by decide +kernel)⟩, (by decide +kernel), by decide, by decide⟩
theorem v_Packer_writeRaw : Cond.code Y_Packer_writeRaw.1 Y_Packer_writeRaw.2.1 Y_Packer_writeRaw.2.2.1 Y_Packer_writeRaw.2.2.2 ∈ zGW ∧ Cond.instanceMethod Y_Packer_writeRaw.1 ∈ zGW ∧ Cond.selects Y_Packer_writeRaw.1.cls Y_Packer_writeRaw.1 Y_Packer_writeRaw.1 ∈ zGW ∧ Cond.initialized Y_Packer_writeRaw.1.cls ∈ zGW ∧ (Y_Packer_writeRaw.1.cls ≠ "java/lang/invoke/MethodHandle" ∧ Y_Packer_writeRaw.1.cls ≠ "java/lang/invoke/VarHandle" ∧ (parseMethodDescriptor Y_Packer_writeRaw.1.desc).map (fun d => d.parameters.length) = some 4) ∧ plainName Y_Packer_writeRaw.1.cls = true ∧ Y_Packer_writeRaw.2.2.1 ≤ 21 ∧ 4 + 1 ≤ Y_Packer_writeRaw.2.2.1 := ⟨zin 561 (by decide +kernel) (by decide +kernel), zin 560 (by decide +kernel) (by decide +kernel), zin 4 (by decide +kernel) (by decide +kernel), zin 59 (by decide +kernel) (by decide +kernel), ⟨(by decide +kernel), (by decide +kernel), (by decide +kernel)⟩, (by decide +kernel), by decide, by decide⟩
theorem v_Packer_countSymbols : Cond.code Y_Packer_countSymbols.1 Y_Packer_countSymbols.2.1 Y_Packer_countSymbols.2.2.1 Y_Packer_countSymbols.2.2.2 ∈ zGW ∧ Cond.instanceMethod Y_Packer_countSymbols.1 ∈ zGW ∧ Cond.selects Y_Packer_countSymbols.1.cls Y_Packer_countSymbols.1 Y_Packer_countSymbols.1 ∈ zGW ∧ Cond.initialized Y_Packer_countSymbols.1.cls ∈ zGW ∧ (Y_Packer_countSymbols.1.cls ≠ "java/lang/invoke/MethodHandle" ∧ Y_Packer_countSymbols.1.cls ≠ "java/lang/invoke/VarHandle" ∧ (parseMethodDescriptor Y_Packer_countSymbols.1.desc).map (fun d => d.parameters.length) = some 2) ∧ plainName Y_Packer_countSymbols.1.cls = true ∧ Y_Packer_countSymbols.2.2.1 ≤ 21 ∧ 2 + 1 ≤ Y_Packer_countSymbols.2.2.1 := ⟨zin 571 (by decide +kernel) (by decide +kernel), zin 570 (by decide +kernel) (by decide +kernel), zin 5 (by decide +kernel) (by decide +kernel), zin 59 (by decide +kernel) (by decide +kernel), ⟨(by decide +kernel), (by decide +kernel), (by decide +kernel)⟩, (by decide +kernel), by decide, by decide⟩
theorem v_Packer_writeCommand : Cond.code Y_Packer_writeCommand.1 Y_Packer_writeCommand.2.1 Y_Packer_writeCommand.2.2.1 Y_Packer_writeCommand.2.2.2 ∈ zGW ∧ Cond.instanceMethod Y_Packer_writeCommand.1 ∈ zGW ∧ Cond.selects Y_Packer_writeCommand.1.cls Y_Packer_writeCommand.1 Y_Packer_writeCommand.1 ∈ zGW ∧ Cond.initialized Y_Packer_writeCommand.1.cls ∈ zGW ∧ (Y_Packer_writeCommand.1.cls ≠ "java/lang/invoke/MethodHandle" ∧ Y_Packer_writeCommand.1.cls ≠ "java/lang/invoke/VarHandle" ∧ (parseMethodDescriptor Y_Packer_writeCommand.1.desc).map (fun d => d.parameters.length) = some 4) ∧ plainName Y_Packer_writeCommand.1.cls = true ∧ Y_Packer_writeCommand.2.2.1 ≤ 21 ∧ 4 + 1 ≤ Y_Packer_writeCommand.2.2.1 := ⟨zin 658 (by decide +kernel) (by decide +kernel), zin 657 (by decide +kernel) (by decide +kernel), zin 14 (by decide +kernel) (by decide +kernel), zin 59 (by decide +kernel) (by decide +kernel), ⟨(by decide +kernel), (by decide +kernel), (by decide +kernel)⟩, (by decide +kernel), by decide, by decide⟩
theorem v_Plan_init : Y_Plan_init.2.2.2 = none ∧ Cond.code Y_Plan_init.1 Y_Plan_init.2.1 Y_Plan_init.2.2.1 none ∈ zGW ∧ Cond.instanceMethod Y_Plan_init.1 ∈ zGW ∧ Cond.initialized Y_Plan_init.1.cls ∈ zGW ∧ (Y_Plan_init.1.cls ≠ "java/lang/invoke/MethodHandle" ∧ Y_Plan_init.1.cls ≠ "java/lang/invoke/VarHandle" ∧ (parseMethodDescriptor Y_Plan_init.1.desc).map (fun d => d.parameters.length) = some 0) ∧ plainName Y_Plan_init.1.cls = true ∧ Y_Plan_init.2.2.1 ≤ 21 ∧ 0 + 1 ≤ Y_Plan_init.2.2.1 ∧ Y_Plan_init.1.name = "<init>" := ⟨rfl, zin 224 (by decide +kernel) (by decide +kernel), zin 223 (by decide +kernel) (by decide +kernel), zin 63 (by decide +kernel) (by decide +kernel), ⟨(by decide +kernel), (by decide +kernel), (by decide +kernel)⟩, (by decide +kernel), by decide, by decide, rfl⟩
theorem v_Plan_parse : Cond.code Y_Plan_parse.1 Y_Plan_parse.2.1 Y_Plan_parse.2.2.1 Y_Plan_parse.2.2.2 ∈ zGW ∧ Cond.instanceMethod Y_Plan_parse.1 ∈ zGW ∧ Cond.selects Y_Plan_parse.1.cls Y_Plan_parse.1 Y_Plan_parse.1 ∈ zGW ∧ Cond.initialized Y_Plan_parse.1.cls ∈ zGW ∧ (Y_Plan_parse.1.cls ≠ "java/lang/invoke/MethodHandle" ∧ Y_Plan_parse.1.cls ≠ "java/lang/invoke/VarHandle" ∧ (parseMethodDescriptor Y_Plan_parse.1.desc).map (fun d => d.parameters.length) = some 4) ∧ plainName Y_Plan_parse.1.cls = true ∧ Y_Plan_parse.2.2.1 ≤ 21 ∧ 4 + 1 ≤ Y_Plan_parse.2.2.1 := ⟨zin 427 (by decide +kernel) (by decide +kernel), zin 425 (by decide +kernel) (by decide +kernel), zin 426 (by decide +kernel) (by decide +kernel), zin 63 (by decide +kernel) (by decide +kernel), ⟨(by decide +kernel), (by decide +kernel), (by decide +kernel)⟩, (by decide +kernel), by decide, by decide⟩
theorem v_Plan_addWord : Cond.code Y_Plan_addWord.1 Y_Plan_addWord.2.1 Y_Plan_addWord.2.2.1 Y_Plan_addWord.2.2.2 ∈ zGW ∧ Cond.instanceMethod Y_Plan_addWord.1 ∈ zGW ∧ Cond.selects Y_Plan_addWord.1.cls Y_Plan_addWord.1 Y_Plan_addWord.1 ∈ zGW ∧ Cond.initialized Y_Plan_addWord.1.cls ∈ zGW ∧ (Y_Plan_addWord.1.cls ≠ "java/lang/invoke/MethodHandle" ∧ Y_Plan_addWord.1.cls ≠ "java/lang/invoke/VarHandle" ∧ (parseMethodDescriptor Y_Plan_addWord.1.desc).map (fun d => d.parameters.length) = some 2) ∧ plainName Y_Plan_addWord.1.cls = true ∧ Y_Plan_addWord.2.2.1 ≤ 21 ∧ 2 + 1 ≤ Y_Plan_addWord.2.2.1 := ⟨zin 509 (by decide +kernel) (by decide +kernel), zin 508 (by decide +kernel) (by decide +kernel), zin 0 (by decide +kernel) (by decide +kernel), zin 63 (by decide +kernel) (by decide +kernel), ⟨(by decide +kernel), (by decide +kernel), (by decide +kernel)⟩, (by decide +kernel), by decide, by decide⟩
theorem v_Plan_addCopy : Cond.code Y_Plan_addCopy.1 Y_Plan_addCopy.2.1 Y_Plan_addCopy.2.2.1 Y_Plan_addCopy.2.2.2 ∈ zGW ∧ Cond.instanceMethod Y_Plan_addCopy.1 ∈ zGW ∧ Cond.selects Y_Plan_addCopy.1.cls Y_Plan_addCopy.1 Y_Plan_addCopy.1 ∈ zGW ∧ Cond.initialized Y_Plan_addCopy.1.cls ∈ zGW ∧ (Y_Plan_addCopy.1.cls ≠ "java/lang/invoke/MethodHandle" ∧ Y_Plan_addCopy.1.cls ≠ "java/lang/invoke/VarHandle" ∧ (parseMethodDescriptor Y_Plan_addCopy.1.desc).map (fun d => d.parameters.length) = some 2) ∧ plainName Y_Plan_addCopy.1.cls = true ∧ Y_Plan_addCopy.2.2.1 ≤ 21 ∧ 2 + 1 ≤ Y_Plan_addCopy.2.2.1 := ⟨zin 531 (by decide +kernel) (by decide +kernel), zin 530 (by decide +kernel) (by decide +kernel), zin 2 (by decide +kernel) (by decide +kernel), zin 63 (by decide +kernel) (by decide +kernel), ⟨(by decide +kernel), (by decide +kernel), (by decide +kernel)⟩, (by decide +kernel), by decide, by decide⟩
theorem v_Plan_copySymbolOf : Cond.code Y_Plan_copySymbolOf.1 Y_Plan_copySymbolOf.2.1 Y_Plan_copySymbolOf.2.2.1 Y_Plan_copySymbolOf.2.2.2 ∈ zGW ∧ Cond.static Y_Plan_copySymbolOf.1 ∈ zGW ∧ Cond.initialized Y_Plan_copySymbolOf.1.cls ∈ zGW ∧ (Y_Plan_copySymbolOf.1.cls ≠ "java/lang/invoke/MethodHandle" ∧ Y_Plan_copySymbolOf.1.cls ≠ "java/lang/invoke/VarHandle" ∧ (parseMethodDescriptor Y_Plan_copySymbolOf.1.desc).map (fun d => d.parameters.length) = some 1) ∧ plainName Y_Plan_copySymbolOf.1.cls = true ∧ Y_Plan_copySymbolOf.2.2.1 ≤ 21 ∧ 1 ≤ Y_Plan_copySymbolOf.2.2.1 := ⟨zin 512 (by decide +kernel) (by decide +kernel), zin 511 (by decide +kernel) (by decide +kernel), zin 63 (by decide +kernel) (by decide +kernel), ⟨(by decide +kernel), (by decide +kernel), (by decide +kernel)⟩, (by decide +kernel), by decide, by decide⟩
theorem v_Plan_addCommand : Cond.code Y_Plan_addCommand.1 Y_Plan_addCommand.2.1 Y_Plan_addCommand.2.2.1 Y_Plan_addCommand.2.2.2 ∈ zGW ∧ Cond.instanceMethod Y_Plan_addCommand.1 ∈ zGW ∧ Cond.selects Y_Plan_addCommand.1.cls Y_Plan_addCommand.1 Y_Plan_addCommand.1 ∈ zGW ∧ Cond.initialized Y_Plan_addCommand.1.cls ∈ zGW ∧ (Y_Plan_addCommand.1.cls ≠ "java/lang/invoke/MethodHandle" ∧ Y_Plan_addCommand.1.cls ≠ "java/lang/invoke/VarHandle" ∧ (parseMethodDescriptor Y_Plan_addCommand.1.desc).map (fun d => d.parameters.length) = some 6) ∧ plainName Y_Plan_addCommand.1.cls = true ∧ Y_Plan_addCommand.2.2.1 ≤ 21 ∧ 6 + 1 ≤ Y_Plan_addCommand.2.2.1 := ⟨zin 523 (by decide +kernel) (by decide +kernel), zin 522 (by decide +kernel) (by decide +kernel), zin 1 (by decide +kernel) (by decide +kernel), zin 63 (by decide +kernel) (by decide +kernel), ⟨(by decide +kernel), (by decide +kernel), (by decide +kernel)⟩, (by decide +kernel), by decide, by decide⟩
theorem v_Plan_insertSymbolOf : Cond.code Y_Plan_insertSymbolOf.1 Y_Plan_insertSymbolOf.2.1 Y_Plan_insertSymbolOf.2.2.1 Y_Plan_insertSymbolOf.2.2.2 ∈ zGW ∧ Cond.instanceMethod Y_Plan_insertSymbolOf.1 ∈ zGW ∧ Cond.selects Y_Plan_insertSymbolOf.1.cls Y_Plan_insertSymbolOf.1 Y_Plan_insertSymbolOf.1 ∈ zGW ∧ Cond.initialized Y_Plan_insertSymbolOf.1.cls ∈ zGW ∧ (Y_Plan_insertSymbolOf.1.cls ≠ "java/lang/invoke/MethodHandle" ∧ Y_Plan_insertSymbolOf.1.cls ≠ "java/lang/invoke/VarHandle" ∧ (parseMethodDescriptor Y_Plan_insertSymbolOf.1.desc).map (fun d => d.parameters.length) = some 1) ∧ plainName Y_Plan_insertSymbolOf.1.cls = true ∧ Y_Plan_insertSymbolOf.2.2.1 ≤ 21 ∧ 1 + 1 ≤ Y_Plan_insertSymbolOf.2.2.1 := ⟨zin 587 (by decide +kernel) (by decide +kernel), zin 585 (by decide +kernel) (by decide +kernel), zin 586 (by decide +kernel) (by decide +kernel), zin 63 (by decide +kernel) (by decide +kernel), ⟨(by decide +kernel), (by decide +kernel), (by decide +kernel)⟩, (by decide +kernel), by decide, by decide⟩
theorem v_Plan_commandSymbolOf : Cond.code Y_Plan_commandSymbolOf.1 Y_Plan_commandSymbolOf.2.1 Y_Plan_commandSymbolOf.2.2.1 Y_Plan_commandSymbolOf.2.2.2 ∈ zGW ∧ Cond.instanceMethod Y_Plan_commandSymbolOf.1 ∈ zGW ∧ Cond.selects Y_Plan_commandSymbolOf.1.cls Y_Plan_commandSymbolOf.1 Y_Plan_commandSymbolOf.1 ∈ zGW ∧ Cond.initialized Y_Plan_commandSymbolOf.1.cls ∈ zGW ∧ (Y_Plan_commandSymbolOf.1.cls ≠ "java/lang/invoke/MethodHandle" ∧ Y_Plan_commandSymbolOf.1.cls ≠ "java/lang/invoke/VarHandle" ∧ (parseMethodDescriptor Y_Plan_commandSymbolOf.1.desc).map (fun d => d.parameters.length) = some 1) ∧ plainName Y_Plan_commandSymbolOf.1.cls = true ∧ Y_Plan_commandSymbolOf.2.2.1 ≤ 21 ∧ 1 + 1 ≤ Y_Plan_commandSymbolOf.2.2.1 := ⟨zin 583 (by decide +kernel) (by decide +kernel), zin 581 (by decide +kernel) (by decide +kernel), zin 582 (by decide +kernel) (by decide +kernel), zin 63 (by decide +kernel) (by decide +kernel), ⟨(by decide +kernel), (by decide +kernel), (by decide +kernel)⟩, (by decide +kernel), by decide, by decide⟩
theorem v_Ring_init : Y_Ring_init.2.2.2 = none ∧ Cond.code Y_Ring_init.1 Y_Ring_init.2.1 Y_Ring_init.2.2.1 none ∈ zGW ∧ Cond.instanceMethod Y_Ring_init.1 ∈ zGW ∧ Cond.initialized Y_Ring_init.1.cls ∈ zGW ∧ (Y_Ring_init.1.cls ≠ "java/lang/invoke/MethodHandle" ∧ Y_Ring_init.1.cls ≠ "java/lang/invoke/VarHandle" ∧ (parseMethodDescriptor Y_Ring_init.1.desc).map (fun d => d.parameters.length) = some 0) ∧ plainName Y_Ring_init.1.cls = true ∧ Y_Ring_init.2.2.1 ≤ 21 ∧ 0 + 1 ≤ Y_Ring_init.2.2.1 ∧ Y_Ring_init.1.name = "<init>" := ⟨rfl, zin 161 (by decide +kernel) (by decide +kernel), zin 160 (by decide +kernel) (by decide +kernel), zin 60 (by decide +kernel) (by decide +kernel), ⟨(by decide +kernel), (by decide +kernel), (by decide +kernel)⟩, (by decide +kernel), by decide, by decide, rfl⟩
theorem v_Ring_reset : Cond.code Y_Ring_reset.1 Y_Ring_reset.2.1 Y_Ring_reset.2.2.1 Y_Ring_reset.2.2.2 ∈ zGW ∧ Cond.instanceMethod Y_Ring_reset.1 ∈ zGW ∧ Cond.selects Y_Ring_reset.1.cls Y_Ring_reset.1 Y_Ring_reset.1 ∈ zGW ∧ Cond.initialized Y_Ring_reset.1.cls ∈ zGW ∧ (Y_Ring_reset.1.cls ≠ "java/lang/invoke/MethodHandle" ∧ Y_Ring_reset.1.cls ≠ "java/lang/invoke/VarHandle" ∧ (parseMethodDescriptor Y_Ring_reset.1.desc).map (fun d => d.parameters.length) = some 0) ∧ plainName Y_Ring_reset.1.cls = true ∧ Y_Ring_reset.2.2.1 ≤ 21 ∧ 0 + 1 ≤ Y_Ring_reset.2.2.1 := ⟨zin 412 (by decide +kernel) (by decide +kernel), zin 410 (by decide +kernel) (by decide +kernel), zin 411 (by decide +kernel) (by decide +kernel), zin 60 (by decide +kernel) (by decide +kernel), ⟨(by decide +kernel), (by decide +kernel), (by decide +kernel)⟩, (by decide +kernel), by decide, by decide⟩
theorem v_Ring_become : Cond.code Y_Ring_become.1 Y_Ring_become.2.1 Y_Ring_become.2.2.1 Y_Ring_become.2.2.2 ∈ zGW ∧ Cond.instanceMethod Y_Ring_become.1 ∈ zGW ∧ Cond.selects Y_Ring_become.1.cls Y_Ring_become.1 Y_Ring_become.1 ∈ zGW ∧ Cond.initialized Y_Ring_become.1.cls ∈ zGW ∧ (Y_Ring_become.1.cls ≠ "java/lang/invoke/MethodHandle" ∧ Y_Ring_become.1.cls ≠ "java/lang/invoke/VarHandle" ∧ (parseMethodDescriptor Y_Ring_become.1.desc).map (fun d => d.parameters.length) = some 1) ∧ plainName Y_Ring_become.1.cls = true ∧ Y_Ring_become.2.2.1 ≤ 21 ∧ 1 + 1 ≤ Y_Ring_become.2.2.1 := ⟨zin 431 (by decide +kernel) (by decide +kernel), zin 429 (by decide +kernel) (by decide +kernel), zin 430 (by decide +kernel) (by decide +kernel), zin 60 (by decide +kernel) (by decide +kernel), ⟨(by decide +kernel), (by decide +kernel), (by decide +kernel)⟩, (by decide +kernel), by decide, by decide⟩
theorem v_Ring_remember : Cond.code Y_Ring_remember.1 Y_Ring_remember.2.1 Y_Ring_remember.2.2.1 Y_Ring_remember.2.2.2 ∈ zGW ∧ Cond.instanceMethod Y_Ring_remember.1 ∈ zGW ∧ Cond.selects Y_Ring_remember.1.cls Y_Ring_remember.1 Y_Ring_remember.1 ∈ zGW ∧ Cond.initialized Y_Ring_remember.1.cls ∈ zGW ∧ (Y_Ring_remember.1.cls ≠ "java/lang/invoke/MethodHandle" ∧ Y_Ring_remember.1.cls ≠ "java/lang/invoke/VarHandle" ∧ (parseMethodDescriptor Y_Ring_remember.1.desc).map (fun d => d.parameters.length) = some 1) ∧ plainName Y_Ring_remember.1.cls = true ∧ Y_Ring_remember.2.2.1 ≤ 21 ∧ 1 + 1 ≤ Y_Ring_remember.2.2.1 := ⟨zin 548 (by decide +kernel) (by decide +kernel), zin 546 (by decide +kernel) (by decide +kernel), zin 547 (by decide +kernel) (by decide +kernel), zin 60 (by decide +kernel) (by decide +kernel), ⟨(by decide +kernel), (by decide +kernel), (by decide +kernel)⟩, (by decide +kernel), by decide, by decide⟩
theorem v_Ring_isLatest : Cond.code Y_Ring_isLatest.1 Y_Ring_isLatest.2.1 Y_Ring_isLatest.2.2.1 Y_Ring_isLatest.2.2.2 ∈ zGW ∧ Cond.instanceMethod Y_Ring_isLatest.1 ∈ zGW ∧ Cond.selects Y_Ring_isLatest.1.cls Y_Ring_isLatest.1 Y_Ring_isLatest.1 ∈ zGW ∧ Cond.initialized Y_Ring_isLatest.1.cls ∈ zGW ∧ (Y_Ring_isLatest.1.cls ≠ "java/lang/invoke/MethodHandle" ∧ Y_Ring_isLatest.1.cls ≠ "java/lang/invoke/VarHandle" ∧ (parseMethodDescriptor Y_Ring_isLatest.1.desc).map (fun d => d.parameters.length) = some 1) ∧ plainName Y_Ring_isLatest.1.cls = true ∧ Y_Ring_isLatest.2.2.1 ≤ 21 ∧ 1 + 1 ≤ Y_Ring_isLatest.2.2.1 := ⟨zin 535 (by decide +kernel) (by decide +kernel), zin 533 (by decide +kernel) (by decide +kernel), zin 534 (by decide +kernel) (by decide +kernel), zin 60 (by decide +kernel) (by decide +kernel), ⟨(by decide +kernel), (by decide +kernel), (by decide +kernel)⟩, (by decide +kernel), by decide, by decide⟩
theorem v_Ring_distanceOf : Cond.code Y_Ring_distanceOf.1 Y_Ring_distanceOf.2.1 Y_Ring_distanceOf.2.2.1 Y_Ring_distanceOf.2.2.2 ∈ zGW ∧ Cond.instanceMethod Y_Ring_distanceOf.1 ∈ zGW ∧ Cond.selects Y_Ring_distanceOf.1.cls Y_Ring_distanceOf.1 Y_Ring_distanceOf.1 ∈ zGW ∧ Cond.initialized Y_Ring_distanceOf.1.cls ∈ zGW ∧ (Y_Ring_distanceOf.1.cls ≠ "java/lang/invoke/MethodHandle" ∧ Y_Ring_distanceOf.1.cls ≠ "java/lang/invoke/VarHandle" ∧ (parseMethodDescriptor Y_Ring_distanceOf.1.desc).map (fun d => d.parameters.length) = some 1) ∧ plainName Y_Ring_distanceOf.1.cls = true ∧ Y_Ring_distanceOf.2.2.1 ≤ 21 ∧ 1 + 1 ≤ Y_Ring_distanceOf.2.2.1 := ⟨zin 543 (by decide +kernel) (by decide +kernel), zin 541 (by decide +kernel) (by decide +kernel), zin 542 (by decide +kernel) (by decide +kernel), zin 60 (by decide +kernel) (by decide +kernel), ⟨(by decide +kernel), (by decide +kernel), (by decide +kernel)⟩, (by decide +kernel), by decide, by decide⟩
theorem v_Ring_symbolOf : Cond.code Y_Ring_symbolOf.1 Y_Ring_symbolOf.2.1 Y_Ring_symbolOf.2.2.1 Y_Ring_symbolOf.2.2.2 ∈ zGW ∧ Cond.instanceMethod Y_Ring_symbolOf.1 ∈ zGW ∧ Cond.selects Y_Ring_symbolOf.1.cls Y_Ring_symbolOf.1 Y_Ring_symbolOf.1 ∈ zGW ∧ Cond.initialized Y_Ring_symbolOf.1.cls ∈ zGW ∧ (Y_Ring_symbolOf.1.cls ≠ "java/lang/invoke/MethodHandle" ∧ Y_Ring_symbolOf.1.cls ≠ "java/lang/invoke/VarHandle" ∧ (parseMethodDescriptor Y_Ring_symbolOf.1.desc).map (fun d => d.parameters.length) = some 1) ∧ plainName Y_Ring_symbolOf.1.cls = true ∧ Y_Ring_symbolOf.2.2.1 ≤ 21 ∧ 1 + 1 ≤ Y_Ring_symbolOf.2.2.1 := ⟨zin 539 (by decide +kernel) (by decide +kernel), zin 537 (by decide +kernel) (by decide +kernel), zin 538 (by decide +kernel) (by decide +kernel), zin 60 (by decide +kernel) (by decide +kernel), ⟨(by decide +kernel), (by decide +kernel), (by decide +kernel)⟩, (by decide +kernel), by decide, by decide⟩
theorem v_Ring_plainSymbolOf : Cond.code Y_Ring_plainSymbolOf.1 Y_Ring_plainSymbolOf.2.1 Y_Ring_plainSymbolOf.2.2.1 Y_Ring_plainSymbolOf.2.2.2 ∈ zGW ∧ Cond.static Y_Ring_plainSymbolOf.1 ∈ zGW ∧ Cond.initialized Y_Ring_plainSymbolOf.1.cls ∈ zGW ∧ (Y_Ring_plainSymbolOf.1.cls ≠ "java/lang/invoke/MethodHandle" ∧ Y_Ring_plainSymbolOf.1.cls ≠ "java/lang/invoke/VarHandle" ∧ (parseMethodDescriptor Y_Ring_plainSymbolOf.1.desc).map (fun d => d.parameters.length) = some 1) ∧ plainName Y_Ring_plainSymbolOf.1.cls = true ∧ Y_Ring_plainSymbolOf.2.2.1 ≤ 21 ∧ 1 ≤ Y_Ring_plainSymbolOf.2.2.1 := ⟨zin 517 (by decide +kernel) (by decide +kernel), zin 516 (by decide +kernel) (by decide +kernel), zin 60 (by decide +kernel) (by decide +kernel), ⟨(by decide +kernel), (by decide +kernel), (by decide +kernel)⟩, (by decide +kernel), by decide, by decide⟩
theorem v_Text_init : Y_Text_init.2.2.2 = none ∧ Cond.code Y_Text_init.1 Y_Text_init.2.1 Y_Text_init.2.2.1 none ∈ zGW ∧ Cond.instanceMethod Y_Text_init.1 ∈ zGW ∧ Cond.initialized Y_Text_init.1.cls ∈ zGW ∧ (Y_Text_init.1.cls ≠ "java/lang/invoke/MethodHandle" ∧ Y_Text_init.1.cls ≠ "java/lang/invoke/VarHandle" ∧ (parseMethodDescriptor Y_Text_init.1.desc).map (fun d => d.parameters.length) = some 0) ∧ plainName Y_Text_init.1.cls = true ∧ Y_Text_init.2.2.1 ≤ 21 ∧ 0 + 1 ≤ Y_Text_init.2.2.1 ∧ Y_Text_init.1.name = "<init>" := ⟨rfl, zin 86 (by decide +kernel) (by decide +kernel), zin 85 (by decide +kernel) (by decide +kernel), zin 56 (by decide +kernel) (by decide +kernel), ⟨(by decide +kernel), (by decide +kernel), (by decide +kernel)⟩, (by decide +kernel), by decide, by decide, rfl⟩
theorem v_Text_add : Cond.code Y_Text_add.1 Y_Text_add.2.1 Y_Text_add.2.2.1 Y_Text_add.2.2.2 ∈ zGW ∧ Cond.instanceMethod Y_Text_add.1 ∈ zGW ∧ Cond.selects Y_Text_add.1.cls Y_Text_add.1 Y_Text_add.1 ∈ zGW ∧ Cond.initialized Y_Text_add.1.cls ∈ zGW ∧ (Y_Text_add.1.cls ≠ "java/lang/invoke/MethodHandle" ∧ Y_Text_add.1.cls ≠ "java/lang/invoke/VarHandle" ∧ (parseMethodDescriptor Y_Text_add.1.desc).map (fun d => d.parameters.length) = some 1) ∧ plainName Y_Text_add.1.cls = true ∧ Y_Text_add.2.2.1 ≤ 21 ∧ 1 + 1 ≤ Y_Text_add.2.2.1 := ⟨zin 369 (by decide +kernel) (by decide +kernel), zin 367 (by decide +kernel) (by decide +kernel), zin 368 (by decide +kernel) (by decide +kernel), zin 56 (by decide +kernel) (by decide +kernel), ⟨(by decide +kernel), (by decide +kernel), (by decide +kernel)⟩, (by decide +kernel), by decide, by decide⟩
theorem v_Text_get : Cond.code Y_Text_get.1 Y_Text_get.2.1 Y_Text_get.2.2.1 Y_Text_get.2.2.2 ∈ zGW ∧ Cond.instanceMethod Y_Text_get.1 ∈ zGW ∧ Cond.selects Y_Text_get.1.cls Y_Text_get.1 Y_Text_get.1 ∈ zGW ∧ Cond.initialized Y_Text_get.1.cls ∈ zGW ∧ (Y_Text_get.1.cls ≠ "java/lang/invoke/MethodHandle" ∧ Y_Text_get.1.cls ≠ "java/lang/invoke/VarHandle" ∧ (parseMethodDescriptor Y_Text_get.1.desc).map (fun d => d.parameters.length) = some 1) ∧ plainName Y_Text_get.1.cls = true ∧ Y_Text_get.2.2.1 ≤ 21 ∧ 1 + 1 ≤ Y_Text_get.2.2.1 := ⟨zin 392 (by decide +kernel) (by decide +kernel), zin 390 (by decide +kernel) (by decide +kernel), zin 391 (by decide +kernel) (by decide +kernel), zin 56 (by decide +kernel) (by decide +kernel), ⟨(by decide +kernel), (by decide +kernel), (by decide +kernel)⟩, (by decide +kernel), by decide, by decide⟩
theorem v_Text_makeEmpty : Cond.code Y_Text_makeEmpty.1 Y_Text_makeEmpty.2.1 Y_Text_makeEmpty.2.2.1 Y_Text_makeEmpty.2.2.2 ∈ zGW ∧ Cond.instanceMethod Y_Text_makeEmpty.1 ∈ zGW ∧ Cond.selects Y_Text_makeEmpty.1.cls Y_Text_makeEmpty.1 Y_Text_makeEmpty.1 ∈ zGW ∧ Cond.initialized Y_Text_makeEmpty.1.cls ∈ zGW ∧ (Y_Text_makeEmpty.1.cls ≠ "java/lang/invoke/MethodHandle" ∧ Y_Text_makeEmpty.1.cls ≠ "java/lang/invoke/VarHandle" ∧ (parseMethodDescriptor Y_Text_makeEmpty.1.desc).map (fun d => d.parameters.length) = some 0) ∧ plainName Y_Text_makeEmpty.1.cls = true ∧ Y_Text_makeEmpty.2.2.1 ≤ 21 ∧ 0 + 1 ≤ Y_Text_makeEmpty.2.2.1 := ⟨zin 380 (by decide +kernel) (by decide +kernel), zin 378 (by decide +kernel) (by decide +kernel), zin 379 (by decide +kernel) (by decide +kernel), zin 56 (by decide +kernel) (by decide +kernel), ⟨(by decide +kernel), (by decide +kernel), (by decide +kernel)⟩, (by decide +kernel), by decide, by decide⟩
theorem v_Text_become : Cond.code Y_Text_become.1 Y_Text_become.2.1 Y_Text_become.2.2.1 Y_Text_become.2.2.2 ∈ zGW ∧ Cond.instanceMethod Y_Text_become.1 ∈ zGW ∧ Cond.selects Y_Text_become.1.cls Y_Text_become.1 Y_Text_become.1 ∈ zGW ∧ Cond.initialized Y_Text_become.1.cls ∈ zGW ∧ (Y_Text_become.1.cls ≠ "java/lang/invoke/MethodHandle" ∧ Y_Text_become.1.cls ≠ "java/lang/invoke/VarHandle" ∧ (parseMethodDescriptor Y_Text_become.1.desc).map (fun d => d.parameters.length) = some 1) ∧ plainName Y_Text_become.1.cls = true ∧ Y_Text_become.2.2.1 ≤ 21 ∧ 1 + 1 ≤ Y_Text_become.2.2.1 := ⟨zin 783 (by decide +kernel) (by decide +kernel), zin 781 (by decide +kernel) (by decide +kernel), zin 782 (by decide +kernel) (by decide +kernel), zin 56 (by decide +kernel) (by decide +kernel), ⟨(by decide +kernel), (by decide +kernel), (by decide +kernel)⟩, (by decide +kernel), by decide, by decide⟩
theorem v_Text_followsSmallLetter : Cond.code Y_Text_followsSmallLetter.1 Y_Text_followsSmallLetter.2.1 Y_Text_followsSmallLetter.2.2.1 Y_Text_followsSmallLetter.2.2.2 ∈ zGW ∧ Cond.instanceMethod Y_Text_followsSmallLetter.1 ∈ zGW ∧ Cond.selects Y_Text_followsSmallLetter.1.cls Y_Text_followsSmallLetter.1 Y_Text_followsSmallLetter.1 ∈ zGW ∧ Cond.initialized Y_Text_followsSmallLetter.1.cls ∈ zGW ∧ (Y_Text_followsSmallLetter.1.cls ≠ "java/lang/invoke/MethodHandle" ∧ Y_Text_followsSmallLetter.1.cls ≠ "java/lang/invoke/VarHandle" ∧ (parseMethodDescriptor Y_Text_followsSmallLetter.1.desc).map (fun d => d.parameters.length) = some 1) ∧ plainName Y_Text_followsSmallLetter.1.cls = true ∧ Y_Text_followsSmallLetter.2.2.1 ≤ 21 ∧ 1 + 1 ≤ Y_Text_followsSmallLetter.2.2.1 := ⟨zin 601 (by decide +kernel) (by decide +kernel), zin 599 (by decide +kernel) (by decide +kernel), zin 600 (by decide +kernel) (by decide +kernel), zin 56 (by decide +kernel) (by decide +kernel), ⟨(by decide +kernel), (by decide +kernel), (by decide +kernel)⟩, (by decide +kernel), by decide, by decide⟩
theorem v_Text_equalBytes : Cond.code Y_Text_equalBytes.1 Y_Text_equalBytes.2.1 Y_Text_equalBytes.2.2.1 Y_Text_equalBytes.2.2.2 ∈ zGW ∧ Cond.instanceMethod Y_Text_equalBytes.1 ∈ zGW ∧ Cond.selects Y_Text_equalBytes.1.cls Y_Text_equalBytes.1 Y_Text_equalBytes.1 ∈ zGW ∧ Cond.initialized Y_Text_equalBytes.1.cls ∈ zGW ∧ (Y_Text_equalBytes.1.cls ≠ "java/lang/invoke/MethodHandle" ∧ Y_Text_equalBytes.1.cls ≠ "java/lang/invoke/VarHandle" ∧ (parseMethodDescriptor Y_Text_equalBytes.1.desc).map (fun d => d.parameters.length) = some 3) ∧ plainName Y_Text_equalBytes.1.cls = true ∧ Y_Text_equalBytes.2.2.1 ≤ 21 ∧ 3 + 1 ≤ Y_Text_equalBytes.2.2.1 := ⟨zin 443 (by decide +kernel) (by decide +kernel), zin 441 (by decide +kernel) (by decide +kernel), zin 442 (by decide +kernel) (by decide +kernel), zin 56 (by decide +kernel) (by decide +kernel), ⟨(by decide +kernel), (by decide +kernel), (by decide +kernel)⟩, (by decide +kernel), by decide, by decide⟩
theorem v_Unpacker_init : Y_Unpacker_init.2.2.2 = none ∧ Cond.code Y_Unpacker_init.1 Y_Unpacker_init.2.1 Y_Unpacker_init.2.2.1 none ∈ zGW ∧ Cond.instanceMethod Y_Unpacker_init.1 ∈ zGW ∧ Cond.initialized Y_Unpacker_init.1.cls ∈ zGW ∧ (Y_Unpacker_init.1.cls ≠ "java/lang/invoke/MethodHandle" ∧ Y_Unpacker_init.1.cls ≠ "java/lang/invoke/VarHandle" ∧ (parseMethodDescriptor Y_Unpacker_init.1.desc).map (fun d => d.parameters.length) = some 0) ∧ plainName Y_Unpacker_init.1.cls = true ∧ Y_Unpacker_init.2.2.1 ≤ 21 ∧ 0 + 1 ≤ Y_Unpacker_init.2.2.1 ∧ Y_Unpacker_init.1.name = "<init>" := ⟨rfl, zin 321 (by decide +kernel) (by decide +kernel), zin 320 (by decide +kernel) (by decide +kernel), zin 65 (by decide +kernel) (by decide +kernel), ⟨(by decide +kernel), (by decide +kernel), (by decide +kernel)⟩, (by decide +kernel), by decide, by decide, rfl⟩
theorem v_Unpacker_readAll : Cond.code Y_Unpacker_readAll.1 Y_Unpacker_readAll.2.1 Y_Unpacker_readAll.2.2.1 Y_Unpacker_readAll.2.2.2 ∈ zGW ∧ Cond.instanceMethod Y_Unpacker_readAll.1 ∈ zGW ∧ Cond.selects Y_Unpacker_readAll.1.cls Y_Unpacker_readAll.1 Y_Unpacker_readAll.1 ∈ zGW ∧ Cond.initialized Y_Unpacker_readAll.1.cls ∈ zGW ∧ (Y_Unpacker_readAll.1.cls ≠ "java/lang/invoke/MethodHandle" ∧ Y_Unpacker_readAll.1.cls ≠ "java/lang/invoke/VarHandle" ∧ (parseMethodDescriptor Y_Unpacker_readAll.1.desc).map (fun d => d.parameters.length) = some 1) ∧ plainName Y_Unpacker_readAll.1.cls = true ∧ Y_Unpacker_readAll.2.2.1 ≤ 21 ∧ 1 + 1 ≤ Y_Unpacker_readAll.2.2.1 := ⟨zin 696 (by decide +kernel) (by decide +kernel), zin 694 (by decide +kernel) (by decide +kernel), zin 695 (by decide +kernel) (by decide +kernel), zin 65 (by decide +kernel) (by decide +kernel), ⟨(by decide +kernel), (by decide +kernel), (by decide +kernel)⟩, (by decide +kernel), by decide, by decide⟩
theorem v_Unpacker_readRaw : Cond.code Y_Unpacker_readRaw.1 Y_Unpacker_readRaw.2.1 Y_Unpacker_readRaw.2.2.1 Y_Unpacker_readRaw.2.2.2 ∈ zGW ∧ Cond.instanceMethod Y_Unpacker_readRaw.1 ∈ zGW ∧ Cond.selects Y_Unpacker_readRaw.1.cls Y_Unpacker_readRaw.1 Y_Unpacker_readRaw.1 ∈ zGW ∧ Cond.initialized Y_Unpacker_readRaw.1.cls ∈ zGW ∧ (Y_Unpacker_readRaw.1.cls ≠ "java/lang/invoke/MethodHandle" ∧ Y_Unpacker_readRaw.1.cls ≠ "java/lang/invoke/VarHandle" ∧ (parseMethodDescriptor Y_Unpacker_readRaw.1.desc).map (fun d => d.parameters.length) = some 2) ∧ plainName Y_Unpacker_readRaw.1.cls = true ∧ Y_Unpacker_readRaw.2.2.1 ≤ 21 ∧ 2 + 1 ≤ Y_Unpacker_readRaw.2.2.1 := ⟨zin 769 (by decide +kernel) (by decide +kernel), zin 768 (by decide +kernel) (by decide +kernel), zin 23 (by decide +kernel) (by decide +kernel), zin 65 (by decide +kernel) (by decide +kernel), ⟨(by decide +kernel), (by decide +kernel), (by decide +kernel)⟩, (by decide +kernel), by decide, by decide⟩
theorem v_Unpacker_readCoded : Cond.code Y_Unpacker_readCoded.1 Y_Unpacker_readCoded.2.1 Y_Unpacker_readCoded.2.2.1 Y_Unpacker_readCoded.2.2.2 ∈ zGW ∧ Cond.instanceMethod Y_Unpacker_readCoded.1 ∈ zGW ∧ Cond.selects Y_Unpacker_readCoded.1.cls Y_Unpacker_readCoded.1 Y_Unpacker_readCoded.1 ∈ zGW ∧ Cond.initialized Y_Unpacker_readCoded.1.cls ∈ zGW ∧ (Y_Unpacker_readCoded.1.cls ≠ "java/lang/invoke/MethodHandle" ∧ Y_Unpacker_readCoded.1.cls ≠ "java/lang/invoke/VarHandle" ∧ (parseMethodDescriptor Y_Unpacker_readCoded.1.desc).map (fun d => d.parameters.length) = some 2) ∧ plainName Y_Unpacker_readCoded.1.cls = true ∧ Y_Unpacker_readCoded.2.2.1 ≤ 21 ∧ 2 + 1 ≤ Y_Unpacker_readCoded.2.2.1 := ⟨zin 711 (by decide +kernel) (by decide +kernel), zin 710 (by decide +kernel) (by decide +kernel), zin 15 (by decide +kernel) (by decide +kernel), zin 65 (by decide +kernel) (by decide +kernel), ⟨(by decide +kernel), (by decide +kernel), (by decide +kernel)⟩, (by decide +kernel), by decide, by decide⟩
theorem v_Unpacker_readCommand : Cond.code Y_Unpacker_readCommand.1 Y_Unpacker_readCommand.2.1 Y_Unpacker_readCommand.2.2.1 Y_Unpacker_readCommand.2.2.2 ∈ zGW ∧ Cond.instanceMethod Y_Unpacker_readCommand.1 ∈ zGW ∧ Cond.selects Y_Unpacker_readCommand.1.cls Y_Unpacker_readCommand.1 Y_Unpacker_readCommand.1 ∈ zGW ∧ Cond.initialized Y_Unpacker_readCommand.1.cls ∈ zGW ∧ (Y_Unpacker_readCommand.1.cls ≠ "java/lang/invoke/MethodHandle" ∧ Y_Unpacker_readCommand.1.cls ≠ "java/lang/invoke/VarHandle" ∧ (parseMethodDescriptor Y_Unpacker_readCommand.1.desc).map (fun d => d.parameters.length) = some 3) ∧ plainName Y_Unpacker_readCommand.1.cls = true ∧ Y_Unpacker_readCommand.2.2.1 ≤ 21 ∧ 3 + 1 ≤ Y_Unpacker_readCommand.2.2.1 := ⟨zin 736 (by decide +kernel) (by decide +kernel), zin 735 (by decide +kernel) (by decide +kernel), zin 19 (by decide +kernel) (by decide +kernel), zin 65 (by decide +kernel) (by decide +kernel), ⟨(by decide +kernel), (by decide +kernel), (by decide +kernel)⟩, (by decide +kernel), by decide, by decide⟩
theorem v_Unpacker_readDistance : Cond.code Y_Unpacker_readDistance.1 Y_Unpacker_readDistance.2.1 Y_Unpacker_readDistance.2.2.1 Y_Unpacker_readDistance.2.2.2 ∈ zGW ∧ Cond.instanceMethod Y_Unpacker_readDistance.1 ∈ zGW ∧ Cond.selects Y_Unpacker_readDistance.1.cls Y_Unpacker_readDistance.1 Y_Unpacker_readDistance.1 ∈ zGW ∧ Cond.initialized Y_Unpacker_readDistance.1.cls ∈ zGW ∧ (Y_Unpacker_readDistance.1.cls ≠ "java/lang/invoke/MethodHandle" ∧ Y_Unpacker_readDistance.1.cls ≠ "java/lang/invoke/VarHandle" ∧ (parseMethodDescriptor Y_Unpacker_readDistance.1.desc).map (fun d => d.parameters.length) = some 2) ∧ plainName Y_Unpacker_readDistance.1.cls = true ∧ Y_Unpacker_readDistance.2.2.1 ≤ 21 ∧ 2 + 1 ≤ Y_Unpacker_readDistance.2.2.1 := ⟨zin 750 (by decide +kernel) (by decide +kernel), zin 749 (by decide +kernel) (by decide +kernel), zin 20 (by decide +kernel) (by decide +kernel), zin 65 (by decide +kernel) (by decide +kernel), ⟨(by decide +kernel), (by decide +kernel), (by decide +kernel)⟩, (by decide +kernel), by decide, by decide⟩
theorem v_Unpacker_yieldCopy : Cond.code Y_Unpacker_yieldCopy.1 Y_Unpacker_yieldCopy.2.1 Y_Unpacker_yieldCopy.2.2.1 Y_Unpacker_yieldCopy.2.2.2 ∈ zGW ∧ Cond.instanceMethod Y_Unpacker_yieldCopy.1 ∈ zGW ∧ Cond.selects Y_Unpacker_yieldCopy.1.cls Y_Unpacker_yieldCopy.1 Y_Unpacker_yieldCopy.1 ∈ zGW ∧ Cond.initialized Y_Unpacker_yieldCopy.1.cls ∈ zGW ∧ (Y_Unpacker_yieldCopy.1.cls ≠ "java/lang/invoke/MethodHandle" ∧ Y_Unpacker_yieldCopy.1.cls ≠ "java/lang/invoke/VarHandle" ∧ (parseMethodDescriptor Y_Unpacker_yieldCopy.1.desc).map (fun d => d.parameters.length) = some 3) ∧ plainName Y_Unpacker_yieldCopy.1.cls = true ∧ Y_Unpacker_yieldCopy.2.2.1 ≤ 21 ∧ 3 + 1 ≤ Y_Unpacker_yieldCopy.2.2.1 := ⟨zin 764 (by decide +kernel) (by decide +kernel), zin 763 (by decide +kernel) (by decide +kernel), zin 22 (by decide +kernel) (by decide +kernel), zin 65 (by decide +kernel) (by decide +kernel), ⟨(by decide +kernel), (by decide +kernel), (by decide +kernel)⟩, (by decide +kernel), by decide, by decide⟩
theorem v_Unpacker_yieldWord : Cond.code Y_Unpacker_yieldWord.1 Y_Unpacker_yieldWord.2.1 Y_Unpacker_yieldWord.2.2.1 Y_Unpacker_yieldWord.2.2.2 ∈ zGW ∧ Cond.instanceMethod Y_Unpacker_yieldWord.1 ∈ zGW ∧ Cond.selects Y_Unpacker_yieldWord.1.cls Y_Unpacker_yieldWord.1 Y_Unpacker_yieldWord.1 ∈ zGW ∧ Cond.initialized Y_Unpacker_yieldWord.1.cls ∈ zGW ∧ (Y_Unpacker_yieldWord.1.cls ≠ "java/lang/invoke/MethodHandle" ∧ Y_Unpacker_yieldWord.1.cls ≠ "java/lang/invoke/VarHandle" ∧ (parseMethodDescriptor Y_Unpacker_yieldWord.1.desc).map (fun d => d.parameters.length) = some 3) ∧ plainName Y_Unpacker_yieldWord.1.cls = true ∧ Y_Unpacker_yieldWord.2.2.1 ≤ 21 ∧ 3 + 1 ≤ Y_Unpacker_yieldWord.2.2.1 := ⟨zin 758 (by decide +kernel) (by decide +kernel), zin 757 (by decide +kernel) (by decide +kernel), zin 21 (by decide +kernel) (by decide +kernel), zin 65 (by decide +kernel) (by decide +kernel), ⟨(by decide +kernel), (by decide +kernel), (by decide +kernel)⟩, (by decide +kernel), by decide, by decide⟩
theorem v_Words_yieldOf : Cond.code Y_Words_yieldOf.1 Y_Words_yieldOf.2.1 Y_Words_yieldOf.2.2.1 Y_Words_yieldOf.2.2.2 ∈ zGW ∧ Cond.static Y_Words_yieldOf.1 ∈ zGW ∧ Cond.initialized Y_Words_yieldOf.1.cls ∈ zGW ∧ (Y_Words_yieldOf.1.cls ≠ "java/lang/invoke/MethodHandle" ∧ Y_Words_yieldOf.1.cls ≠ "java/lang/invoke/VarHandle" ∧ (parseMethodDescriptor Y_Words_yieldOf.1.desc).map (fun d => d.parameters.length) = some 2) ∧ plainName Y_Words_yieldOf.1.cls = true ∧ Y_Words_yieldOf.2.2.1 ≤ 21 ∧ 2 ≤ Y_Words_yieldOf.2.2.1 := ⟨zin 451 (by decide +kernel) (by decide +kernel), zin 450 (by decide +kernel) (by decide +kernel), zin 69 (by decide +kernel) (by decide +kernel), ⟨(by decide +kernel), (by decide +kernel), (by decide +kernel)⟩, (by decide +kernel), by decide, by decide⟩
theorem v_Words_byteOf : Cond.code Y_Words_byteOf.1 Y_Words_byteOf.2.1 Y_Words_byteOf.2.2.1 Y_Words_byteOf.2.2.2 ∈ zGW ∧ Cond.static Y_Words_byteOf.1 ∈ zGW ∧ Cond.initialized Y_Words_byteOf.1.cls ∈ zGW ∧ (Y_Words_byteOf.1.cls ≠ "java/lang/invoke/MethodHandle" ∧ Y_Words_byteOf.1.cls ≠ "java/lang/invoke/VarHandle" ∧ (parseMethodDescriptor Y_Words_byteOf.1.desc).map (fun d => d.parameters.length) = some 3) ∧ plainName Y_Words_byteOf.1.cls = true ∧ Y_Words_byteOf.2.2.1 ≤ 21 ∧ 3 ≤ Y_Words_byteOf.2.2.1 := ⟨zin 459 (by decide +kernel) (by decide +kernel), zin 458 (by decide +kernel) (by decide +kernel), zin 69 (by decide +kernel) (by decide +kernel), ⟨(by decide +kernel), (by decide +kernel), (by decide +kernel)⟩, (by decide +kernel), by decide, by decide⟩
theorem v_Words_standsIn : Cond.code Y_Words_standsIn.1 Y_Words_standsIn.2.1 Y_Words_standsIn.2.2.1 Y_Words_standsIn.2.2.2 ∈ zGW ∧ Cond.static Y_Words_standsIn.1 ∈ zGW ∧ Cond.initialized Y_Words_standsIn.1.cls ∈ zGW ∧ (Y_Words_standsIn.1.cls ≠ "java/lang/invoke/MethodHandle" ∧ Y_Words_standsIn.1.cls ≠ "java/lang/invoke/VarHandle" ∧ (parseMethodDescriptor Y_Words_standsIn.1.desc).map (fun d => d.parameters.length) = some 4) ∧ plainName Y_Words_standsIn.1.cls = true ∧ Y_Words_standsIn.2.2.1 ≤ 21 ∧ 4 ≤ Y_Words_standsIn.2.2.1 := ⟨zin 454 (by decide +kernel) (by decide +kernel), zin 453 (by decide +kernel) (by decide +kernel), zin 69 (by decide +kernel) (by decide +kernel), ⟨(by decide +kernel), (by decide +kernel), (by decide +kernel)⟩, (by decide +kernel), by decide, by decide⟩
theorem v_Rp_init : Y_Rp_init.2.2.2 = none ∧ Cond.code Y_Rp_init.1 Y_Rp_init.2.1 Y_Rp_init.2.2.1 none ∈ zGW ∧ Cond.instanceMethod Y_Rp_init.1 ∈ zGW ∧ Cond.initialized Y_Rp_init.1.cls ∈ zGW ∧ (Y_Rp_init.1.cls ≠ "java/lang/invoke/MethodHandle" ∧ Y_Rp_init.1.cls ≠ "java/lang/invoke/VarHandle" ∧ (parseMethodDescriptor Y_Rp_init.1.desc).map (fun d => d.parameters.length) = some 0) ∧ plainName Y_Rp_init.1.cls = true ∧ Y_Rp_init.2.2.1 ≤ 21 ∧ 0 + 1 ≤ Y_Rp_init.2.2.1 ∧ Y_Rp_init.1.name = "<init>" := ⟨rfl, zin 78 (by decide +kernel) (by decide +kernel), zin 77 (by decide +kernel) (by decide +kernel), zin 55 (by decide +kernel) (by decide +kernel), ⟨(by decide +kernel), (by decide +kernel), (by decide +kernel)⟩, (by decide +kernel), by decide, by decide, rfl⟩
theorem v_Rp_put : Cond.code Y_Rp_put.1 Y_Rp_put.2.1 Y_Rp_put.2.2.1 Y_Rp_put.2.2.2 ∈ zGW ∧ Cond.instanceMethod Y_Rp_put.1 ∈ zGW ∧ Cond.selects Y_Rp_put.1.cls Y_Rp_put.1 Y_Rp_put.1 ∈ zGW ∧ Cond.initialized Y_Rp_put.1.cls ∈ zGW ∧ (Y_Rp_put.1.cls ≠ "java/lang/invoke/MethodHandle" ∧ Y_Rp_put.1.cls ≠ "java/lang/invoke/VarHandle" ∧ (parseMethodDescriptor Y_Rp_put.1.desc).map (fun d => d.parameters.length) = some 1) ∧ plainName Y_Rp_put.1.cls = true ∧ Y_Rp_put.2.2.1 ≤ 21 ∧ 1 + 1 ≤ Y_Rp_put.2.2.1 := ⟨zin 365 (by decide +kernel) (by decide +kernel), zin 363 (by decide +kernel) (by decide +kernel), zin 364 (by decide +kernel) (by decide +kernel), zin 55 (by decide +kernel) (by decide +kernel), ⟨(by decide +kernel), (by decide +kernel), (by decide +kernel)⟩, (by decide +kernel), by decide, by decide⟩
theorem v_Rp_clear : Cond.code Y_Rp_clear.1 Y_Rp_clear.2.1 Y_Rp_clear.2.2.1 Y_Rp_clear.2.2.2 ∈ zGW ∧ Cond.instanceMethod Y_Rp_clear.1 ∈ zGW ∧ Cond.selects Y_Rp_clear.1.cls Y_Rp_clear.1 Y_Rp_clear.1 ∈ zGW ∧ Cond.initialized Y_Rp_clear.1.cls ∈ zGW ∧ (Y_Rp_clear.1.cls ≠ "java/lang/invoke/MethodHandle" ∧ Y_Rp_clear.1.cls ≠ "java/lang/invoke/VarHandle" ∧ (parseMethodDescriptor Y_Rp_clear.1.desc).map (fun d => d.parameters.length) = some 0) ∧ plainName Y_Rp_clear.1.cls = true ∧ Y_Rp_clear.2.2.1 ≤ 21 ∧ 0 + 1 ≤ Y_Rp_clear.2.2.1 := ⟨zin 376 (by decide +kernel) (by decide +kernel), zin 374 (by decide +kernel) (by decide +kernel), zin 375 (by decide +kernel) (by decide +kernel), zin 55 (by decide +kernel) (by decide +kernel), ⟨(by decide +kernel), (by decide +kernel), (by decide +kernel)⟩, (by decide +kernel), by decide, by decide⟩
theorem v_Rp_length : Cond.code Y_Rp_length.1 Y_Rp_length.2.1 Y_Rp_length.2.2.1 Y_Rp_length.2.2.2 ∈ zGW ∧ Cond.instanceMethod Y_Rp_length.1 ∈ zGW ∧ Cond.selects Y_Rp_length.1.cls Y_Rp_length.1 Y_Rp_length.1 ∈ zGW ∧ Cond.initialized Y_Rp_length.1.cls ∈ zGW ∧ (Y_Rp_length.1.cls ≠ "java/lang/invoke/MethodHandle" ∧ Y_Rp_length.1.cls ≠ "java/lang/invoke/VarHandle" ∧ (parseMethodDescriptor Y_Rp_length.1.desc).map (fun d => d.parameters.length) = some 0) ∧ plainName Y_Rp_length.1.cls = true ∧ Y_Rp_length.2.2.1 ≤ 21 ∧ 0 + 1 ≤ Y_Rp_length.2.2.1 := ⟨zin 384 (by decide +kernel) (by decide +kernel), zin 382 (by decide +kernel) (by decide +kernel), zin 383 (by decide +kernel) (by decide +kernel), zin 55 (by decide +kernel) (by decide +kernel), ⟨(by decide +kernel), (by decide +kernel), (by decide +kernel)⟩, (by decide +kernel), by decide, by decide⟩
theorem v_Rp_at : Cond.code Y_Rp_at.1 Y_Rp_at.2.1 Y_Rp_at.2.2.1 Y_Rp_at.2.2.2 ∈ zGW ∧ Cond.instanceMethod Y_Rp_at.1 ∈ zGW ∧ Cond.selects Y_Rp_at.1.cls Y_Rp_at.1 Y_Rp_at.1 ∈ zGW ∧ Cond.initialized Y_Rp_at.1.cls ∈ zGW ∧ (Y_Rp_at.1.cls ≠ "java/lang/invoke/MethodHandle" ∧ Y_Rp_at.1.cls ≠ "java/lang/invoke/VarHandle" ∧ (parseMethodDescriptor Y_Rp_at.1.desc).map (fun d => d.parameters.length) = some 1) ∧ plainName Y_Rp_at.1.cls = true ∧ Y_Rp_at.2.2.1 ≤ 21 ∧ 1 + 1 ≤ Y_Rp_at.2.2.1 := ⟨zin 388 (by decide +kernel) (by decide +kernel), zin 386 (by decide +kernel) (by decide +kernel), zin 387 (by decide +kernel) (by decide +kernel), zin 55 (by decide +kernel) (by decide +kernel), ⟨(by decide +kernel), (by decide +kernel), (by decide +kernel)⟩, (by decide +kernel), by decide, by decide⟩
theorem v_Rp_pack : Cond.code Y_Rp_pack.1 Y_Rp_pack.2.1 Y_Rp_pack.2.2.1 Y_Rp_pack.2.2.2 ∈ zGW ∧ Cond.instanceMethod Y_Rp_pack.1 ∈ zGW ∧ Cond.selects Y_Rp_pack.1.cls Y_Rp_pack.1 Y_Rp_pack.1 ∈ zGW ∧ Cond.initialized Y_Rp_pack.1.cls ∈ zGW ∧ (Y_Rp_pack.1.cls ≠ "java/lang/invoke/MethodHandle" ∧ Y_Rp_pack.1.cls ≠ "java/lang/invoke/VarHandle" ∧ (parseMethodDescriptor Y_Rp_pack.1.desc).map (fun d => d.parameters.length) = some 0) ∧ plainName Y_Rp_pack.1.cls = true ∧ Y_Rp_pack.2.2.1 ≤ 21 ∧ 0 + 1 ≤ Y_Rp_pack.2.2.1 := ⟨zin 396 (by decide +kernel) (by decide +kernel), zin 394 (by decide +kernel) (by decide +kernel), zin 395 (by decide +kernel) (by decide +kernel), zin 55 (by decide +kernel) (by decide +kernel), ⟨(by decide +kernel), (by decide +kernel), (by decide +kernel)⟩, (by decide +kernel), by decide, by decide⟩
theorem v_Rp_unpack : Cond.code Y_Rp_unpack.1 Y_Rp_unpack.2.1 Y_Rp_unpack.2.2.1 Y_Rp_unpack.2.2.2 ∈ zGW ∧ Cond.instanceMethod Y_Rp_unpack.1 ∈ zGW ∧ Cond.selects Y_Rp_unpack.1.cls Y_Rp_unpack.1 Y_Rp_unpack.1 ∈ zGW ∧ Cond.initialized Y_Rp_unpack.1.cls ∈ zGW ∧ (Y_Rp_unpack.1.cls ≠ "java/lang/invoke/MethodHandle" ∧ Y_Rp_unpack.1.cls ≠ "java/lang/invoke/VarHandle" ∧ (parseMethodDescriptor Y_Rp_unpack.1.desc).map (fun d => d.parameters.length) = some 0) ∧ plainName Y_Rp_unpack.1.cls = true ∧ Y_Rp_unpack.2.2.1 ≤ 21 ∧ 0 + 1 ≤ Y_Rp_unpack.2.2.1 := ⟨zin 692 (by decide +kernel) (by decide +kernel), zin 690 (by decide +kernel) (by decide +kernel), zin 691 (by decide +kernel) (by decide +kernel), zin 55 (by decide +kernel) (by decide +kernel), ⟨(by decide +kernel), (by decide +kernel), (by decide +kernel)⟩, (by decide +kernel), by decide, by decide⟩
theorem v_Rp_size : Cond.code Y_Rp_size.1 Y_Rp_size.2.1 Y_Rp_size.2.2.1 Y_Rp_size.2.2.2 ∈ zGW ∧ Cond.instanceMethod Y_Rp_size.1 ∈ zGW ∧ Cond.selects Y_Rp_size.1.cls Y_Rp_size.1 Y_Rp_size.1 ∈ zGW ∧ Cond.initialized Y_Rp_size.1.cls ∈ zGW ∧ (Y_Rp_size.1.cls ≠ "java/lang/invoke/MethodHandle" ∧ Y_Rp_size.1.cls ≠ "java/lang/invoke/VarHandle" ∧ (parseMethodDescriptor Y_Rp_size.1.desc).map (fun d => d.parameters.length) = some 0) ∧ plainName Y_Rp_size.1.cls = true ∧ Y_Rp_size.2.2.1 ≤ 21 ∧ 0 + 1 ≤ Y_Rp_size.2.2.1 := ⟨zin 788 (by decide +kernel) (by decide +kernel), zin 786 (by decide +kernel) (by decide +kernel), zin 787 (by decide +kernel) (by decide +kernel), zin 55 (by decide +kernel) (by decide +kernel), ⟨(by decide +kernel), (by decide +kernel), (by decide +kernel)⟩, (by decide +kernel), by decide, by decide⟩
theorem v_Rp_byteAt : Cond.code Y_Rp_byteAt.1 Y_Rp_byteAt.2.1 Y_Rp_byteAt.2.2.1 Y_Rp_byteAt.2.2.2 ∈ zGW ∧ Cond.instanceMethod Y_Rp_byteAt.1 ∈ zGW ∧ Cond.selects Y_Rp_byteAt.1.cls Y_Rp_byteAt.1 Y_Rp_byteAt.1 ∈ zGW ∧ Cond.initialized Y_Rp_byteAt.1.cls ∈ zGW ∧ (Y_Rp_byteAt.1.cls ≠ "java/lang/invoke/MethodHandle" ∧ Y_Rp_byteAt.1.cls ≠ "java/lang/invoke/VarHandle" ∧ (parseMethodDescriptor Y_Rp_byteAt.1.desc).map (fun d => d.parameters.length) = some 1) ∧ plainName Y_Rp_byteAt.1.cls = true ∧ Y_Rp_byteAt.2.2.1 ≤ 21 ∧ 1 + 1 ≤ Y_Rp_byteAt.2.2.1 := ⟨zin 792 (by decide +kernel) (by decide +kernel), zin 790 (by decide +kernel) (by decide +kernel), zin 791 (by decide +kernel) (by decide +kernel), zin 55 (by decide +kernel) (by decide +kernel), ⟨(by decide +kernel), (by decide +kernel), (by decide +kernel)⟩, (by decide +kernel), by decide, by decide⟩
theorem v_Rp_poke : Cond.code Y_Rp_poke.1 Y_Rp_poke.2.1 Y_Rp_poke.2.2.1 Y_Rp_poke.2.2.2 ∈ zGW ∧ Cond.instanceMethod Y_Rp_poke.1 ∈ zGW ∧ Cond.selects Y_Rp_poke.1.cls Y_Rp_poke.1 Y_Rp_poke.1 ∈ zGW ∧ Cond.initialized Y_Rp_poke.1.cls ∈ zGW ∧ (Y_Rp_poke.1.cls ≠ "java/lang/invoke/MethodHandle" ∧ Y_Rp_poke.1.cls ≠ "java/lang/invoke/VarHandle" ∧ (parseMethodDescriptor Y_Rp_poke.1.desc).map (fun d => d.parameters.length) = some 2) ∧ plainName Y_Rp_poke.1.cls = true ∧ Y_Rp_poke.2.2.1 ≤ 21 ∧ 2 + 1 ≤ Y_Rp_poke.2.2.1 := ⟨zin 800 (by decide +kernel) (by decide +kernel), zin 798 (by decide +kernel) (by decide +kernel), zin 799 (by decide +kernel) (by decide +kernel), zin 55 (by decide +kernel) (by decide +kernel), ⟨(by decide +kernel), (by decide +kernel), (by decide +kernel)⟩, (by decide +kernel), by decide, by decide⟩
theorem v_Rp_append : Cond.code Y_Rp_append.1 Y_Rp_append.2.1 Y_Rp_append.2.2.1 Y_Rp_append.2.2.2 ∈ zGW ∧ Cond.instanceMethod Y_Rp_append.1 ∈ zGW ∧ Cond.selects Y_Rp_append.1.cls Y_Rp_append.1 Y_Rp_append.1 ∈ zGW ∧ Cond.initialized Y_Rp_append.1.cls ∈ zGW ∧ (Y_Rp_append.1.cls ≠ "java/lang/invoke/MethodHandle" ∧ Y_Rp_append.1.cls ≠ "java/lang/invoke/VarHandle" ∧ (parseMethodDescriptor Y_Rp_append.1.desc).map (fun d => d.parameters.length) = some 1) ∧ plainName Y_Rp_append.1.cls = true ∧ Y_Rp_append.2.2.1 ≤ 21 ∧ 1 + 1 ≤ Y_Rp_append.2.2.1 := ⟨zin 809 (by decide +kernel) (by decide +kernel), zin 807 (by decide +kernel) (by decide +kernel), zin 808 (by decide +kernel) (by decide +kernel), zin 55 (by decide +kernel) (by decide +kernel), ⟨(by decide +kernel), (by decide +kernel), (by decide +kernel)⟩, (by decide +kernel), by decide, by decide⟩
theorem v_Rp_trim : Cond.code Y_Rp_trim.1 Y_Rp_trim.2.1 Y_Rp_trim.2.2.1 Y_Rp_trim.2.2.2 ∈ zGW ∧ Cond.instanceMethod Y_Rp_trim.1 ∈ zGW ∧ Cond.selects Y_Rp_trim.1.cls Y_Rp_trim.1 Y_Rp_trim.1 ∈ zGW ∧ Cond.initialized Y_Rp_trim.1.cls ∈ zGW ∧ (Y_Rp_trim.1.cls ≠ "java/lang/invoke/MethodHandle" ∧ Y_Rp_trim.1.cls ≠ "java/lang/invoke/VarHandle" ∧ (parseMethodDescriptor Y_Rp_trim.1.desc).map (fun d => d.parameters.length) = some 1) ∧ plainName Y_Rp_trim.1.cls = true ∧ Y_Rp_trim.2.2.1 ≤ 21 ∧ 1 + 1 ≤ Y_Rp_trim.2.2.1 := ⟨zin 817 (by decide +kernel) (by decide +kernel), zin 815 (by decide +kernel) (by decide +kernel), zin 816 (by decide +kernel) (by decide +kernel), zin 55 (by decide +kernel) (by decide +kernel), ⟨(by decide +kernel), (by decide +kernel), (by decide +kernel)⟩, (by decide +kernel), by decide, by decide⟩
theorem v_Rp_coded : Cond.code Y_Rp_coded.1 Y_Rp_coded.2.1 Y_Rp_coded.2.2.1 Y_Rp_coded.2.2.2 ∈ zGW ∧ Cond.instanceMethod Y_Rp_coded.1 ∈ zGW ∧ Cond.selects Y_Rp_coded.1.cls Y_Rp_coded.1 Y_Rp_coded.1 ∈ zGW ∧ Cond.initialized Y_Rp_coded.1.cls ∈ zGW ∧ (Y_Rp_coded.1.cls ≠ "java/lang/invoke/MethodHandle" ∧ Y_Rp_coded.1.cls ≠ "java/lang/invoke/VarHandle" ∧ (parseMethodDescriptor Y_Rp_coded.1.desc).map (fun d => d.parameters.length) = some 0) ∧ plainName Y_Rp_coded.1.cls = true ∧ Y_Rp_coded.2.2.1 ≤ 21 ∧ 0 + 1 ≤ Y_Rp_coded.2.2.1 := ⟨zin 825 (by decide +kernel) (by decide +kernel), zin 823 (by decide +kernel) (by decide +kernel), zin 824 (by decide +kernel) (by decide +kernel), zin 55 (by decide +kernel) (by decide +kernel), ⟨(by decide +kernel), (by decide +kernel), (by decide +kernel)⟩, (by decide +kernel), by decide, by decide⟩
theorem v_Rp_copies : Cond.code Y_Rp_copies.1 Y_Rp_copies.2.1 Y_Rp_copies.2.2.1 Y_Rp_copies.2.2.2 ∈ zGW ∧ Cond.instanceMethod Y_Rp_copies.1 ∈ zGW ∧ Cond.selects Y_Rp_copies.1.cls Y_Rp_copies.1 Y_Rp_copies.1 ∈ zGW ∧ Cond.initialized Y_Rp_copies.1.cls ∈ zGW ∧ (Y_Rp_copies.1.cls ≠ "java/lang/invoke/MethodHandle" ∧ Y_Rp_copies.1.cls ≠ "java/lang/invoke/VarHandle" ∧ (parseMethodDescriptor Y_Rp_copies.1.desc).map (fun d => d.parameters.length) = some 0) ∧ plainName Y_Rp_copies.1.cls = true ∧ Y_Rp_copies.2.2.1 ≤ 21 ∧ 0 + 1 ≤ Y_Rp_copies.2.2.1 := ⟨zin 829 (by decide +kernel) (by decide +kernel), zin 827 (by decide +kernel) (by decide +kernel), zin 828 (by decide +kernel) (by decide +kernel), zin 55 (by decide +kernel) (by decide +kernel), ⟨(by decide +kernel), (by decide +kernel), (by decide +kernel)⟩, (by decide +kernel), by decide, by decide⟩
theorem v_Rp_words : Cond.code Y_Rp_words.1 Y_Rp_words.2.1 Y_Rp_words.2.2.1 Y_Rp_words.2.2.2 ∈ zGW ∧ Cond.instanceMethod Y_Rp_words.1 ∈ zGW ∧ Cond.selects Y_Rp_words.1.cls Y_Rp_words.1 Y_Rp_words.1 ∈ zGW ∧ Cond.initialized Y_Rp_words.1.cls ∈ zGW ∧ (Y_Rp_words.1.cls ≠ "java/lang/invoke/MethodHandle" ∧ Y_Rp_words.1.cls ≠ "java/lang/invoke/VarHandle" ∧ (parseMethodDescriptor Y_Rp_words.1.desc).map (fun d => d.parameters.length) = some 0) ∧ plainName Y_Rp_words.1.cls = true ∧ Y_Rp_words.2.2.1 ≤ 21 ∧ 0 + 1 ≤ Y_Rp_words.2.2.1 := ⟨zin 833 (by decide +kernel) (by decide +kernel), zin 831 (by decide +kernel) (by decide +kernel), zin 832 (by decide +kernel) (by decide +kernel), zin 55 (by decide +kernel) (by decide +kernel), ⟨(by decide +kernel), (by decide +kernel), (by decide +kernel)⟩, (by decide +kernel), by decide, by decide⟩
theorem v_Rp_symbols : Cond.code Y_Rp_symbols.1 Y_Rp_symbols.2.1 Y_Rp_symbols.2.2.1 Y_Rp_symbols.2.2.2 ∈ zGW ∧ Cond.instanceMethod Y_Rp_symbols.1 ∈ zGW ∧ Cond.selects Y_Rp_symbols.1.cls Y_Rp_symbols.1 Y_Rp_symbols.1 ∈ zGW ∧ Cond.initialized Y_Rp_symbols.1.cls ∈ zGW ∧ (Y_Rp_symbols.1.cls ≠ "java/lang/invoke/MethodHandle" ∧ Y_Rp_symbols.1.cls ≠ "java/lang/invoke/VarHandle" ∧ (parseMethodDescriptor Y_Rp_symbols.1.desc).map (fun d => d.parameters.length) = some 0) ∧ plainName Y_Rp_symbols.1.cls = true ∧ Y_Rp_symbols.2.2.1 ≤ 21 ∧ 0 + 1 ≤ Y_Rp_symbols.2.2.1 := ⟨zin 837 (by decide +kernel) (by decide +kernel), zin 835 (by decide +kernel) (by decide +kernel), zin 836 (by decide +kernel) (by decide +kernel), zin 55 (by decide +kernel) (by decide +kernel), ⟨(by decide +kernel), (by decide +kernel), (by decide +kernel)⟩, (by decide +kernel), by decide, by decide⟩
theorem v_Rp_isByte : Cond.code Y_Rp_isByte.1 Y_Rp_isByte.2.1 Y_Rp_isByte.2.2.1 Y_Rp_isByte.2.2.2 ∈ zGW ∧ Cond.static Y_Rp_isByte.1 ∈ zGW ∧ Cond.initialized Y_Rp_isByte.1.cls ∈ zGW ∧ (Y_Rp_isByte.1.cls ≠ "java/lang/invoke/MethodHandle" ∧ Y_Rp_isByte.1.cls ≠ "java/lang/invoke/VarHandle" ∧ (parseMethodDescriptor Y_Rp_isByte.1.desc).map (fun d => d.parameters.length) = some 1) ∧ plainName Y_Rp_isByte.1.cls = true ∧ Y_Rp_isByte.2.2.1 ≤ 21 ∧ 1 ≤ Y_Rp_isByte.2.2.1 := ⟨zin 372 (by decide +kernel) (by decide +kernel), zin 371 (by decide +kernel) (by decide +kernel), zin 55 (by decide +kernel) (by decide +kernel), ⟨(by decide +kernel), (by decide +kernel), (by decide +kernel)⟩, (by decide +kernel), by decide, by decide⟩
theorem v_Mo_init : Y_Mo_init.2.2.2 = none ∧ Cond.code Y_Mo_init.1 Y_Mo_init.2.1 Y_Mo_init.2.2.1 none ∈ zGW ∧ Cond.instanceMethod Y_Mo_init.1 ∈ zGW ∧ Cond.initialized Y_Mo_init.1.cls ∈ zGW ∧ (Y_Mo_init.1.cls ≠ "java/lang/invoke/MethodHandle" ∧ Y_Mo_init.1.cls ≠ "java/lang/invoke/VarHandle" ∧ (parseMethodDescriptor Y_Mo_init.1.desc).map (fun d => d.parameters.length) = some 0) ∧ plainName Y_Mo_init.1.cls = true ∧ Y_Mo_init.2.2.1 ≤ 21 ∧ 0 + 1 ≤ Y_Mo_init.2.2.1 ∧ Y_Mo_init.1.name = "<init>" := ⟨rfl, zin 842 (by decide +kernel) (by decide +kernel), zin 841 (by decide +kernel) (by decide +kernel), zin 66 (by decide +kernel) (by decide +kernel), ⟨(by decide +kernel), (by decide +kernel), (by decide +kernel)⟩, (by decide +kernel), by decide, by decide, rfl⟩
theorem v_Mo_isByte : Cond.code Y_Mo_isByte.1 Y_Mo_isByte.2.1 Y_Mo_isByte.2.2.1 Y_Mo_isByte.2.2.2 ∈ zGW ∧ Cond.static Y_Mo_isByte.1 ∈ zGW ∧ Cond.initialized Y_Mo_isByte.1.cls ∈ zGW ∧ (Y_Mo_isByte.1.cls ≠ "java/lang/invoke/MethodHandle" ∧ Y_Mo_isByte.1.cls ≠ "java/lang/invoke/VarHandle" ∧ (parseMethodDescriptor Y_Mo_isByte.1.desc).map (fun d => d.parameters.length) = some 1) ∧ plainName Y_Mo_isByte.1.cls = true ∧ Y_Mo_isByte.2.2.1 ≤ 21 ∧ 1 ≤ Y_Mo_isByte.2.2.1 := ⟨zin 944 (by decide +kernel) (by decide +kernel), zin 943 (by decide +kernel) (by decide +kernel), zin 66 (by decide +kernel) (by decide +kernel), ⟨(by decide +kernel), (by decide +kernel), (by decide +kernel)⟩, (by decide +kernel), by decide, by decide⟩
theorem v_Mo_put : Cond.code Y_Mo_put.1 Y_Mo_put.2.1 Y_Mo_put.2.2.1 Y_Mo_put.2.2.2 ∈ zGW ∧ Cond.instanceMethod Y_Mo_put.1 ∈ zGW ∧ Cond.selects Y_Mo_put.1.cls Y_Mo_put.1 Y_Mo_put.1 ∈ zGW ∧ Cond.initialized Y_Mo_put.1.cls ∈ zGW ∧ (Y_Mo_put.1.cls ≠ "java/lang/invoke/MethodHandle" ∧ Y_Mo_put.1.cls ≠ "java/lang/invoke/VarHandle" ∧ (parseMethodDescriptor Y_Mo_put.1.desc).map (fun d => d.parameters.length) = some 1) ∧ plainName Y_Mo_put.1.cls = true ∧ Y_Mo_put.2.2.1 ≤ 21 ∧ 1 + 1 ≤ Y_Mo_put.2.2.1 := ⟨zin 941 (by decide +kernel) (by decide +kernel), zin 939 (by decide +kernel) (by decide +kernel), zin 940 (by decide +kernel) (by decide +kernel), zin 66 (by decide +kernel) (by decide +kernel), ⟨(by decide +kernel), (by decide +kernel), (by decide +kernel)⟩, (by decide +kernel), by decide, by decide⟩
theorem v_Mo_clear : Cond.code Y_Mo_clear.1 Y_Mo_clear.2.1 Y_Mo_clear.2.2.1 Y_Mo_clear.2.2.2 ∈ zGW ∧ Cond.instanceMethod Y_Mo_clear.1 ∈ zGW ∧ Cond.selects Y_Mo_clear.1.cls Y_Mo_clear.1 Y_Mo_clear.1 ∈ zGW ∧ Cond.initialized Y_Mo_clear.1.cls ∈ zGW ∧ (Y_Mo_clear.1.cls ≠ "java/lang/invoke/MethodHandle" ∧ Y_Mo_clear.1.cls ≠ "java/lang/invoke/VarHandle" ∧ (parseMethodDescriptor Y_Mo_clear.1.desc).map (fun d => d.parameters.length) = some 0) ∧ plainName Y_Mo_clear.1.cls = true ∧ Y_Mo_clear.2.2.1 ≤ 21 ∧ 0 + 1 ≤ Y_Mo_clear.2.2.1 := ⟨zin 948 (by decide +kernel) (by decide +kernel), zin 946 (by decide +kernel) (by decide +kernel), zin 947 (by decide +kernel) (by decide +kernel), zin 66 (by decide +kernel) (by decide +kernel), ⟨(by decide +kernel), (by decide +kernel), (by decide +kernel)⟩, (by decide +kernel), by decide, by decide⟩
theorem v_Mo_length : Cond.code Y_Mo_length.1 Y_Mo_length.2.1 Y_Mo_length.2.2.1 Y_Mo_length.2.2.2 ∈ zGW ∧ Cond.instanceMethod Y_Mo_length.1 ∈ zGW ∧ Cond.selects Y_Mo_length.1.cls Y_Mo_length.1 Y_Mo_length.1 ∈ zGW ∧ Cond.initialized Y_Mo_length.1.cls ∈ zGW ∧ (Y_Mo_length.1.cls ≠ "java/lang/invoke/MethodHandle" ∧ Y_Mo_length.1.cls ≠ "java/lang/invoke/VarHandle" ∧ (parseMethodDescriptor Y_Mo_length.1.desc).map (fun d => d.parameters.length) = some 0) ∧ plainName Y_Mo_length.1.cls = true ∧ Y_Mo_length.2.2.1 ≤ 21 ∧ 0 + 1 ≤ Y_Mo_length.2.2.1 := ⟨zin 952 (by decide +kernel) (by decide +kernel), zin 950 (by decide +kernel) (by decide +kernel), zin 951 (by decide +kernel) (by decide +kernel), zin 66 (by decide +kernel) (by decide +kernel), ⟨(by decide +kernel), (by decide +kernel), (by decide +kernel)⟩, (by decide +kernel), by decide, by decide⟩
theorem v_Mo_at : Cond.code Y_Mo_at.1 Y_Mo_at.2.1 Y_Mo_at.2.2.1 Y_Mo_at.2.2.2 ∈ zGW ∧ Cond.instanceMethod Y_Mo_at.1 ∈ zGW ∧ Cond.selects Y_Mo_at.1.cls Y_Mo_at.1 Y_Mo_at.1 ∈ zGW ∧ Cond.initialized Y_Mo_at.1.cls ∈ zGW ∧ (Y_Mo_at.1.cls ≠ "java/lang/invoke/MethodHandle" ∧ Y_Mo_at.1.cls ≠ "java/lang/invoke/VarHandle" ∧ (parseMethodDescriptor Y_Mo_at.1.desc).map (fun d => d.parameters.length) = some 1) ∧ plainName Y_Mo_at.1.cls = true ∧ Y_Mo_at.2.2.1 ≤ 21 ∧ 1 + 1 ≤ Y_Mo_at.2.2.1 := ⟨zin 956 (by decide +kernel) (by decide +kernel), zin 954 (by decide +kernel) (by decide +kernel), zin 955 (by decide +kernel) (by decide +kernel), zin 66 (by decide +kernel) (by decide +kernel), ⟨(by decide +kernel), (by decide +kernel), (by decide +kernel)⟩, (by decide +kernel), by decide, by decide⟩
theorem v_Mo_size : Cond.code Y_Mo_size.1 Y_Mo_size.2.1 Y_Mo_size.2.2.1 Y_Mo_size.2.2.2 ∈ zGW ∧ Cond.instanceMethod Y_Mo_size.1 ∈ zGW ∧ Cond.selects Y_Mo_size.1.cls Y_Mo_size.1 Y_Mo_size.1 ∈ zGW ∧ Cond.initialized Y_Mo_size.1.cls ∈ zGW ∧ (Y_Mo_size.1.cls ≠ "java/lang/invoke/MethodHandle" ∧ Y_Mo_size.1.cls ≠ "java/lang/invoke/VarHandle" ∧ (parseMethodDescriptor Y_Mo_size.1.desc).map (fun d => d.parameters.length) = some 0) ∧ plainName Y_Mo_size.1.cls = true ∧ Y_Mo_size.2.2.1 ≤ 21 ∧ 0 + 1 ≤ Y_Mo_size.2.2.1 := ⟨zin 960 (by decide +kernel) (by decide +kernel), zin 958 (by decide +kernel) (by decide +kernel), zin 959 (by decide +kernel) (by decide +kernel), zin 66 (by decide +kernel) (by decide +kernel), ⟨(by decide +kernel), (by decide +kernel), (by decide +kernel)⟩, (by decide +kernel), by decide, by decide⟩
theorem v_Mo_byteAt : Cond.code Y_Mo_byteAt.1 Y_Mo_byteAt.2.1 Y_Mo_byteAt.2.2.1 Y_Mo_byteAt.2.2.2 ∈ zGW ∧ Cond.instanceMethod Y_Mo_byteAt.1 ∈ zGW ∧ Cond.selects Y_Mo_byteAt.1.cls Y_Mo_byteAt.1 Y_Mo_byteAt.1 ∈ zGW ∧ Cond.initialized Y_Mo_byteAt.1.cls ∈ zGW ∧ (Y_Mo_byteAt.1.cls ≠ "java/lang/invoke/MethodHandle" ∧ Y_Mo_byteAt.1.cls ≠ "java/lang/invoke/VarHandle" ∧ (parseMethodDescriptor Y_Mo_byteAt.1.desc).map (fun d => d.parameters.length) = some 1) ∧ plainName Y_Mo_byteAt.1.cls = true ∧ Y_Mo_byteAt.2.2.1 ≤ 21 ∧ 1 + 1 ≤ Y_Mo_byteAt.2.2.1 := ⟨zin 964 (by decide +kernel) (by decide +kernel), zin 962 (by decide +kernel) (by decide +kernel), zin 963 (by decide +kernel) (by decide +kernel), zin 66 (by decide +kernel) (by decide +kernel), ⟨(by decide +kernel), (by decide +kernel), (by decide +kernel)⟩, (by decide +kernel), by decide, by decide⟩
theorem v_Mo_poke : Cond.code Y_Mo_poke.1 Y_Mo_poke.2.1 Y_Mo_poke.2.2.1 Y_Mo_poke.2.2.2 ∈ zGW ∧ Cond.instanceMethod Y_Mo_poke.1 ∈ zGW ∧ Cond.selects Y_Mo_poke.1.cls Y_Mo_poke.1 Y_Mo_poke.1 ∈ zGW ∧ Cond.initialized Y_Mo_poke.1.cls ∈ zGW ∧ (Y_Mo_poke.1.cls ≠ "java/lang/invoke/MethodHandle" ∧ Y_Mo_poke.1.cls ≠ "java/lang/invoke/VarHandle" ∧ (parseMethodDescriptor Y_Mo_poke.1.desc).map (fun d => d.parameters.length) = some 2) ∧ plainName Y_Mo_poke.1.cls = true ∧ Y_Mo_poke.2.2.1 ≤ 21 ∧ 2 + 1 ≤ Y_Mo_poke.2.2.1 := ⟨zin 968 (by decide +kernel) (by decide +kernel), zin 966 (by decide +kernel) (by decide +kernel), zin 967 (by decide +kernel) (by decide +kernel), zin 66 (by decide +kernel) (by decide +kernel), ⟨(by decide +kernel), (by decide +kernel), (by decide +kernel)⟩, (by decide +kernel), by decide, by decide⟩
theorem v_Mo_append : Cond.code Y_Mo_append.1 Y_Mo_append.2.1 Y_Mo_append.2.2.1 Y_Mo_append.2.2.2 ∈ zGW ∧ Cond.instanceMethod Y_Mo_append.1 ∈ zGW ∧ Cond.selects Y_Mo_append.1.cls Y_Mo_append.1 Y_Mo_append.1 ∈ zGW ∧ Cond.initialized Y_Mo_append.1.cls ∈ zGW ∧ (Y_Mo_append.1.cls ≠ "java/lang/invoke/MethodHandle" ∧ Y_Mo_append.1.cls ≠ "java/lang/invoke/VarHandle" ∧ (parseMethodDescriptor Y_Mo_append.1.desc).map (fun d => d.parameters.length) = some 1) ∧ plainName Y_Mo_append.1.cls = true ∧ Y_Mo_append.2.2.1 ≤ 21 ∧ 1 + 1 ≤ Y_Mo_append.2.2.1 := ⟨zin 972 (by decide +kernel) (by decide +kernel), zin 970 (by decide +kernel) (by decide +kernel), zin 971 (by decide +kernel) (by decide +kernel), zin 66 (by decide +kernel) (by decide +kernel), ⟨(by decide +kernel), (by decide +kernel), (by decide +kernel)⟩, (by decide +kernel), by decide, by decide⟩
theorem v_Mo_trim : Cond.code Y_Mo_trim.1 Y_Mo_trim.2.1 Y_Mo_trim.2.2.1 Y_Mo_trim.2.2.2 ∈ zGW ∧ Cond.instanceMethod Y_Mo_trim.1 ∈ zGW ∧ Cond.selects Y_Mo_trim.1.cls Y_Mo_trim.1 Y_Mo_trim.1 ∈ zGW ∧ Cond.initialized Y_Mo_trim.1.cls ∈ zGW ∧ (Y_Mo_trim.1.cls ≠ "java/lang/invoke/MethodHandle" ∧ Y_Mo_trim.1.cls ≠ "java/lang/invoke/VarHandle" ∧ (parseMethodDescriptor Y_Mo_trim.1.desc).map (fun d => d.parameters.length) = some 1) ∧ plainName Y_Mo_trim.1.cls = true ∧ Y_Mo_trim.2.2.1 ≤ 21 ∧ 1 + 1 ≤ Y_Mo_trim.2.2.1 := ⟨zin 976 (by decide +kernel) (by decide +kernel), zin 974 (by decide +kernel) (by decide +kernel), zin 975 (by decide +kernel) (by decide +kernel), zin 66 (by decide +kernel) (by decide +kernel), ⟨(by decide +kernel), (by decide +kernel), (by decide +kernel)⟩, (by decide +kernel), by decide, by decide⟩
theorem v_Mo_coded : Cond.code Y_Mo_coded.1 Y_Mo_coded.2.1 Y_Mo_coded.2.2.1 Y_Mo_coded.2.2.2 ∈ zGW ∧ Cond.instanceMethod Y_Mo_coded.1 ∈ zGW ∧ Cond.selects Y_Mo_coded.1.cls Y_Mo_coded.1 Y_Mo_coded.1 ∈ zGW ∧ Cond.initialized Y_Mo_coded.1.cls ∈ zGW ∧ (Y_Mo_coded.1.cls ≠ "java/lang/invoke/MethodHandle" ∧ Y_Mo_coded.1.cls ≠ "java/lang/invoke/VarHandle" ∧ (parseMethodDescriptor Y_Mo_coded.1.desc).map (fun d => d.parameters.length) = some 0) ∧ plainName Y_Mo_coded.1.cls = true ∧ Y_Mo_coded.2.2.1 ≤ 21 ∧ 0 + 1 ≤ Y_Mo_coded.2.2.1 := ⟨zin 980 (by decide +kernel) (by decide +kernel), zin 978 (by decide +kernel) (by decide +kernel), zin 979 (by decide +kernel) (by decide +kernel), zin 66 (by decide +kernel) (by decide +kernel), ⟨(by decide +kernel), (by decide +kernel), (by decide +kernel)⟩, (by decide +kernel), by decide, by decide⟩
theorem v_Mo_copies : Cond.code Y_Mo_copies.1 Y_Mo_copies.2.1 Y_Mo_copies.2.2.1 Y_Mo_copies.2.2.2 ∈ zGW ∧ Cond.instanceMethod Y_Mo_copies.1 ∈ zGW ∧ Cond.selects Y_Mo_copies.1.cls Y_Mo_copies.1 Y_Mo_copies.1 ∈ zGW ∧ Cond.initialized Y_Mo_copies.1.cls ∈ zGW ∧ (Y_Mo_copies.1.cls ≠ "java/lang/invoke/MethodHandle" ∧ Y_Mo_copies.1.cls ≠ "java/lang/invoke/VarHandle" ∧ (parseMethodDescriptor Y_Mo_copies.1.desc).map (fun d => d.parameters.length) = some 0) ∧ plainName Y_Mo_copies.1.cls = true ∧ Y_Mo_copies.2.2.1 ≤ 21 ∧ 0 + 1 ≤ Y_Mo_copies.2.2.1 := ⟨zin 984 (by decide +kernel) (by decide +kernel), zin 982 (by decide +kernel) (by decide +kernel), zin 983 (by decide +kernel) (by decide +kernel), zin 66 (by decide +kernel) (by decide +kernel), ⟨(by decide +kernel), (by decide +kernel), (by decide +kernel)⟩, (by decide +kernel), by decide, by decide⟩
theorem v_Mo_words : Cond.code Y_Mo_words.1 Y_Mo_words.2.1 Y_Mo_words.2.2.1 Y_Mo_words.2.2.2 ∈ zGW ∧ Cond.instanceMethod Y_Mo_words.1 ∈ zGW ∧ Cond.selects Y_Mo_words.1.cls Y_Mo_words.1 Y_Mo_words.1 ∈ zGW ∧ Cond.initialized Y_Mo_words.1.cls ∈ zGW ∧ (Y_Mo_words.1.cls ≠ "java/lang/invoke/MethodHandle" ∧ Y_Mo_words.1.cls ≠ "java/lang/invoke/VarHandle" ∧ (parseMethodDescriptor Y_Mo_words.1.desc).map (fun d => d.parameters.length) = some 0) ∧ plainName Y_Mo_words.1.cls = true ∧ Y_Mo_words.2.2.1 ≤ 21 ∧ 0 + 1 ≤ Y_Mo_words.2.2.1 := ⟨zin 988 (by decide +kernel) (by decide +kernel), zin 986 (by decide +kernel) (by decide +kernel), zin 987 (by decide +kernel) (by decide +kernel), zin 66 (by decide +kernel) (by decide +kernel), ⟨(by decide +kernel), (by decide +kernel), (by decide +kernel)⟩, (by decide +kernel), by decide, by decide⟩
theorem v_Mo_symbols : Cond.code Y_Mo_symbols.1 Y_Mo_symbols.2.1 Y_Mo_symbols.2.2.1 Y_Mo_symbols.2.2.2 ∈ zGW ∧ Cond.instanceMethod Y_Mo_symbols.1 ∈ zGW ∧ Cond.selects Y_Mo_symbols.1.cls Y_Mo_symbols.1 Y_Mo_symbols.1 ∈ zGW ∧ Cond.initialized Y_Mo_symbols.1.cls ∈ zGW ∧ (Y_Mo_symbols.1.cls ≠ "java/lang/invoke/MethodHandle" ∧ Y_Mo_symbols.1.cls ≠ "java/lang/invoke/VarHandle" ∧ (parseMethodDescriptor Y_Mo_symbols.1.desc).map (fun d => d.parameters.length) = some 0) ∧ plainName Y_Mo_symbols.1.cls = true ∧ Y_Mo_symbols.2.2.1 ≤ 21 ∧ 0 + 1 ≤ Y_Mo_symbols.2.2.1 := ⟨zin 992 (by decide +kernel) (by decide +kernel), zin 990 (by decide +kernel) (by decide +kernel), zin 991 (by decide +kernel) (by decide +kernel), zin 66 (by decide +kernel) (by decide +kernel), ⟨(by decide +kernel), (by decide +kernel), (by decide +kernel)⟩, (by decide +kernel), by decide, by decide⟩
theorem v_Mo_spell : Cond.code Y_Mo_spell.1 Y_Mo_spell.2.1 Y_Mo_spell.2.2.1 Y_Mo_spell.2.2.2 ∈ zGW ∧ Cond.static Y_Mo_spell.1 ∈ zGW ∧ Cond.initialized Y_Mo_spell.1.cls ∈ zGW ∧ (Y_Mo_spell.1.cls ≠ "java/lang/invoke/MethodHandle" ∧ Y_Mo_spell.1.cls ≠ "java/lang/invoke/VarHandle" ∧ (parseMethodDescriptor Y_Mo_spell.1.desc).map (fun d => d.parameters.length) = some 5) ∧ plainName Y_Mo_spell.1.cls = true ∧ Y_Mo_spell.2.2.1 ≤ 21 ∧ 5 ≤ Y_Mo_spell.2.2.1 := ⟨zin 1039 (by decide +kernel) (by decide +kernel), zin 1038 (by decide +kernel) (by decide +kernel), zin 66 (by decide +kernel) (by decide +kernel), ⟨(by decide +kernel), (by decide +kernel), (by decide +kernel)⟩, (by decide +kernel), by decide, by decide⟩
theorem v_Mo_letters : Cond.code Y_Mo_letters.1 Y_Mo_letters.2.1 Y_Mo_letters.2.2.1 Y_Mo_letters.2.2.2 ∈ zGW ∧ Cond.static Y_Mo_letters.1 ∈ zGW ∧ Cond.initialized Y_Mo_letters.1.cls ∈ zGW ∧ (Y_Mo_letters.1.cls ≠ "java/lang/invoke/MethodHandle" ∧ Y_Mo_letters.1.cls ≠ "java/lang/invoke/VarHandle" ∧ (parseMethodDescriptor Y_Mo_letters.1.desc).map (fun d => d.parameters.length) = some 2) ∧ plainName Y_Mo_letters.1.cls = true ∧ Y_Mo_letters.2.2.1 ≤ 21 ∧ 2 ≤ Y_Mo_letters.2.2.1 := ⟨zin 1036 (by decide +kernel) (by decide +kernel), zin 1035 (by decide +kernel) (by decide +kernel), zin 66 (by decide +kernel) (by decide +kernel), ⟨(by decide +kernel), (by decide +kernel), (by decide +kernel)⟩, (by decide +kernel), by decide, by decide⟩
theorem v_Mo_letter : Cond.code Y_Mo_letter.1 Y_Mo_letter.2.1 Y_Mo_letter.2.2.1 Y_Mo_letter.2.2.2 ∈ zGW ∧ Cond.static Y_Mo_letter.1 ∈ zGW ∧ Cond.initialized Y_Mo_letter.1.cls ∈ zGW ∧ (Y_Mo_letter.1.cls ≠ "java/lang/invoke/MethodHandle" ∧ Y_Mo_letter.1.cls ≠ "java/lang/invoke/VarHandle" ∧ (parseMethodDescriptor Y_Mo_letter.1.desc).map (fun d => d.parameters.length) = some 3) ∧ plainName Y_Mo_letter.1.cls = true ∧ Y_Mo_letter.2.2.1 ≤ 21 ∧ 3 ≤ Y_Mo_letter.2.2.1 := ⟨zin 1033 (by decide +kernel) (by decide +kernel), zin 1032 (by decide +kernel) (by decide +kernel), zin 66 (by decide +kernel) (by decide +kernel), ⟨(by decide +kernel), (by decide +kernel), (by decide +kernel)⟩, (by decide +kernel), by decide, by decide⟩
theorem v_Mo_bytesOf : Cond.code Y_Mo_bytesOf.1 Y_Mo_bytesOf.2.1 Y_Mo_bytesOf.2.2.1 Y_Mo_bytesOf.2.2.2 ∈ zGW ∧ Cond.static Y_Mo_bytesOf.1 ∈ zGW ∧ Cond.initialized Y_Mo_bytesOf.1.cls ∈ zGW ∧ (Y_Mo_bytesOf.1.cls ≠ "java/lang/invoke/MethodHandle" ∧ Y_Mo_bytesOf.1.cls ≠ "java/lang/invoke/VarHandle" ∧ (parseMethodDescriptor Y_Mo_bytesOf.1.desc).map (fun d => d.parameters.length) = some 2) ∧ plainName Y_Mo_bytesOf.1.cls = true ∧ Y_Mo_bytesOf.2.2.1 ≤ 21 ∧ 2 ≤ Y_Mo_bytesOf.2.2.1 := ⟨zin 1023 (by decide +kernel) (by decide +kernel), zin 1022 (by decide +kernel) (by decide +kernel), zin 66 (by decide +kernel) (by decide +kernel), ⟨(by decide +kernel), (by decide +kernel), (by decide +kernel)⟩, (by decide +kernel), by decide, by decide⟩
theorem v_Mo_byteOf : Cond.code Y_Mo_byteOf.1 Y_Mo_byteOf.2.1 Y_Mo_byteOf.2.2.1 Y_Mo_byteOf.2.2.2 ∈ zGW ∧ Cond.static Y_Mo_byteOf.1 ∈ zGW ∧ Cond.initialized Y_Mo_byteOf.1.cls ∈ zGW ∧ (Y_Mo_byteOf.1.cls ≠ "java/lang/invoke/MethodHandle" ∧ Y_Mo_byteOf.1.cls ≠ "java/lang/invoke/VarHandle" ∧ (parseMethodDescriptor Y_Mo_byteOf.1.desc).map (fun d => d.parameters.length) = some 3) ∧ plainName Y_Mo_byteOf.1.cls = true ∧ Y_Mo_byteOf.2.2.1 ≤ 21 ∧ 3 ≤ Y_Mo_byteOf.2.2.1 := ⟨zin 1030 (by decide +kernel) (by decide +kernel), zin 1029 (by decide +kernel) (by decide +kernel), zin 66 (by decide +kernel) (by decide +kernel), ⟨(by decide +kernel), (by decide +kernel), (by decide +kernel)⟩, (by decide +kernel), by decide, by decide⟩
theorem v_Mo_match : Cond.code Y_Mo_match.1 Y_Mo_match.2.1 Y_Mo_match.2.2.1 Y_Mo_match.2.2.2 ∈ zGW ∧ Cond.instanceMethod Y_Mo_match.1 ∈ zGW ∧ Cond.selects Y_Mo_match.1.cls Y_Mo_match.1 Y_Mo_match.1 ∈ zGW ∧ Cond.initialized Y_Mo_match.1.cls ∈ zGW ∧ (Y_Mo_match.1.cls ≠ "java/lang/invoke/MethodHandle" ∧ Y_Mo_match.1.cls ≠ "java/lang/invoke/VarHandle" ∧ (parseMethodDescriptor Y_Mo_match.1.desc).map (fun d => d.parameters.length) = some 2) ∧ plainName Y_Mo_match.1.cls = true ∧ Y_Mo_match.2.2.1 ≤ 21 ∧ 2 + 1 ≤ Y_Mo_match.2.2.1 := ⟨zin 1016 (by decide +kernel) (by decide +kernel), zin 1015 (by decide +kernel) (by decide +kernel), zin 28 (by decide +kernel) (by decide +kernel), zin 66 (by decide +kernel) (by decide +kernel), ⟨(by decide +kernel), (by decide +kernel), (by decide +kernel)⟩, (by decide +kernel), by decide, by decide⟩
theorem v_Mo_stands : Cond.code Y_Mo_stands.1 Y_Mo_stands.2.1 Y_Mo_stands.2.2.1 Y_Mo_stands.2.2.2 ∈ zGW ∧ Cond.instanceMethod Y_Mo_stands.1 ∈ zGW ∧ Cond.selects Y_Mo_stands.1.cls Y_Mo_stands.1 Y_Mo_stands.1 ∈ zGW ∧ Cond.initialized Y_Mo_stands.1.cls ∈ zGW ∧ (Y_Mo_stands.1.cls ≠ "java/lang/invoke/MethodHandle" ∧ Y_Mo_stands.1.cls ≠ "java/lang/invoke/VarHandle" ∧ (parseMethodDescriptor Y_Mo_stands.1.desc).map (fun d => d.parameters.length) = some 4) ∧ plainName Y_Mo_stands.1.cls = true ∧ Y_Mo_stands.2.2.1 ≤ 21 ∧ 4 + 1 ≤ Y_Mo_stands.2.2.1 := ⟨zin 1027 (by decide +kernel) (by decide +kernel), zin 1026 (by decide +kernel) (by decide +kernel), zin 30 (by decide +kernel) (by decide +kernel), zin 66 (by decide +kernel) (by decide +kernel), ⟨(by decide +kernel), (by decide +kernel), (by decide +kernel)⟩, (by decide +kernel), by decide, by decide⟩
theorem v_Mo_seek : Cond.code Y_Mo_seek.1 Y_Mo_seek.2.1 Y_Mo_seek.2.2.1 Y_Mo_seek.2.2.2 ∈ zGW ∧ Cond.instanceMethod Y_Mo_seek.1 ∈ zGW ∧ Cond.selects Y_Mo_seek.1.cls Y_Mo_seek.1 Y_Mo_seek.1 ∈ zGW ∧ Cond.initialized Y_Mo_seek.1.cls ∈ zGW ∧ (Y_Mo_seek.1.cls ≠ "java/lang/invoke/MethodHandle" ∧ Y_Mo_seek.1.cls ≠ "java/lang/invoke/VarHandle" ∧ (parseMethodDescriptor Y_Mo_seek.1.desc).map (fun d => d.parameters.length) = some 2) ∧ plainName Y_Mo_seek.1.cls = true ∧ Y_Mo_seek.2.2.1 ≤ 21 ∧ 2 + 1 ≤ Y_Mo_seek.2.2.1 := ⟨zin 1020 (by decide +kernel) (by decide +kernel), zin 1019 (by decide +kernel) (by decide +kernel), zin 29 (by decide +kernel) (by decide +kernel), zin 66 (by decide +kernel) (by decide +kernel), ⟨(by decide +kernel), (by decide +kernel), (by decide +kernel)⟩, (by decide +kernel), by decide, by decide⟩
theorem v_Mo_lowest : Cond.code Y_Mo_lowest.1 Y_Mo_lowest.2.1 Y_Mo_lowest.2.2.1 Y_Mo_lowest.2.2.2 ∈ zGW ∧ Cond.static Y_Mo_lowest.1 ∈ zGW ∧ Cond.initialized Y_Mo_lowest.1.cls ∈ zGW ∧ (Y_Mo_lowest.1.cls ≠ "java/lang/invoke/MethodHandle" ∧ Y_Mo_lowest.1.cls ≠ "java/lang/invoke/VarHandle" ∧ (parseMethodDescriptor Y_Mo_lowest.1.desc).map (fun d => d.parameters.length) = some 1) ∧ plainName Y_Mo_lowest.1.cls = true ∧ Y_Mo_lowest.2.2.1 ≤ 21 ∧ 1 ≤ Y_Mo_lowest.2.2.1 := ⟨zin 1053 (by decide +kernel) (by decide +kernel), zin 1052 (by decide +kernel) (by decide +kernel), zin 66 (by decide +kernel) (by decide +kernel), ⟨(by decide +kernel), (by decide +kernel), (by decide +kernel)⟩, (by decide +kernel), by decide, by decide⟩
theorem v_Mo_extra : Cond.code Y_Mo_extra.1 Y_Mo_extra.2.1 Y_Mo_extra.2.2.1 Y_Mo_extra.2.2.2 ∈ zGW ∧ Cond.static Y_Mo_extra.1 ∈ zGW ∧ Cond.initialized Y_Mo_extra.1.cls ∈ zGW ∧ (Y_Mo_extra.1.cls ≠ "java/lang/invoke/MethodHandle" ∧ Y_Mo_extra.1.cls ≠ "java/lang/invoke/VarHandle" ∧ (parseMethodDescriptor Y_Mo_extra.1.desc).map (fun d => d.parameters.length) = some 1) ∧ plainName Y_Mo_extra.1.cls = true ∧ Y_Mo_extra.2.2.1 ≤ 21 ∧ 1 ≤ Y_Mo_extra.2.2.1 := ⟨zin 1085 (by decide +kernel) (by decide +kernel), zin 1084 (by decide +kernel) (by decide +kernel), zin 66 (by decide +kernel) (by decide +kernel), ⟨(by decide +kernel), (by decide +kernel), (by decide +kernel)⟩, (by decide +kernel), by decide, by decide⟩
theorem v_Mo_distance : Cond.code Y_Mo_distance.1 Y_Mo_distance.2.1 Y_Mo_distance.2.2.1 Y_Mo_distance.2.2.2 ∈ zGW ∧ Cond.instanceMethod Y_Mo_distance.1 ∈ zGW ∧ Cond.selects Y_Mo_distance.1.cls Y_Mo_distance.1 Y_Mo_distance.1 ∈ zGW ∧ Cond.initialized Y_Mo_distance.1.cls ∈ zGW ∧ (Y_Mo_distance.1.cls ≠ "java/lang/invoke/MethodHandle" ∧ Y_Mo_distance.1.cls ≠ "java/lang/invoke/VarHandle" ∧ (parseMethodDescriptor Y_Mo_distance.1.desc).map (fun d => d.parameters.length) = some 2) ∧ plainName Y_Mo_distance.1.cls = true ∧ Y_Mo_distance.2.2.1 ≤ 21 ∧ 2 + 1 ≤ Y_Mo_distance.2.2.1 := ⟨zin 1050 (by decide +kernel) (by decide +kernel), zin 1049 (by decide +kernel) (by decide +kernel), zin 32 (by decide +kernel) (by decide +kernel), zin 66 (by decide +kernel) (by decide +kernel), ⟨(by decide +kernel), (by decide +kernel), (by decide +kernel)⟩, (by decide +kernel), by decide, by decide⟩
theorem v_Mo_remember : Cond.code Y_Mo_remember.1 Y_Mo_remember.2.1 Y_Mo_remember.2.2.1 Y_Mo_remember.2.2.2 ∈ zGW ∧ Cond.instanceMethod Y_Mo_remember.1 ∈ zGW ∧ Cond.selects Y_Mo_remember.1.cls Y_Mo_remember.1 Y_Mo_remember.1 ∈ zGW ∧ Cond.initialized Y_Mo_remember.1.cls ∈ zGW ∧ (Y_Mo_remember.1.cls ≠ "java/lang/invoke/MethodHandle" ∧ Y_Mo_remember.1.cls ≠ "java/lang/invoke/VarHandle" ∧ (parseMethodDescriptor Y_Mo_remember.1.desc).map (fun d => d.parameters.length) = some 1) ∧ plainName Y_Mo_remember.1.cls = true ∧ Y_Mo_remember.2.2.1 ≤ 21 ∧ 1 + 1 ≤ Y_Mo_remember.2.2.1 := ⟨zin 1057 (by decide +kernel) (by decide +kernel), zin 1056 (by decide +kernel) (by decide +kernel), zin 33 (by decide +kernel) (by decide +kernel), zin 66 (by decide +kernel) (by decide +kernel), ⟨(by decide +kernel), (by decide +kernel), (by decide +kernel)⟩, (by decide +kernel), by decide, by decide⟩
theorem v_Mo_command : Cond.code Y_Mo_command.1 Y_Mo_command.2.1 Y_Mo_command.2.2.1 Y_Mo_command.2.2.2 ∈ zGW ∧ Cond.instanceMethod Y_Mo_command.1 ∈ zGW ∧ Cond.selects Y_Mo_command.1.cls Y_Mo_command.1 Y_Mo_command.1 ∈ zGW ∧ Cond.initialized Y_Mo_command.1.cls ∈ zGW ∧ (Y_Mo_command.1.cls ≠ "java/lang/invoke/MethodHandle" ∧ Y_Mo_command.1.cls ≠ "java/lang/invoke/VarHandle" ∧ (parseMethodDescriptor Y_Mo_command.1.desc).map (fun d => d.parameters.length) = some 5) ∧ plainName Y_Mo_command.1.cls = true ∧ Y_Mo_command.2.2.1 ≤ 21 ∧ 5 + 1 ≤ Y_Mo_command.2.2.1 := ⟨zin 1046 (by decide +kernel) (by decide +kernel), zin 1045 (by decide +kernel) (by decide +kernel), zin 31 (by decide +kernel) (by decide +kernel), zin 66 (by decide +kernel) (by decide +kernel), ⟨(by decide +kernel), (by decide +kernel), (by decide +kernel)⟩, (by decide +kernel), by decide, by decide⟩
theorem v_Mo_parse : Cond.code Y_Mo_parse.1 Y_Mo_parse.2.1 Y_Mo_parse.2.2.1 Y_Mo_parse.2.2.2 ∈ zGW ∧ Cond.instanceMethod Y_Mo_parse.1 ∈ zGW ∧ Cond.selects Y_Mo_parse.1.cls Y_Mo_parse.1 Y_Mo_parse.1 ∈ zGW ∧ Cond.initialized Y_Mo_parse.1.cls ∈ zGW ∧ (Y_Mo_parse.1.cls ≠ "java/lang/invoke/MethodHandle" ∧ Y_Mo_parse.1.cls ≠ "java/lang/invoke/VarHandle" ∧ (parseMethodDescriptor Y_Mo_parse.1.desc).map (fun d => d.parameters.length) = some 2) ∧ plainName Y_Mo_parse.1.cls = true ∧ Y_Mo_parse.2.2.1 ≤ 21 ∧ 2 + 1 ≤ Y_Mo_parse.2.2.1 := ⟨zin 1012 (by decide +kernel) (by decide +kernel), zin 1011 (by decide +kernel) (by decide +kernel), zin 27 (by decide +kernel) (by decide +kernel), zin 66 (by decide +kernel) (by decide +kernel), ⟨(by decide +kernel), (by decide +kernel), (by decide +kernel)⟩, (by decide +kernel), by decide, by decide⟩
theorem v_Mo_forget : Cond.code Y_Mo_forget.1 Y_Mo_forget.2.1 Y_Mo_forget.2.2.1 Y_Mo_forget.2.2.2 ∈ zGW ∧ Cond.instanceMethod Y_Mo_forget.1 ∈ zGW ∧ Cond.selects Y_Mo_forget.1.cls Y_Mo_forget.1 Y_Mo_forget.1 ∈ zGW ∧ Cond.initialized Y_Mo_forget.1.cls ∈ zGW ∧ (Y_Mo_forget.1.cls ≠ "java/lang/invoke/MethodHandle" ∧ Y_Mo_forget.1.cls ≠ "java/lang/invoke/VarHandle" ∧ (parseMethodDescriptor Y_Mo_forget.1.desc).map (fun d => d.parameters.length) = some 0) ∧ plainName Y_Mo_forget.1.cls = true ∧ Y_Mo_forget.2.2.1 ≤ 21 ∧ 0 + 1 ≤ Y_Mo_forget.2.2.1 := ⟨zin 1065 (by decide +kernel) (by decide +kernel), zin 1064 (by decide +kernel) (by decide +kernel), zin 35 (by decide +kernel) (by decide +kernel), zin 66 (by decide +kernel) (by decide +kernel), ⟨(by decide +kernel), (by decide +kernel), (by decide +kernel)⟩, (by decide +kernel), by decide, by decide⟩
theorem v_Mo_weigh : Cond.code Y_Mo_weigh.1 Y_Mo_weigh.2.1 Y_Mo_weigh.2.2.1 Y_Mo_weigh.2.2.2 ∈ zGW ∧ Cond.instanceMethod Y_Mo_weigh.1 ∈ zGW ∧ Cond.selects Y_Mo_weigh.1.cls Y_Mo_weigh.1 Y_Mo_weigh.1 ∈ zGW ∧ Cond.initialized Y_Mo_weigh.1.cls ∈ zGW ∧ (Y_Mo_weigh.1.cls ≠ "java/lang/invoke/MethodHandle" ∧ Y_Mo_weigh.1.cls ≠ "java/lang/invoke/VarHandle" ∧ (parseMethodDescriptor Y_Mo_weigh.1.desc).map (fun d => d.parameters.length) = some 2) ∧ plainName Y_Mo_weigh.1.cls = true ∧ Y_Mo_weigh.2.2.1 ≤ 21 ∧ 2 + 1 ≤ Y_Mo_weigh.2.2.1 := ⟨zin 1096 (by decide +kernel) (by decide +kernel), zin 1095 (by decide +kernel) (by decide +kernel), zin 39 (by decide +kernel) (by decide +kernel), zin 66 (by decide +kernel) (by decide +kernel), ⟨(by decide +kernel), (by decide +kernel), (by decide +kernel)⟩, (by decide +kernel), by decide, by decide⟩
theorem v_Mo_share : Cond.code Y_Mo_share.1 Y_Mo_share.2.1 Y_Mo_share.2.2.1 Y_Mo_share.2.2.2 ∈ zGW ∧ Cond.instanceMethod Y_Mo_share.1 ∈ zGW ∧ Cond.selects Y_Mo_share.1.cls Y_Mo_share.1 Y_Mo_share.1 ∈ zGW ∧ Cond.initialized Y_Mo_share.1.cls ∈ zGW ∧ (Y_Mo_share.1.cls ≠ "java/lang/invoke/MethodHandle" ∧ Y_Mo_share.1.cls ≠ "java/lang/invoke/VarHandle" ∧ (parseMethodDescriptor Y_Mo_share.1.desc).map (fun d => d.parameters.length) = some 3) ∧ plainName Y_Mo_share.1.cls = true ∧ Y_Mo_share.2.2.1 ≤ 21 ∧ 3 + 1 ≤ Y_Mo_share.2.2.1 := ⟨zin 1100 (by decide +kernel) (by decide +kernel), zin 1099 (by decide +kernel) (by decide +kernel), zin 40 (by decide +kernel) (by decide +kernel), zin 66 (by decide +kernel) (by decide +kernel), ⟨(by decide +kernel), (by decide +kernel), (by decide +kernel)⟩, (by decide +kernel), by decide, by decide⟩
theorem v_Mo_assign : Cond.code Y_Mo_assign.1 Y_Mo_assign.2.1 Y_Mo_assign.2.2.1 Y_Mo_assign.2.2.2 ∈ zGW ∧ Cond.instanceMethod Y_Mo_assign.1 ∈ zGW ∧ Cond.selects Y_Mo_assign.1.cls Y_Mo_assign.1 Y_Mo_assign.1 ∈ zGW ∧ Cond.initialized Y_Mo_assign.1.cls ∈ zGW ∧ (Y_Mo_assign.1.cls ≠ "java/lang/invoke/MethodHandle" ∧ Y_Mo_assign.1.cls ≠ "java/lang/invoke/VarHandle" ∧ (parseMethodDescriptor Y_Mo_assign.1.desc).map (fun d => d.parameters.length) = some 2) ∧ plainName Y_Mo_assign.1.cls = true ∧ Y_Mo_assign.2.2.1 ≤ 21 ∧ 2 + 1 ≤ Y_Mo_assign.2.2.1 := ⟨zin 1104 (by decide +kernel) (by decide +kernel), zin 1103 (by decide +kernel) (by decide +kernel), zin 41 (by decide +kernel) (by decide +kernel), zin 66 (by decide +kernel) (by decide +kernel), ⟨(by decide +kernel), (by decide +kernel), (by decide +kernel)⟩, (by decide +kernel), by decide, by decide⟩
theorem v_Mo_number : Cond.code Y_Mo_number.1 Y_Mo_number.2.1 Y_Mo_number.2.2.1 Y_Mo_number.2.2.2 ∈ zGW ∧ Cond.instanceMethod Y_Mo_number.1 ∈ zGW ∧ Cond.selects Y_Mo_number.1.cls Y_Mo_number.1 Y_Mo_number.1 ∈ zGW ∧ Cond.initialized Y_Mo_number.1.cls ∈ zGW ∧ (Y_Mo_number.1.cls ≠ "java/lang/invoke/MethodHandle" ∧ Y_Mo_number.1.cls ≠ "java/lang/invoke/VarHandle" ∧ (parseMethodDescriptor Y_Mo_number.1.desc).map (fun d => d.parameters.length) = some 2) ∧ plainName Y_Mo_number.1.cls = true ∧ Y_Mo_number.2.2.1 ≤ 21 ∧ 2 + 1 ≤ Y_Mo_number.2.2.1 := ⟨zin 1004 (by decide +kernel) (by decide +kernel), zin 1003 (by decide +kernel) (by decide +kernel), zin 25 (by decide +kernel) (by decide +kernel), zin 66 (by decide +kernel) (by decide +kernel), ⟨(by decide +kernel), (by decide +kernel), (by decide +kernel)⟩, (by decide +kernel), by decide, by decide⟩
theorem v_Mo_wide : Cond.code Y_Mo_wide.1 Y_Mo_wide.2.1 Y_Mo_wide.2.2.1 Y_Mo_wide.2.2.2 ∈ zGW ∧ Cond.static Y_Mo_wide.1 ∈ zGW ∧ Cond.initialized Y_Mo_wide.1.cls ∈ zGW ∧ (Y_Mo_wide.1.cls ≠ "java/lang/invoke/MethodHandle" ∧ Y_Mo_wide.1.cls ≠ "java/lang/invoke/VarHandle" ∧ (parseMethodDescriptor Y_Mo_wide.1.desc).map (fun d => d.parameters.length) = some 1) ∧ plainName Y_Mo_wide.1.cls = true ∧ Y_Mo_wide.2.2.1 ≤ 21 ∧ 1 ≤ Y_Mo_wide.2.2.1 := ⟨zin 1111 (by decide +kernel) (by decide +kernel), zin 1110 (by decide +kernel) (by decide +kernel), zin 66 (by decide +kernel) (by decide +kernel), ⟨(by decide +kernel), (by decide +kernel), (by decide +kernel)⟩, (by decide +kernel), by decide, by decide⟩
theorem v_Mo_symbolsOf : Cond.code Y_Mo_symbolsOf.1 Y_Mo_symbolsOf.2.1 Y_Mo_symbolsOf.2.2.1 Y_Mo_symbolsOf.2.2.2 ∈ zGW ∧ Cond.static Y_Mo_symbolsOf.1 ∈ zGW ∧ Cond.initialized Y_Mo_symbolsOf.1.cls ∈ zGW ∧ (Y_Mo_symbolsOf.1.cls ≠ "java/lang/invoke/MethodHandle" ∧ Y_Mo_symbolsOf.1.cls ≠ "java/lang/invoke/VarHandle" ∧ (parseMethodDescriptor Y_Mo_symbolsOf.1.desc).map (fun d => d.parameters.length) = some 1) ∧ plainName Y_Mo_symbolsOf.1.cls = true ∧ Y_Mo_symbolsOf.2.2.1 ≤ 21 ∧ 1 ≤ Y_Mo_symbolsOf.2.2.1 := ⟨zin 1092 (by decide +kernel) (by decide +kernel), zin 1091 (by decide +kernel) (by decide +kernel), zin 66 (by decide +kernel) (by decide +kernel), ⟨(by decide +kernel), (by decide +kernel), (by decide +kernel)⟩, (by decide +kernel), by decide, by decide⟩
theorem v_Mo_describe : Cond.code Y_Mo_describe.1 Y_Mo_describe.2.1 Y_Mo_describe.2.2.1 Y_Mo_describe.2.2.2 ∈ zGW ∧ Cond.instanceMethod Y_Mo_describe.1 ∈ zGW ∧ Cond.selects Y_Mo_describe.1.cls Y_Mo_describe.1 Y_Mo_describe.1 ∈ zGW ∧ Cond.initialized Y_Mo_describe.1.cls ∈ zGW ∧ (Y_Mo_describe.1.cls ≠ "java/lang/invoke/MethodHandle" ∧ Y_Mo_describe.1.cls ≠ "java/lang/invoke/VarHandle" ∧ (parseMethodDescriptor Y_Mo_describe.1.desc).map (fun d => d.parameters.length) = some 1) ∧ plainName Y_Mo_describe.1.cls = true ∧ Y_Mo_describe.2.2.1 ≤ 21 ∧ 1 + 1 ≤ Y_Mo_describe.2.2.1 := ⟨zin 1089 (by decide +kernel) (by decide +kernel), zin 1088 (by decide +kernel) (by decide +kernel), zin 38 (by decide +kernel) (by decide +kernel), zin 66 (by decide +kernel) (by decide +kernel), ⟨(by decide +kernel), (by decide +kernel), (by decide +kernel)⟩, (by decide +kernel), by decide, by decide⟩
theorem v_Mo_full : Cond.code Y_Mo_full.1 Y_Mo_full.2.1 Y_Mo_full.2.2.1 Y_Mo_full.2.2.2 ∈ zGW ∧ Cond.instanceMethod Y_Mo_full.1 ∈ zGW ∧ Cond.selects Y_Mo_full.1.cls Y_Mo_full.1 Y_Mo_full.1 ∈ zGW ∧ Cond.initialized Y_Mo_full.1.cls ∈ zGW ∧ (Y_Mo_full.1.cls ≠ "java/lang/invoke/MethodHandle" ∧ Y_Mo_full.1.cls ≠ "java/lang/invoke/VarHandle" ∧ (parseMethodDescriptor Y_Mo_full.1.desc).map (fun d => d.parameters.length) = some 2) ∧ plainName Y_Mo_full.1.cls = true ∧ Y_Mo_full.2.2.1 ≤ 21 ∧ 2 + 1 ≤ Y_Mo_full.2.2.1 := ⟨zin 1108 (by decide +kernel) (by decide +kernel), zin 1107 (by decide +kernel) (by decide +kernel), zin 42 (by decide +kernel) (by decide +kernel), zin 66 (by decide +kernel) (by decide +kernel), ⟨(by decide +kernel), (by decide +kernel), (by decide +kernel)⟩, (by decide +kernel), by decide, by decide⟩
theorem v_Mo_symbol : Cond.code Y_Mo_symbol.1 Y_Mo_symbol.2.1 Y_Mo_symbol.2.2.1 Y_Mo_symbol.2.2.2 ∈ zGW ∧ Cond.instanceMethod Y_Mo_symbol.1 ∈ zGW ∧ Cond.selects Y_Mo_symbol.1.cls Y_Mo_symbol.1 Y_Mo_symbol.1 ∈ zGW ∧ Cond.initialized Y_Mo_symbol.1.cls ∈ zGW ∧ (Y_Mo_symbol.1.cls ≠ "java/lang/invoke/MethodHandle" ∧ Y_Mo_symbol.1.cls ≠ "java/lang/invoke/VarHandle" ∧ (parseMethodDescriptor Y_Mo_symbol.1.desc).map (fun d => d.parameters.length) = some 2) ∧ plainName Y_Mo_symbol.1.cls = true ∧ Y_Mo_symbol.2.2.1 ≤ 21 ∧ 2 + 1 ≤ Y_Mo_symbol.2.2.1 := ⟨zin 1076 (by decide +kernel) (by decide +kernel), zin 1075 (by decide +kernel) (by decide +kernel), zin 37 (by decide +kernel) (by decide +kernel), zin 66 (by decide +kernel) (by decide +kernel), ⟨(by decide +kernel), (by decide +kernel), (by decide +kernel)⟩, (by decide +kernel), by decide, by decide⟩
theorem v_Mo_insertKind : Cond.code Y_Mo_insertKind.1 Y_Mo_insertKind.2.1 Y_Mo_insertKind.2.2.1 Y_Mo_insertKind.2.2.2 ∈ zGW ∧ Cond.static Y_Mo_insertKind.1 ∈ zGW ∧ Cond.initialized Y_Mo_insertKind.1.cls ∈ zGW ∧ (Y_Mo_insertKind.1.cls ≠ "java/lang/invoke/MethodHandle" ∧ Y_Mo_insertKind.1.cls ≠ "java/lang/invoke/VarHandle" ∧ (parseMethodDescriptor Y_Mo_insertKind.1.desc).map (fun d => d.parameters.length) = some 1) ∧ plainName Y_Mo_insertKind.1.cls = true ∧ Y_Mo_insertKind.2.2.1 ≤ 21 ∧ 1 ≤ Y_Mo_insertKind.2.2.1 := ⟨zin 1072 (by decide +kernel) (by decide +kernel), zin 1071 (by decide +kernel) (by decide +kernel), zin 66 (by decide +kernel) (by decide +kernel), ⟨(by decide +kernel), (by decide +kernel), (by decide +kernel)⟩, (by decide +kernel), by decide, by decide⟩
theorem v_Mo_copyBits : Cond.code Y_Mo_copyBits.1 Y_Mo_copyBits.2.1 Y_Mo_copyBits.2.2.1 Y_Mo_copyBits.2.2.2 ∈ zGW ∧ Cond.static Y_Mo_copyBits.1 ∈ zGW ∧ Cond.initialized Y_Mo_copyBits.1.cls ∈ zGW ∧ (Y_Mo_copyBits.1.cls ≠ "java/lang/invoke/MethodHandle" ∧ Y_Mo_copyBits.1.cls ≠ "java/lang/invoke/VarHandle" ∧ (parseMethodDescriptor Y_Mo_copyBits.1.desc).map (fun d => d.parameters.length) = some 1) ∧ plainName Y_Mo_copyBits.1.cls = true ∧ Y_Mo_copyBits.2.2.1 ≤ 21 ∧ 1 ≤ Y_Mo_copyBits.2.2.1 := ⟨zin 1082 (by decide +kernel) (by decide +kernel), zin 1081 (by decide +kernel) (by decide +kernel), zin 66 (by decide +kernel) (by decide +kernel), ⟨(by decide +kernel), (by decide +kernel), (by decide +kernel)⟩, (by decide +kernel), by decide, by decide⟩
theorem v_Mo_copyFrom : Cond.code Y_Mo_copyFrom.1 Y_Mo_copyFrom.2.1 Y_Mo_copyFrom.2.2.1 Y_Mo_copyFrom.2.2.2 ∈ zGW ∧ Cond.static Y_Mo_copyFrom.1 ∈ zGW ∧ Cond.initialized Y_Mo_copyFrom.1.cls ∈ zGW ∧ (Y_Mo_copyFrom.1.cls ≠ "java/lang/invoke/MethodHandle" ∧ Y_Mo_copyFrom.1.cls ≠ "java/lang/invoke/VarHandle" ∧ (parseMethodDescriptor Y_Mo_copyFrom.1.desc).map (fun d => d.parameters.length) = some 1) ∧ plainName Y_Mo_copyFrom.1.cls = true ∧ Y_Mo_copyFrom.2.2.1 ≤ 21 ∧ 1 ≤ Y_Mo_copyFrom.2.2.1 := ⟨zin 1079 (by decide +kernel) (by decide +kernel), zin 1078 (by decide +kernel) (by decide +kernel), zin 66 (by decide +kernel) (by decide +kernel), ⟨(by decide +kernel), (by decide +kernel), (by decide +kernel)⟩, (by decide +kernel), by decide, by decide⟩
theorem v_Mo_through : Cond.code Y_Mo_through.1 Y_Mo_through.2.1 Y_Mo_through.2.2.1 Y_Mo_through.2.2.2 ∈ zGW ∧ Cond.instanceMethod Y_Mo_through.1 ∈ zGW ∧ Cond.selects Y_Mo_through.1.cls Y_Mo_through.1 Y_Mo_through.1 ∈ zGW ∧ Cond.initialized Y_Mo_through.1.cls ∈ zGW ∧ (Y_Mo_through.1.cls ≠ "java/lang/invoke/MethodHandle" ∧ Y_Mo_through.1.cls ≠ "java/lang/invoke/VarHandle" ∧ (parseMethodDescriptor Y_Mo_through.1.desc).map (fun d => d.parameters.length) = some 3) ∧ plainName Y_Mo_through.1.cls = true ∧ Y_Mo_through.2.2.1 ≤ 21 ∧ 3 + 1 ≤ Y_Mo_through.2.2.1 := ⟨zin 1069 (by decide +kernel) (by decide +kernel), zin 1068 (by decide +kernel) (by decide +kernel), zin 36 (by decide +kernel) (by decide +kernel), zin 66 (by decide +kernel) (by decide +kernel), ⟨(by decide +kernel), (by decide +kernel), (by decide +kernel)⟩, (by decide +kernel), by decide, by decide⟩
theorem v_Mo_block : Cond.code Y_Mo_block.1 Y_Mo_block.2.1 Y_Mo_block.2.2.1 Y_Mo_block.2.2.2 ∈ zGW ∧ Cond.instanceMethod Y_Mo_block.1 ∈ zGW ∧ Cond.selects Y_Mo_block.1.cls Y_Mo_block.1 Y_Mo_block.1 ∈ zGW ∧ Cond.initialized Y_Mo_block.1.cls ∈ zGW ∧ (Y_Mo_block.1.cls ≠ "java/lang/invoke/MethodHandle" ∧ Y_Mo_block.1.cls ≠ "java/lang/invoke/VarHandle" ∧ (parseMethodDescriptor Y_Mo_block.1.desc).map (fun d => d.parameters.length) = some 3) ∧ plainName Y_Mo_block.1.cls = true ∧ Y_Mo_block.2.2.1 ≤ 21 ∧ 3 + 1 ≤ Y_Mo_block.2.2.1 := ⟨zin 1061 (by decide +kernel) (by decide +kernel), zin 1060 (by decide +kernel) (by decide +kernel), zin 34 (by decide +kernel) (by decide +kernel), zin 66 (by decide +kernel) (by decide +kernel), ⟨(by decide +kernel), (by decide +kernel), (by decide +kernel)⟩, (by decide +kernel), by decide, by decide⟩
theorem v_Mo_counts : Cond.code Y_Mo_counts.1 Y_Mo_counts.2.1 Y_Mo_counts.2.2.1 Y_Mo_counts.2.2.2 ∈ zGW ∧ Cond.instanceMethod Y_Mo_counts.1 ∈ zGW ∧ Cond.selects Y_Mo_counts.1.cls Y_Mo_counts.1 Y_Mo_counts.1 ∈ zGW ∧ Cond.initialized Y_Mo_counts.1.cls ∈ zGW ∧ (Y_Mo_counts.1.cls ≠ "java/lang/invoke/MethodHandle" ∧ Y_Mo_counts.1.cls ≠ "java/lang/invoke/VarHandle" ∧ (parseMethodDescriptor Y_Mo_counts.1.desc).map (fun d => d.parameters.length) = some 0) ∧ plainName Y_Mo_counts.1.cls = true ∧ Y_Mo_counts.2.2.1 ≤ 21 ∧ 0 + 1 ≤ Y_Mo_counts.2.2.1 := ⟨zin 1000 (by decide +kernel) (by decide +kernel), zin 999 (by decide +kernel) (by decide +kernel), zin 24 (by decide +kernel) (by decide +kernel), zin 66 (by decide +kernel) (by decide +kernel), ⟨(by decide +kernel), (by decide +kernel), (by decide +kernel)⟩, (by decide +kernel), by decide, by decide⟩
theorem v_Mo_tally : Cond.code Y_Mo_tally.1 Y_Mo_tally.2.1 Y_Mo_tally.2.2.1 Y_Mo_tally.2.2.2 ∈ zGW ∧ Cond.instanceMethod Y_Mo_tally.1 ∈ zGW ∧ Cond.selects Y_Mo_tally.1.cls Y_Mo_tally.1 Y_Mo_tally.1 ∈ zGW ∧ Cond.initialized Y_Mo_tally.1.cls ∈ zGW ∧ (Y_Mo_tally.1.cls ≠ "java/lang/invoke/MethodHandle" ∧ Y_Mo_tally.1.cls ≠ "java/lang/invoke/VarHandle" ∧ (parseMethodDescriptor Y_Mo_tally.1.desc).map (fun d => d.parameters.length) = some 0) ∧ plainName Y_Mo_tally.1.cls = true ∧ Y_Mo_tally.2.2.1 ≤ 21 ∧ 0 + 1 ≤ Y_Mo_tally.2.2.1 := ⟨zin 1115 (by decide +kernel) (by decide +kernel), zin 1114 (by decide +kernel) (by decide +kernel), zin 43 (by decide +kernel) (by decide +kernel), zin 66 (by decide +kernel) (by decide +kernel), ⟨(by decide +kernel), (by decide +kernel), (by decide +kernel)⟩, (by decide +kernel), by decide, by decide⟩
theorem v_Mo_choose : Cond.code Y_Mo_choose.1 Y_Mo_choose.2.1 Y_Mo_choose.2.2.1 Y_Mo_choose.2.2.2 ∈ zGW ∧ Cond.instanceMethod Y_Mo_choose.1 ∈ zGW ∧ Cond.selects Y_Mo_choose.1.cls Y_Mo_choose.1 Y_Mo_choose.1 ∈ zGW ∧ Cond.initialized Y_Mo_choose.1.cls ∈ zGW ∧ (Y_Mo_choose.1.cls ≠ "java/lang/invoke/MethodHandle" ∧ Y_Mo_choose.1.cls ≠ "java/lang/invoke/VarHandle" ∧ (parseMethodDescriptor Y_Mo_choose.1.desc).map (fun d => d.parameters.length) = some 2) ∧ plainName Y_Mo_choose.1.cls = true ∧ Y_Mo_choose.2.2.1 ≤ 21 ∧ 2 + 1 ≤ Y_Mo_choose.2.2.1 := ⟨zin 1008 (by decide +kernel) (by decide +kernel), zin 1007 (by decide +kernel) (by decide +kernel), zin 26 (by decide +kernel) (by decide +kernel), zin 66 (by decide +kernel) (by decide +kernel), ⟨(by decide +kernel), (by decide +kernel), (by decide +kernel)⟩, (by decide +kernel), by decide, by decide⟩
theorem v_Mo_pack : Cond.code Y_Mo_pack.1 Y_Mo_pack.2.1 Y_Mo_pack.2.2.1 Y_Mo_pack.2.2.2 ∈ zGW ∧ Cond.instanceMethod Y_Mo_pack.1 ∈ zGW ∧ Cond.selects Y_Mo_pack.1.cls Y_Mo_pack.1 Y_Mo_pack.1 ∈ zGW ∧ Cond.initialized Y_Mo_pack.1.cls ∈ zGW ∧ (Y_Mo_pack.1.cls ≠ "java/lang/invoke/MethodHandle" ∧ Y_Mo_pack.1.cls ≠ "java/lang/invoke/VarHandle" ∧ (parseMethodDescriptor Y_Mo_pack.1.desc).map (fun d => d.parameters.length) = some 0) ∧ plainName Y_Mo_pack.1.cls = true ∧ Y_Mo_pack.2.2.1 ≤ 21 ∧ 0 + 1 ≤ Y_Mo_pack.2.2.1 := ⟨zin 996 (by decide +kernel) (by decide +kernel), zin 994 (by decide +kernel) (by decide +kernel), zin 995 (by decide +kernel) (by decide +kernel), zin 66 (by decide +kernel) (by decide +kernel), ⟨(by decide +kernel), (by decide +kernel), (by decide +kernel)⟩, (by decide +kernel), by decide, by decide⟩
theorem v_Mo_take : Cond.code Y_Mo_take.1 Y_Mo_take.2.1 Y_Mo_take.2.2.1 Y_Mo_take.2.2.2 ∈ zGW ∧ Cond.instanceMethod Y_Mo_take.1 ∈ zGW ∧ Cond.selects Y_Mo_take.1.cls Y_Mo_take.1 Y_Mo_take.1 ∈ zGW ∧ Cond.initialized Y_Mo_take.1.cls ∈ zGW ∧ (Y_Mo_take.1.cls ≠ "java/lang/invoke/MethodHandle" ∧ Y_Mo_take.1.cls ≠ "java/lang/invoke/VarHandle" ∧ (parseMethodDescriptor Y_Mo_take.1.desc).map (fun d => d.parameters.length) = some 1) ∧ plainName Y_Mo_take.1.cls = true ∧ Y_Mo_take.2.2.1 ≤ 21 ∧ 1 + 1 ≤ Y_Mo_take.2.2.1 := ⟨zin 1127 (by decide +kernel) (by decide +kernel), zin 1126 (by decide +kernel) (by decide +kernel), zin 45 (by decide +kernel) (by decide +kernel), zin 66 (by decide +kernel) (by decide +kernel), ⟨(by decide +kernel), (by decide +kernel), (by decide +kernel)⟩, (by decide +kernel), by decide, by decide⟩
theorem v_Mo_pad : Cond.code Y_Mo_pad.1 Y_Mo_pad.2.1 Y_Mo_pad.2.2.1 Y_Mo_pad.2.2.2 ∈ zGW ∧ Cond.instanceMethod Y_Mo_pad.1 ∈ zGW ∧ Cond.selects Y_Mo_pad.1.cls Y_Mo_pad.1 Y_Mo_pad.1 ∈ zGW ∧ Cond.initialized Y_Mo_pad.1.cls ∈ zGW ∧ (Y_Mo_pad.1.cls ≠ "java/lang/invoke/MethodHandle" ∧ Y_Mo_pad.1.cls ≠ "java/lang/invoke/VarHandle" ∧ (parseMethodDescriptor Y_Mo_pad.1.desc).map (fun d => d.parameters.length) = some 0) ∧ plainName Y_Mo_pad.1.cls = true ∧ Y_Mo_pad.2.2.1 ≤ 21 ∧ 0 + 1 ≤ Y_Mo_pad.2.2.1 := ⟨zin 1159 (by decide +kernel) (by decide +kernel), zin 1158 (by decide +kernel) (by decide +kernel), zin 53 (by decide +kernel) (by decide +kernel), zin 66 (by decide +kernel) (by decide +kernel), ⟨(by decide +kernel), (by decide +kernel), (by decide +kernel)⟩, (by decide +kernel), by decide, by decide⟩
theorem v_Mo_readSimple : Cond.code Y_Mo_readSimple.1 Y_Mo_readSimple.2.1 Y_Mo_readSimple.2.2.1 Y_Mo_readSimple.2.2.2 ∈ zGW ∧ Cond.instanceMethod Y_Mo_readSimple.1 ∈ zGW ∧ Cond.selects Y_Mo_readSimple.1.cls Y_Mo_readSimple.1 Y_Mo_readSimple.1 ∈ zGW ∧ Cond.initialized Y_Mo_readSimple.1.cls ∈ zGW ∧ (Y_Mo_readSimple.1.cls ≠ "java/lang/invoke/MethodHandle" ∧ Y_Mo_readSimple.1.cls ≠ "java/lang/invoke/VarHandle" ∧ (parseMethodDescriptor Y_Mo_readSimple.1.desc).map (fun d => d.parameters.length) = some 2) ∧ plainName Y_Mo_readSimple.1.cls = true ∧ Y_Mo_readSimple.2.2.1 ≤ 21 ∧ 2 + 1 ≤ Y_Mo_readSimple.2.2.1 := ⟨zin 1139 (by decide +kernel) (by decide +kernel), zin 1138 (by decide +kernel) (by decide +kernel), zin 48 (by decide +kernel) (by decide +kernel), zin 66 (by decide +kernel) (by decide +kernel), ⟨(by decide +kernel), (by decide +kernel), (by decide +kernel)⟩, (by decide +kernel), by decide, by decide⟩
theorem v_Mo_readCode : Cond.code Y_Mo_readCode.1 Y_Mo_readCode.2.1 Y_Mo_readCode.2.2.1 Y_Mo_readCode.2.2.2 ∈ zGW ∧ Cond.instanceMethod Y_Mo_readCode.1 ∈ zGW ∧ Cond.selects Y_Mo_readCode.1.cls Y_Mo_readCode.1 Y_Mo_readCode.1 ∈ zGW ∧ Cond.initialized Y_Mo_readCode.1.cls ∈ zGW ∧ (Y_Mo_readCode.1.cls ≠ "java/lang/invoke/MethodHandle" ∧ Y_Mo_readCode.1.cls ≠ "java/lang/invoke/VarHandle" ∧ (parseMethodDescriptor Y_Mo_readCode.1.desc).map (fun d => d.parameters.length) = some 1) ∧ plainName Y_Mo_readCode.1.cls = true ∧ Y_Mo_readCode.2.2.1 ≤ 21 ∧ 1 + 1 ≤ Y_Mo_readCode.2.2.1 := ⟨zin 1135 (by decide +kernel) (by decide +kernel), zin 1134 (by decide +kernel) (by decide +kernel), zin 47 (by decide +kernel) (by decide +kernel), zin 66 (by decide +kernel) (by decide +kernel), ⟨(by decide +kernel), (by decide +kernel), (by decide +kernel)⟩, (by decide +kernel), by decide, by decide⟩
theorem v_Mo_readSymbol : Cond.code Y_Mo_readSymbol.1 Y_Mo_readSymbol.2.1 Y_Mo_readSymbol.2.2.1 Y_Mo_readSymbol.2.2.2 ∈ zGW ∧ Cond.instanceMethod Y_Mo_readSymbol.1 ∈ zGW ∧ Cond.selects Y_Mo_readSymbol.1.cls Y_Mo_readSymbol.1 Y_Mo_readSymbol.1 ∈ zGW ∧ Cond.initialized Y_Mo_readSymbol.1.cls ∈ zGW ∧ (Y_Mo_readSymbol.1.cls ≠ "java/lang/invoke/MethodHandle" ∧ Y_Mo_readSymbol.1.cls ≠ "java/lang/invoke/VarHandle" ∧ (parseMethodDescriptor Y_Mo_readSymbol.1.desc).map (fun d => d.parameters.length) = some 1) ∧ plainName Y_Mo_readSymbol.1.cls = true ∧ Y_Mo_readSymbol.2.2.1 ≤ 21 ∧ 1 + 1 ≤ Y_Mo_readSymbol.2.2.1 := ⟨zin 1143 (by decide +kernel) (by decide +kernel), zin 1142 (by decide +kernel) (by decide +kernel), zin 49 (by decide +kernel) (by decide +kernel), zin 66 (by decide +kernel) (by decide +kernel), ⟨(by decide +kernel), (by decide +kernel), (by decide +kernel)⟩, (by decide +kernel), by decide, by decide⟩
theorem v_Mo_make : Cond.code Y_Mo_make.1 Y_Mo_make.2.1 Y_Mo_make.2.2.1 Y_Mo_make.2.2.2 ∈ zGW ∧ Cond.instanceMethod Y_Mo_make.1 ∈ zGW ∧ Cond.selects Y_Mo_make.1.cls Y_Mo_make.1 Y_Mo_make.1 ∈ zGW ∧ Cond.initialized Y_Mo_make.1.cls ∈ zGW ∧ (Y_Mo_make.1.cls ≠ "java/lang/invoke/MethodHandle" ∧ Y_Mo_make.1.cls ≠ "java/lang/invoke/VarHandle" ∧ (parseMethodDescriptor Y_Mo_make.1.desc).map (fun d => d.parameters.length) = some 2) ∧ plainName Y_Mo_make.1.cls = true ∧ Y_Mo_make.2.2.1 ≤ 21 ∧ 2 + 1 ≤ Y_Mo_make.2.2.1 := ⟨zin 1147 (by decide +kernel) (by decide +kernel), zin 1146 (by decide +kernel) (by decide +kernel), zin 50 (by decide +kernel) (by decide +kernel), zin 66 (by decide +kernel) (by decide +kernel), ⟨(by decide +kernel), (by decide +kernel), (by decide +kernel)⟩, (by decide +kernel), by decide, by decide⟩
theorem v_Mo_readDistance : Cond.code Y_Mo_readDistance.1 Y_Mo_readDistance.2.1 Y_Mo_readDistance.2.2.1 Y_Mo_readDistance.2.2.2 ∈ zGW ∧ Cond.instanceMethod Y_Mo_readDistance.1 ∈ zGW ∧ Cond.selects Y_Mo_readDistance.1.cls Y_Mo_readDistance.1 Y_Mo_readDistance.1 ∈ zGW ∧ Cond.initialized Y_Mo_readDistance.1.cls ∈ zGW ∧ (Y_Mo_readDistance.1.cls ≠ "java/lang/invoke/MethodHandle" ∧ Y_Mo_readDistance.1.cls ≠ "java/lang/invoke/VarHandle" ∧ (parseMethodDescriptor Y_Mo_readDistance.1.desc).map (fun d => d.parameters.length) = some 1) ∧ plainName Y_Mo_readDistance.1.cls = true ∧ Y_Mo_readDistance.2.2.1 ≤ 21 ∧ 1 + 1 ≤ Y_Mo_readDistance.2.2.1 := ⟨zin 1155 (by decide +kernel) (by decide +kernel), zin 1154 (by decide +kernel) (by decide +kernel), zin 52 (by decide +kernel) (by decide +kernel), zin 66 (by decide +kernel) (by decide +kernel), ⟨(by decide +kernel), (by decide +kernel), (by decide +kernel)⟩, (by decide +kernel), by decide, by decide⟩
theorem v_Mo_copy : Cond.code Y_Mo_copy.1 Y_Mo_copy.2.1 Y_Mo_copy.2.2.1 Y_Mo_copy.2.2.2 ∈ zGW ∧ Cond.instanceMethod Y_Mo_copy.1 ∈ zGW ∧ Cond.selects Y_Mo_copy.1.cls Y_Mo_copy.1 Y_Mo_copy.1 ∈ zGW ∧ Cond.initialized Y_Mo_copy.1.cls ∈ zGW ∧ (Y_Mo_copy.1.cls ≠ "java/lang/invoke/MethodHandle" ∧ Y_Mo_copy.1.cls ≠ "java/lang/invoke/VarHandle" ∧ (parseMethodDescriptor Y_Mo_copy.1.desc).map (fun d => d.parameters.length) = some 3) ∧ plainName Y_Mo_copy.1.cls = true ∧ Y_Mo_copy.2.2.1 ≤ 21 ∧ 3 + 1 ≤ Y_Mo_copy.2.2.1 := ⟨zin 1151 (by decide +kernel) (by decide +kernel), zin 1150 (by decide +kernel) (by decide +kernel), zin 51 (by decide +kernel) (by decide +kernel), zin 66 (by decide +kernel) (by decide +kernel), ⟨(by decide +kernel), (by decide +kernel), (by decide +kernel)⟩, (by decide +kernel), by decide, by decide⟩
theorem v_Mo_readCoded : Cond.code Y_Mo_readCoded.1 Y_Mo_readCoded.2.1 Y_Mo_readCoded.2.2.1 Y_Mo_readCoded.2.2.2 ∈ zGW ∧ Cond.instanceMethod Y_Mo_readCoded.1 ∈ zGW ∧ Cond.selects Y_Mo_readCoded.1.cls Y_Mo_readCoded.1 Y_Mo_readCoded.1 ∈ zGW ∧ Cond.initialized Y_Mo_readCoded.1.cls ∈ zGW ∧ (Y_Mo_readCoded.1.cls ≠ "java/lang/invoke/MethodHandle" ∧ Y_Mo_readCoded.1.cls ≠ "java/lang/invoke/VarHandle" ∧ (parseMethodDescriptor Y_Mo_readCoded.1.desc).map (fun d => d.parameters.length) = some 1) ∧ plainName Y_Mo_readCoded.1.cls = true ∧ Y_Mo_readCoded.2.2.1 ≤ 21 ∧ 1 + 1 ≤ Y_Mo_readCoded.2.2.1 := ⟨zin 1131 (by decide +kernel) (by decide +kernel), zin 1130 (by decide +kernel) (by decide +kernel), zin 46 (by decide +kernel) (by decide +kernel), zin 66 (by decide +kernel) (by decide +kernel), ⟨(by decide +kernel), (by decide +kernel), (by decide +kernel)⟩, (by decide +kernel), by decide, by decide⟩
theorem v_Mo_readBlock : Cond.code Y_Mo_readBlock.1 Y_Mo_readBlock.2.1 Y_Mo_readBlock.2.2.1 Y_Mo_readBlock.2.2.2 ∈ zGW ∧ Cond.instanceMethod Y_Mo_readBlock.1 ∈ zGW ∧ Cond.selects Y_Mo_readBlock.1.cls Y_Mo_readBlock.1 Y_Mo_readBlock.1 ∈ zGW ∧ Cond.initialized Y_Mo_readBlock.1.cls ∈ zGW ∧ (Y_Mo_readBlock.1.cls ≠ "java/lang/invoke/MethodHandle" ∧ Y_Mo_readBlock.1.cls ≠ "java/lang/invoke/VarHandle" ∧ (parseMethodDescriptor Y_Mo_readBlock.1.desc).map (fun d => d.parameters.length) = some 0) ∧ plainName Y_Mo_readBlock.1.cls = true ∧ Y_Mo_readBlock.2.2.1 ≤ 21 ∧ 0 + 1 ≤ Y_Mo_readBlock.2.2.1 := ⟨zin 1123 (by decide +kernel) (by decide +kernel), zin 1122 (by decide +kernel) (by decide +kernel), zin 44 (by decide +kernel) (by decide +kernel), zin 66 (by decide +kernel) (by decide +kernel), ⟨(by decide +kernel), (by decide +kernel), (by decide +kernel)⟩, (by decide +kernel), by decide, by decide⟩
theorem v_Mo_unpack : Cond.code Y_Mo_unpack.1 Y_Mo_unpack.2.1 Y_Mo_unpack.2.2.1 Y_Mo_unpack.2.2.2 ∈ zGW ∧ Cond.instanceMethod Y_Mo_unpack.1 ∈ zGW ∧ Cond.selects Y_Mo_unpack.1.cls Y_Mo_unpack.1 Y_Mo_unpack.1 ∈ zGW ∧ Cond.initialized Y_Mo_unpack.1.cls ∈ zGW ∧ (Y_Mo_unpack.1.cls ≠ "java/lang/invoke/MethodHandle" ∧ Y_Mo_unpack.1.cls ≠ "java/lang/invoke/VarHandle" ∧ (parseMethodDescriptor Y_Mo_unpack.1.desc).map (fun d => d.parameters.length) = some 0) ∧ plainName Y_Mo_unpack.1.cls = true ∧ Y_Mo_unpack.2.2.1 ≤ 21 ∧ 0 + 1 ≤ Y_Mo_unpack.2.2.1 := ⟨zin 1119 (by decide +kernel) (by decide +kernel), zin 1117 (by decide +kernel) (by decide +kernel), zin 1118 (by decide +kernel) (by decide +kernel), zin 66 (by decide +kernel) (by decide +kernel), ⟨(by decide +kernel), (by decide +kernel), (by decide +kernel)⟩, (by decide +kernel), by decide, by decide⟩
theorem n_0 : Cond.methodLinkNest "RingPacker$BitStream" 15 Y_Rp_isByte.1 "RingPacker" ∈ zNW := znin 805 (by decide +kernel) (by decide +kernel)
theorem g_1 : Cond.fieldLink "RingPacker$BitStream" 19 "RingPacker$BitStream" "count" "I" ∈ zGW := zin 106 (by decide +kernel) (by decide +kernel)
theorem g_2 : Cond.fieldLink "RingPacker$BitStream" 9 "RingPacker$BitStream" "bytes" "[I" ∈ zGW := zin 105 (by decide +kernel) (by decide +kernel)
theorem g_3 : Cond.fieldLink "RingPacker$BitStream" 23 "RingPacker$BitStream" "place" "I" ∈ zGW := zin 109 (by decide +kernel) (by decide +kernel)
theorem g_4 : Cond.fieldLink "RingPacker$BitStream" 26 "RingPacker$BitStream" "overrun" "Z" ∈ zGW := zin 112 (by decide +kernel) (by decide +kernel)
theorem g_5 : Cond.methodLink "RingPacker$BitStream" 30 Y_BitStream_take.1 ∈ zGW := zin 774 (by decide +kernel) (by decide +kernel)
theorem g_6 : Cond.methodLink "RingPacker$BitStream" 34 Y_BitStream_takeZerosToByteEnd.1 ∈ zGW := zin 779 (by decide +kernel) (by decide +kernel)
theorem g_7 : Cond.methodLink "RingPacker$BitStream" 38 Y_BitStream_give.1 ∈ zGW := zin 566 (by decide +kernel) (by decide +kernel)
theorem g_8 : Cond.methodLink "RingPacker$BitStream" 42 Y_BitStream_giveZerosToByteEnd.1 ∈ zGW := zin 682 (by decide +kernel) (by decide +kernel)
theorem g_9 : Cond.methodLink "RingPacker$BitStream" 45 Lib.Math.min.name ∈ zGW := zin 683 (by decide +kernel) (by decide +kernel)
theorem g_10 : Cond.methodLink "RingPacker$Code" 31 Y_Code_forgetListed.1 ∈ zGW := zin 611 (by decide +kernel) (by decide +kernel)
theorem g_11 : Cond.methodLink "RingPacker$Code" 34 Y_BitStream_take.1 ∈ zGW := zin 720 (by decide +kernel) (by decide +kernel)
theorem g_12 : Cond.methodLink "RingPacker$Code" 44 Y_Code_readBitNumbers.1 ∈ zGW := zin 729 (by decide +kernel) (by decide +kernel)
theorem g_13 : Cond.methodLink "RingPacker$Code" 40 Y_Code_readSimple.1 ∈ zGW := zin 721 (by decide +kernel) (by decide +kernel)
theorem n_14 : Cond.fieldLinkNest "RingPacker$Code" 47 "RingPacker$BitStream" "overrun" "Z" "RingPacker" ∈ zNW := znin 110 (by decide +kernel) (by decide +kernel)
theorem g_15 : Cond.methodLink "RingPacker$Code" 51 Y_Code_sortListed.1 ∈ zGW := zin 634 (by decide +kernel) (by decide +kernel)
theorem g_16 : Cond.methodLink "RingPacker$Code" 54 Y_Code_giveCodeWords.1 ∈ zGW := zin 638 (by decide +kernel) (by decide +kernel)
theorem g_17 : Cond.fieldLink "RingPacker$Code" 19 "RingPacker$Code" "numberBits" "I" ∈ zGW := zin 180 (by decide +kernel) (by decide +kernel)
theorem g_18 : Cond.fieldLink "RingPacker$Code" 15 "RingPacker$Code" "symbolCount" "I" ∈ zGW := zin 179 (by decide +kernel) (by decide +kernel)
theorem g_19 : Cond.methodLink "RingPacker$Code" 57 Y_Code_isListed.1 ∈ zGW := zin 725 (by decide +kernel) (by decide +kernel)
theorem g_20 : Cond.methodLink "RingPacker$Code" 61 Y_Code_simpleBits.1 ∈ zGW := zin 623 (by decide +kernel) (by decide +kernel)
theorem g_21 : Cond.methodLink "RingPacker$Code" 65 Y_Code_list.1 ∈ zGW := zin 615 (by decide +kernel) (by decide +kernel)
theorem g_22 : Cond.fieldLink "RingPacker$Code" 69 "RingPacker$Code" "listedCount" "I" ∈ zGW := zin 185 (by decide +kernel) (by decide +kernel)
theorem g_23 : Cond.fieldLink "RingPacker$Code" 9 "RingPacker$Code" "listed" "[I" ∈ zGW := zin 184 (by decide +kernel) (by decide +kernel)
theorem g_24 : Cond.fieldLink "RingPacker$Code" 25 "RingPacker$Code" "bits" "[I" ∈ zGW := zin 182 (by decide +kernel) (by decide +kernel)
theorem g_25 : Cond.fieldLink "RingPacker$Code" 28 "RingPacker$Code" "codeWord" "[I" ∈ zGW := zin 183 (by decide +kernel) (by decide +kernel)
theorem g_26 : Cond.fieldLink "RingPacker$Code" 22 "RingPacker$Code" "times" "[I" ∈ zGW := zin 181 (by decide +kernel) (by decide +kernel)
theorem g_27 : Cond.methodLink "RingPacker$Code" 75 Y_Code_chooseFirstBits.1 ∈ zGW := zin 626 (by decide +kernel) (by decide +kernel)
theorem g_28 : Cond.methodLink "RingPacker$Code" 79 Y_Code_spreadSpace.1 ∈ zGW := zin 630 (by decide +kernel) (by decide +kernel)
theorem g_29 : Cond.methodLink "RingPacker$Code" 72 Y_Code_chooseSimpleBits.1 ∈ zGW := zin 619 (by decide +kernel) (by decide +kernel)
theorem g_30 : Cond.methodLink "RingPacker$Code" 83 Y_BitStream_give.1 ∈ zGW := zin 646 (by decide +kernel) (by decide +kernel)
theorem g_31 : Cond.methodLink "RingPacker$Code" 86 Y_Code_writeBitNumbers.1 ∈ zGW := zin 647 (by decide +kernel) (by decide +kernel)
theorem g_32 : Cond.methodLink "RingPacker$Code" 90 Y_Code_writeMissing.1 ∈ zGW := zin 651 (by decide +kernel) (by decide +kernel)
theorem g_33 : Cond.methodLink "RingPacker$Code" 94 Lib.Math.min.name ∈ zGW := zin 654 (by decide +kernel) (by decide +kernel)
theorem g_34 : Cond.fieldLink "RingPacker$Codes" 14 "RingPacker$Codes" "literalA" "LRingPacker$Code;" ∈ zGW := zin 201 (by decide +kernel) (by decide +kernel)
theorem g_35 : Cond.methodLink "RingPacker$Codes" 29 Y_Text_followsSmallLetter.1 ∈ zGW := zin 598 (by decide +kernel) (by decide +kernel)
theorem g_36 : Cond.fieldLink "RingPacker$Codes" 20 "RingPacker$Codes" "literalB" "LRingPacker$Code;" ∈ zGW := zin 203 (by decide +kernel) (by decide +kernel)
theorem g_37 : Cond.methodLink "RingPacker$Codes" 35 Y_Code_readDescription.1 ∈ zGW := zin 716 (by decide +kernel) (by decide +kernel)
theorem g_38 : Cond.fieldLink "RingPacker$Codes" 23 "RingPacker$Codes" "command" "LRingPacker$Code;" ∈ zGW := zin 205 (by decide +kernel) (by decide +kernel)
theorem g_39 : Cond.fieldLink "RingPacker$Codes" 26 "RingPacker$Codes" "distance" "LRingPacker$Code;" ∈ zGW := zin 208 (by decide +kernel) (by decide +kernel)
theorem g_40 : Cond.methodLink "RingPacker$Codes" 39 Y_Code_forgetTimes.1 ∈ zGW := zin 576 (by decide +kernel) (by decide +kernel)
theorem g_41 : Cond.methodLink "RingPacker$Codes" 42 Y_Code_makeFromTimes.1 ∈ zGW := zin 607 (by decide +kernel) (by decide +kernel)
theorem g_42 : Cond.fieldLink "RingPacker$Counts" 7 "RingPacker$Counts" "codedBlocks" "I" ∈ zGW := zin 128 (by decide +kernel) (by decide +kernel)
theorem g_43 : Cond.fieldLink "RingPacker$Counts" 13 "RingPacker$Counts" "plainCopies" "I" ∈ zGW := zin 131 (by decide +kernel) (by decide +kernel)
theorem g_44 : Cond.fieldLink "RingPacker$Counts" 16 "RingPacker$Counts" "wordCopies" "I" ∈ zGW := zin 134 (by decide +kernel) (by decide +kernel)
theorem g_45 : Cond.fieldLink "RingPacker$Counts" 19 "RingPacker$Counts" "codeWords" "I" ∈ zGW := zin 137 (by decide +kernel) (by decide +kernel)
theorem n_46 : Cond.fieldLinkNest "RingPacker$Counts" 22 "RingPacker$Plan" "copyCount" "I" "RingPacker" ∈ zNW := znin 273 (by decide +kernel) (by decide +kernel)
theorem n_47 : Cond.fieldLinkNest "RingPacker$Counts" 27 "RingPacker$Plan" "wordCount" "I" "RingPacker" ∈ zNW := znin 275 (by decide +kernel) (by decide +kernel)
theorem n_48 : Cond.fieldLinkNest "RingPacker$Counts" 30 "RingPacker$Plan" "codeWordCount" "I" "RingPacker" ∈ zNW := znin 277 (by decide +kernel) (by decide +kernel)
theorem g_49 : Cond.methodLink "RingPacker$Finder" 9 Lib.Math.min.name ∈ zGW := zin 439 (by decide +kernel) (by decide +kernel)
theorem g_50 : Cond.fieldLink "RingPacker$Finder" 15 "RingPacker$Finder" "copyBytes" "I" ∈ zGW := zin 232 (by decide +kernel) (by decide +kernel)
theorem g_51 : Cond.fieldLink "RingPacker$Finder" 21 "RingPacker$Finder" "copyDistance" "I" ∈ zGW := zin 234 (by decide +kernel) (by decide +kernel)
theorem g_52 : Cond.methodLink "RingPacker$Finder" 24 Y_Text_equalBytes.1 ∈ zGW := zin 440 (by decide +kernel) (by decide +kernel)
theorem g_53 : Cond.fieldLink "RingPacker$Finder" 30 "RingPacker$Finder" "wordBytes" "I" ∈ zGW := zin 237 (by decide +kernel) (by decide +kernel)
theorem g_54 : Cond.fieldLink "RingPacker$Finder" 33 "RingPacker$Finder" "wordLength" "I" ∈ zGW := zin 239 (by decide +kernel) (by decide +kernel)
theorem g_55 : Cond.fieldLink "RingPacker$Finder" 36 "RingPacker$Finder" "wordIndex" "I" ∈ zGW := zin 240 (by decide +kernel) (by decide +kernel)
theorem g_56 : Cond.methodLink "RingPacker$Finder" 39 Y_Words_yieldOf.1 ∈ zGW := zin 449 (by decide +kernel) (by decide +kernel)
theorem g_57 : Cond.methodLink "RingPacker$Finder" 44 Y_Words_standsIn.1 ∈ zGW := zin 452 (by decide +kernel) (by decide +kernel)
theorem g_58 : Cond.fieldLink "RingPacker$Packer" 12 "RingPacker$Packer" "counts" "LRingPacker$Counts;" ∈ zGW := zin 303 (by decide +kernel) (by decide +kernel)
theorem g_59 : Cond.methodLink "RingPacker$Packer" 39 Y_Counts_reset.1 ∈ zGW := zin 405 (by decide +kernel) (by decide +kernel)
theorem g_60 : Cond.fieldLink "RingPacker$Packer" 21 "RingPacker$Packer" "ring" "LRingPacker$Ring;" ∈ zGW := zin 305 (by decide +kernel) (by decide +kernel)
theorem g_61 : Cond.methodLink "RingPacker$Packer" 42 Y_Ring_reset.1 ∈ zGW := zin 409 (by decide +kernel) (by decide +kernel)
theorem n_62 : Cond.fieldLinkNest "RingPacker$Packer" 43 "RingPacker$Text" "count" "I" "RingPacker" ∈ zNW := znin 91 (by decide +kernel) (by decide +kernel)
theorem g_63 : Cond.methodLink "RingPacker$Packer" 49 Lib.Math.min.name ∈ zGW := zin 421 (by decide +kernel) (by decide +kernel)
theorem g_64 : Cond.fieldLink "RingPacker$Packer" 35 "RingPacker$Packer" "plan" "LRingPacker$Plan;" ∈ zGW := zin 307 (by decide +kernel) (by decide +kernel)
theorem g_65 : Cond.methodLink "RingPacker$Packer" 55 Y_Plan_parse.1 ∈ zGW := zin 424 (by decide +kernel) (by decide +kernel)
theorem n_66 : Cond.fieldLinkNest "RingPacker$Packer" 59 "RingPacker$BitStream" "place" "I" "RingPacker" ∈ zNW := znin 108 (by decide +kernel) (by decide +kernel)
theorem g_67 : Cond.methodLink "RingPacker$Packer" 64 Y_BitStream_goBackTo.1 ∈ zGW := zin 549 (by decide +kernel) (by decide +kernel)
theorem g_68 : Cond.methodLink "RingPacker$Packer" 68 Y_Packer_writeInWay.1 ∈ zGW := zin 553 (by decide +kernel) (by decide +kernel)
theorem n_69 : Cond.fieldLinkNest "RingPacker$Packer" 72 "RingPacker$Plan" "ring" "LRingPacker$Ring;" "RingPacker" ∈ zNW := znin 257 (by decide +kernel) (by decide +kernel)
theorem g_70 : Cond.methodLink "RingPacker$Packer" 73 Y_Ring_become.1 ∈ zGW := zin 673 (by decide +kernel) (by decide +kernel)
theorem g_71 : Cond.methodLink "RingPacker$Packer" 77 Y_Counts_addBlock.1 ∈ zGW := zin 674 (by decide +kernel) (by decide +kernel)
theorem g_72 : Cond.methodLink "RingPacker$Packer" 81 Y_BitStream_give.1 ∈ zGW := zin 557 (by decide +kernel) (by decide +kernel)
theorem g_73 : Cond.methodLink "RingPacker$Packer" 85 Y_Packer_writeRaw.1 ∈ zGW := zin 558 (by decide +kernel) (by decide +kernel)
theorem g_74 : Cond.methodLink "RingPacker$Packer" 89 Y_Packer_countSymbols.1 ∈ zGW := zin 568 (by decide +kernel) (by decide +kernel)
theorem g_75 : Cond.fieldLink "RingPacker$Packer" 28 "RingPacker$Packer" "codes" "LRingPacker$Codes;" ∈ zGW := zin 306 (by decide +kernel) (by decide +kernel)
theorem g_76 : Cond.methodLink "RingPacker$Packer" 93 Y_Codes_makeFromTimes.1 ∈ zGW := zin 603 (by decide +kernel) (by decide +kernel)
theorem n_77 : Cond.fieldLinkNest "RingPacker$Packer" 96 "RingPacker$Codes" "literalA" "LRingPacker$Code;" "RingPacker" ∈ zNW := znin 202 (by decide +kernel) (by decide +kernel)
theorem g_78 : Cond.methodLink "RingPacker$Packer" 100 Y_Code_writeDescription.1 ∈ zGW := zin 642 (by decide +kernel) (by decide +kernel)
theorem n_79 : Cond.fieldLinkNest "RingPacker$Packer" 106 "RingPacker$Codes" "literalB" "LRingPacker$Code;" "RingPacker" ∈ zNW := znin 204 (by decide +kernel) (by decide +kernel)
theorem n_80 : Cond.fieldLinkNest "RingPacker$Packer" 109 "RingPacker$Codes" "command" "LRingPacker$Code;" "RingPacker" ∈ zNW := znin 206 (by decide +kernel) (by decide +kernel)
theorem n_81 : Cond.fieldLinkNest "RingPacker$Packer" 112 "RingPacker$Codes" "distance" "LRingPacker$Code;" "RingPacker" ∈ zNW := znin 209 (by decide +kernel) (by decide +kernel)
theorem n_82 : Cond.fieldLinkNest "RingPacker$Packer" 115 "RingPacker$Plan" "commandCount" "I" "RingPacker" ∈ zNW := znin 271 (by decide +kernel) (by decide +kernel)
theorem g_83 : Cond.methodLink "RingPacker$Packer" 118 Y_Packer_writeCommand.1 ∈ zGW := zin 655 (by decide +kernel) (by decide +kernel)
theorem g_84 : Cond.methodLink "RingPacker$Packer" 122 Y_BitStream_giveZerosToByteEnd.1 ∈ zGW := zin 562 (by decide +kernel) (by decide +kernel)
theorem g_85 : Cond.methodLink "RingPacker$Packer" 125 Y_Text_get.1 ∈ zGW := zin 567 (by decide +kernel) (by decide +kernel)
theorem g_86 : Cond.methodLink "RingPacker$Packer" 129 Y_Codes_forgetTimes.1 ∈ zGW := zin 572 (by decide +kernel) (by decide +kernel)
theorem g_87 : Cond.methodLink "RingPacker$Packer" 132 Y_Plan_commandSymbolOf.1 ∈ zGW := zin 580 (by decide +kernel) (by decide +kernel)
theorem g_88 : Cond.methodLink "RingPacker$Packer" 135 Y_Code_countOnce.1 ∈ zGW := zin 590 (by decide +kernel) (by decide +kernel)
theorem n_89 : Cond.fieldLinkNest "RingPacker$Packer" 138 "RingPacker$Plan" "distanceSymbol" "[I" "RingPacker" ∈ zNW := znin 267 (by decide +kernel) (by decide +kernel)
theorem n_90 : Cond.fieldLinkNest "RingPacker$Packer" 142 "RingPacker$Plan" "literalCount" "[I" "RingPacker" ∈ zNW := znin 261 (by decide +kernel) (by decide +kernel)
theorem n_91 : Cond.fieldLinkNest "RingPacker$Packer" 145 "RingPacker$Plan" "literalFrom" "[I" "RingPacker" ∈ zNW := znin 259 (by decide +kernel) (by decide +kernel)
theorem g_92 : Cond.methodLink "RingPacker$Packer" 148 Y_Codes_literalAt.1 ∈ zGW := zin 594 (by decide +kernel) (by decide +kernel)
theorem g_93 : Cond.methodLink "RingPacker$Packer" 152 Y_Plan_insertSymbolOf.1 ∈ zGW := zin 659 (by decide +kernel) (by decide +kernel)
theorem n_94 : Cond.fieldLinkNest "RingPacker$Packer" 155 "RingPacker$Plan" "copySymbol" "[I" "RingPacker" ∈ zNW := znin 263 (by decide +kernel) (by decide +kernel)
theorem g_95 : Cond.methodLink "RingPacker$Packer" 158 Y_Code_writeWord.1 ∈ zGW := zin 660 (by decide +kernel) (by decide +kernel)
theorem n_96 : Cond.fieldLinkNest "RingPacker$Packer" 162 "RingPacker" "INSERT_BASE" "[I" "RingPacker" ∈ zNW := znin 664 (by decide +kernel) (by decide +kernel)
theorem n_97 : Cond.fieldLinkNest "RingPacker$Packer" 165 "RingPacker" "INSERT_BITS" "[I" "RingPacker" ∈ zNW := znin 665 (by decide +kernel) (by decide +kernel)
theorem n_98 : Cond.fieldLinkNest "RingPacker$Packer" 168 "RingPacker$Plan" "copyLength" "[I" "RingPacker" ∈ zNW := znin 265 (by decide +kernel) (by decide +kernel)
theorem n_99 : Cond.fieldLinkNest "RingPacker$Packer" 171 "RingPacker" "COPY_BASE" "[I" "RingPacker" ∈ zNW := znin 667 (by decide +kernel) (by decide +kernel)
theorem n_100 : Cond.fieldLinkNest "RingPacker$Packer" 174 "RingPacker" "COPY_BITS" "[I" "RingPacker" ∈ zNW := znin 668 (by decide +kernel) (by decide +kernel)
theorem n_101 : Cond.fieldLinkNest "RingPacker$Packer" 177 "RingPacker$Plan" "distance" "[I" "RingPacker" ∈ zNW := znin 269 (by decide +kernel) (by decide +kernel)
theorem n_102 : Cond.fieldLinkNest "RingPacker$Packer" 179 "RingPacker" "DISTANCE_BASE" "[I" "RingPacker" ∈ zNW := znin 670 (by decide +kernel) (by decide +kernel)
theorem n_103 : Cond.fieldLinkNest "RingPacker$Packer" 182 "RingPacker" "DISTANCE_BITS" "[I" "RingPacker" ∈ zNW := znin 671 (by decide +kernel) (by decide +kernel)
theorem g_104 : Cond.fieldLink "RingPacker$Plan" 21 "RingPacker$Plan" "ring" "LRingPacker$Ring;" ∈ zGW := zin 256 (by decide +kernel) (by decide +kernel)
theorem g_105 : Cond.methodLink "RingPacker$Plan" 44 Y_Ring_become.1 ∈ zGW := zin 428 (by decide +kernel) (by decide +kernel)
theorem g_106 : Cond.fieldLink "RingPacker$Plan" 48 "RingPacker$Plan" "commandCount" "I" ∈ zGW := zin 270 (by decide +kernel) (by decide +kernel)
theorem g_107 : Cond.fieldLink "RingPacker$Plan" 52 "RingPacker$Plan" "copyCount" "I" ∈ zGW := zin 272 (by decide +kernel) (by decide +kernel)
theorem g_108 : Cond.fieldLink "RingPacker$Plan" 55 "RingPacker$Plan" "wordCount" "I" ∈ zGW := zin 274 (by decide +kernel) (by decide +kernel)
theorem g_109 : Cond.fieldLink "RingPacker$Plan" 58 "RingPacker$Plan" "codeWordCount" "I" ∈ zGW := zin 276 (by decide +kernel) (by decide +kernel)
theorem g_110 : Cond.fieldLink "RingPacker$Plan" 12 "RingPacker$Plan" "finder" "LRingPacker$Finder;" ∈ zGW := zin 255 (by decide +kernel) (by decide +kernel)
theorem g_111 : Cond.methodLink "RingPacker$Plan" 61 Y_Finder_findCopy.1 ∈ zGW := zin 435 (by decide +kernel) (by decide +kernel)
theorem g_112 : Cond.methodLink "RingPacker$Plan" 65 Y_Finder_findWord.1 ∈ zGW := zin 445 (by decide +kernel) (by decide +kernel)
theorem g_113 : Cond.methodLink "RingPacker$Plan" 68 Y_Finder_isWord.1 ∈ zGW := zin 502 (by decide +kernel) (by decide +kernel)
theorem g_114 : Cond.methodLink "RingPacker$Plan" 79 Y_Finder_isCopy.1 ∈ zGW := zin 524 (by decide +kernel) (by decide +kernel)
theorem g_115 : Cond.methodLink "RingPacker$Plan" 82 Y_Plan_addCopy.1 ∈ zGW := zin 528 (by decide +kernel) (by decide +kernel)
theorem n_116 : Cond.fieldLinkNest "RingPacker$Plan" 85 "RingPacker$Finder" "copyBytes" "I" "RingPacker" ∈ zNW := znin 233 (by decide +kernel) (by decide +kernel)
theorem g_117 : Cond.methodLink "RingPacker$Plan" 72 Y_Plan_addWord.1 ∈ zGW := zin 506 (by decide +kernel) (by decide +kernel)
theorem n_118 : Cond.fieldLinkNest "RingPacker$Plan" 76 "RingPacker$Finder" "wordBytes" "I" "RingPacker" ∈ zNW := znin 236 (by decide +kernel) (by decide +kernel)
theorem n_119 : Cond.fieldLinkNest "RingPacker$Plan" 88 "RingPacker" "COPY_BASE" "[I" "RingPacker" ∈ zNW := znin 513 (by decide +kernel) (by decide +kernel)
theorem g_120 : Cond.methodLink "RingPacker$Plan" 91 Y_Plan_addCommand.1 ∈ zGW := zin 520 (by decide +kernel) (by decide +kernel)
theorem n_121 : Cond.fieldLinkNest "RingPacker$Plan" 95 "RingPacker$Finder" "wordLength" "I" "RingPacker" ∈ zNW := znin 238 (by decide +kernel) (by decide +kernel)
theorem n_122 : Cond.fieldLinkNest "RingPacker$Plan" 98 "RingPacker$Finder" "wordIndex" "I" "RingPacker" ∈ zNW := znin 241 (by decide +kernel) (by decide +kernel)
theorem g_123 : Cond.methodLink "RingPacker$Plan" 101 Y_Plan_copySymbolOf.1 ∈ zGW := zin 510 (by decide +kernel) (by decide +kernel)
theorem g_124 : Cond.methodLink "RingPacker$Plan" 105 Y_Ring_plainSymbolOf.1 ∈ zGW := zin 515 (by decide +kernel) (by decide +kernel)
theorem n_125 : Cond.fieldLinkNest "RingPacker$Plan" 108 "RingPacker$Finder" "copyDistance" "I" "RingPacker" ∈ zNW := znin 235 (by decide +kernel) (by decide +kernel)
theorem g_126 : Cond.methodLink "RingPacker$Plan" 111 Y_Ring_isLatest.1 ∈ zGW := zin 532 (by decide +kernel) (by decide +kernel)
theorem g_127 : Cond.methodLink "RingPacker$Plan" 115 Y_Ring_symbolOf.1 ∈ zGW := zin 536 (by decide +kernel) (by decide +kernel)
theorem g_128 : Cond.methodLink "RingPacker$Plan" 118 Y_Ring_remember.1 ∈ zGW := zin 545 (by decide +kernel) (by decide +kernel)
theorem g_129 : Cond.fieldLink "RingPacker$Plan" 25 "RingPacker$Plan" "literalFrom" "[I" ∈ zGW := zin 258 (by decide +kernel) (by decide +kernel)
theorem g_130 : Cond.fieldLink "RingPacker$Plan" 29 "RingPacker$Plan" "literalCount" "[I" ∈ zGW := zin 260 (by decide +kernel) (by decide +kernel)
theorem g_131 : Cond.fieldLink "RingPacker$Plan" 32 "RingPacker$Plan" "copySymbol" "[I" ∈ zGW := zin 262 (by decide +kernel) (by decide +kernel)
theorem g_132 : Cond.fieldLink "RingPacker$Plan" 35 "RingPacker$Plan" "copyLength" "[I" ∈ zGW := zin 264 (by decide +kernel) (by decide +kernel)
theorem g_133 : Cond.fieldLink "RingPacker$Plan" 38 "RingPacker$Plan" "distanceSymbol" "[I" ∈ zGW := zin 266 (by decide +kernel) (by decide +kernel)
theorem g_134 : Cond.fieldLink "RingPacker$Plan" 41 "RingPacker$Plan" "distance" "[I" ∈ zGW := zin 268 (by decide +kernel) (by decide +kernel)
theorem n_135 : Cond.fieldLinkNest "RingPacker$Plan" 122 "RingPacker" "INSERT_BASE" "[I" "RingPacker" ∈ zNW := znin 588 (by decide +kernel) (by decide +kernel)
theorem g_136 : Cond.methodLink "RingPacker$Plan" 125 Y_Plan_insertSymbolOf.1 ∈ zGW := zin 584 (by decide +kernel) (by decide +kernel)
theorem g_137 : Cond.fieldLink "RingPacker$Ring" 9 "RingPacker$Ring" "latest" "[I" ∈ zGW := zin 163 (by decide +kernel) (by decide +kernel)
theorem g_138 : Cond.methodLink "RingPacker$Ring" 15 arraycopyName ∈ zGW := zin 432 (by decide +kernel) (by decide +kernel)
theorem g_139 : Cond.methodLink "RingPacker$Ring" 25 Y_Ring_plainSymbolOf.1 ∈ zGW := zin 544 (by decide +kernel) (by decide +kernel)
theorem g_140 : Cond.methodLink "RingPacker$Ring" 21 Y_Ring_distanceOf.1 ∈ zGW := zin 540 (by decide +kernel) (by decide +kernel)
theorem n_141 : Cond.fieldLinkNest "RingPacker$Ring" 28 "RingPacker" "DISTANCE_BASE" "[I" "RingPacker" ∈ zNW := znin 518 (by decide +kernel) (by decide +kernel)
theorem n_142 : Cond.methodLinkNest "RingPacker$Text" 15 Y_Rp_isByte.1 "RingPacker" ∈ zNW := znin 370 (by decide +kernel) (by decide +kernel)
theorem g_143 : Cond.fieldLink "RingPacker$Text" 19 "RingPacker$Text" "count" "I" ∈ zGW := zin 89 (by decide +kernel) (by decide +kernel)
theorem g_144 : Cond.fieldLink "RingPacker$Text" 9 "RingPacker$Text" "bytes" "[I" ∈ zGW := zin 88 (by decide +kernel) (by decide +kernel)
theorem g_145 : Cond.methodLink "RingPacker$Text" 23 arraycopyName ∈ zGW := zin 784 (by decide +kernel) (by decide +kernel)
theorem g_146 : Cond.methodLink "RingPacker$Text" 29 Y_Text_get.1 ∈ zGW := zin 602 (by decide +kernel) (by decide +kernel)
theorem g_147 : Cond.methodLink "RingPacker$Text" 33 Lib.Math.min.name ∈ zGW := zin 444 (by decide +kernel) (by decide +kernel)
theorem g_148 : Cond.fieldLink "RingPacker$Unpacker" 12 "RingPacker$Unpacker" "draft" "LRingPacker$Text;" ∈ zGW := zin 331 (by decide +kernel) (by decide +kernel)
theorem g_149 : Cond.methodLink "RingPacker$Unpacker" 39 Y_Text_makeEmpty.1 ∈ zGW := zin 697 (by decide +kernel) (by decide +kernel)
theorem g_150 : Cond.fieldLink "RingPacker$Unpacker" 21 "RingPacker$Unpacker" "counts" "LRingPacker$Counts;" ∈ zGW := zin 333 (by decide +kernel) (by decide +kernel)
theorem g_151 : Cond.methodLink "RingPacker$Unpacker" 42 Y_Counts_reset.1 ∈ zGW := zin 698 (by decide +kernel) (by decide +kernel)
theorem g_152 : Cond.fieldLink "RingPacker$Unpacker" 28 "RingPacker$Unpacker" "ring" "LRingPacker$Ring;" ∈ zGW := zin 335 (by decide +kernel) (by decide +kernel)
theorem g_153 : Cond.methodLink "RingPacker$Unpacker" 45 Y_Ring_reset.1 ∈ zGW := zin 699 (by decide +kernel) (by decide +kernel)
theorem g_154 : Cond.methodLink "RingPacker$Unpacker" 46 Y_BitStream_startReading.1 ∈ zGW := zin 700 (by decide +kernel) (by decide +kernel)
theorem g_155 : Cond.methodLink "RingPacker$Unpacker" 51 Y_BitStream_take.1 ∈ zGW := zin 704 (by decide +kernel) (by decide +kernel)
theorem n_156 : Cond.fieldLinkNest "RingPacker$Unpacker" 55 "RingPacker$Text" "count" "I" "RingPacker" ∈ zNW := znin 90 (by decide +kernel) (by decide +kernel)
theorem n_157 : Cond.fieldLinkNest "RingPacker$Unpacker" 59 "RingPacker$BitStream" "overrun" "Z" "RingPacker" ∈ zNW := znin 111 (by decide +kernel) (by decide +kernel)
theorem g_158 : Cond.methodLink "RingPacker$Unpacker" 67 Y_Unpacker_readRaw.1 ∈ zGW := zin 766 (by decide +kernel) (by decide +kernel)
theorem g_159 : Cond.methodLink "RingPacker$Unpacker" 63 Y_Unpacker_readCoded.1 ∈ zGW := zin 708 (by decide +kernel) (by decide +kernel)
theorem g_160 : Cond.methodLink "RingPacker$Unpacker" 70 Y_BitStream_isReadWhole.1 ∈ zGW := zin 775 (by decide +kernel) (by decide +kernel)
theorem g_161 : Cond.methodLink "RingPacker$Unpacker" 74 Y_BitStream_takeZerosToByteEnd.1 ∈ zGW := zin 770 (by decide +kernel) (by decide +kernel)
theorem g_162 : Cond.methodLink "RingPacker$Unpacker" 77 Y_Text_add.1 ∈ zGW := zin 746 (by decide +kernel) (by decide +kernel)
theorem g_163 : Cond.fieldLink "RingPacker$Unpacker" 35 "RingPacker$Unpacker" "codes" "LRingPacker$Codes;" ∈ zGW := zin 336 (by decide +kernel) (by decide +kernel)
theorem g_164 : Cond.methodLink "RingPacker$Unpacker" 81 Y_Codes_readDescriptions.1 ∈ zGW := zin 712 (by decide +kernel) (by decide +kernel)
theorem n_165 : Cond.fieldLinkNest "RingPacker$Unpacker" 85 "RingPacker$Counts" "codedBlocks" "I" "RingPacker" ∈ zNW := znin 129 (by decide +kernel) (by decide +kernel)
theorem g_166 : Cond.methodLink "RingPacker$Unpacker" 88 Y_Unpacker_readCommand.1 ∈ zGW := zin 733 (by decide +kernel) (by decide +kernel)
theorem n_167 : Cond.fieldLinkNest "RingPacker$Unpacker" 92 "RingPacker$Codes" "command" "LRingPacker$Code;" "RingPacker" ∈ zNW := znin 207 (by decide +kernel) (by decide +kernel)
theorem g_168 : Cond.methodLink "RingPacker$Unpacker" 96 Y_Code_readWord.1 ∈ zGW := zin 737 (by decide +kernel) (by decide +kernel)
theorem n_169 : Cond.fieldLinkNest "RingPacker$Unpacker" 102 "RingPacker$Counts" "codeWords" "I" "RingPacker" ∈ zNW := znin 138 (by decide +kernel) (by decide +kernel)
theorem n_170 : Cond.fieldLinkNest "RingPacker$Unpacker" 105 "RingPacker" "INSERT_BASE" "[I" "RingPacker" ∈ zNW := znin 741 (by decide +kernel) (by decide +kernel)
theorem n_171 : Cond.fieldLinkNest "RingPacker$Unpacker" 109 "RingPacker" "INSERT_BITS" "[I" "RingPacker" ∈ zNW := znin 742 (by decide +kernel) (by decide +kernel)
theorem n_172 : Cond.fieldLinkNest "RingPacker$Unpacker" 112 "RingPacker" "COPY_BASE" "[I" "RingPacker" ∈ zNW := znin 743 (by decide +kernel) (by decide +kernel)
theorem n_173 : Cond.fieldLinkNest "RingPacker$Unpacker" 115 "RingPacker" "COPY_BITS" "[I" "RingPacker" ∈ zNW := znin 744 (by decide +kernel) (by decide +kernel)
theorem g_174 : Cond.methodLink "RingPacker$Unpacker" 122 Y_Unpacker_readDistance.1 ∈ zGW := zin 747 (by decide +kernel) (by decide +kernel)
theorem g_175 : Cond.methodLink "RingPacker$Unpacker" 130 Y_Unpacker_yieldCopy.1 ∈ zGW := zin 761 (by decide +kernel) (by decide +kernel)
theorem g_176 : Cond.methodLink "RingPacker$Unpacker" 126 Y_Unpacker_yieldWord.1 ∈ zGW := zin 755 (by decide +kernel) (by decide +kernel)
theorem g_177 : Cond.methodLink "RingPacker$Unpacker" 118 Y_Codes_literalAt.1 ∈ zGW := zin 745 (by decide +kernel) (by decide +kernel)
theorem n_178 : Cond.fieldLinkNest "RingPacker$Unpacker" 136 "RingPacker$Codes" "distance" "LRingPacker$Code;" "RingPacker" ∈ zNW := znin 210 (by decide +kernel) (by decide +kernel)
theorem n_179 : Cond.fieldLinkNest "RingPacker$Unpacker" 139 "RingPacker" "DISTANCE_BASE" "[I" "RingPacker" ∈ zNW := znin 752 (by decide +kernel) (by decide +kernel)
theorem n_180 : Cond.fieldLinkNest "RingPacker$Unpacker" 142 "RingPacker" "DISTANCE_BITS" "[I" "RingPacker" ∈ zNW := znin 753 (by decide +kernel) (by decide +kernel)
theorem g_181 : Cond.methodLink "RingPacker$Unpacker" 133 Y_Ring_distanceOf.1 ∈ zGW := zin 751 (by decide +kernel) (by decide +kernel)
theorem g_182 : Cond.methodLink "RingPacker$Unpacker" 145 Y_Ring_remember.1 ∈ zGW := zin 754 (by decide +kernel) (by decide +kernel)
theorem n_183 : Cond.fieldLinkNest "RingPacker$Unpacker" 152 "RingPacker$Counts" "plainCopies" "I" "RingPacker" ∈ zNW := znin 132 (by decide +kernel) (by decide +kernel)
theorem g_184 : Cond.methodLink "RingPacker$Unpacker" 149 Y_Text_get.1 ∈ zGW := zin 765 (by decide +kernel) (by decide +kernel)
theorem g_185 : Cond.methodLink "RingPacker$Unpacker" 155 Y_Words_yieldOf.1 ∈ zGW := zin 759 (by decide +kernel) (by decide +kernel)
theorem n_186 : Cond.fieldLinkNest "RingPacker$Unpacker" 165 "RingPacker$Counts" "wordCopies" "I" "RingPacker" ∈ zNW := znin 135 (by decide +kernel) (by decide +kernel)
theorem g_187 : Cond.methodLink "RingPacker$Unpacker" 161 Y_Words_byteOf.1 ∈ zGW := zin 760 (by decide +kernel) (by decide +kernel)
theorem g_188 : Cond.methodLink "RingPacker$Words" 19 Y_Words_yieldOf.1 ∈ zGW := zin 455 (by decide +kernel) (by decide +kernel)
theorem g_189 : Cond.methodLink "RingPacker$Words" 25 Y_Text_get.1 ∈ zGW := zin 456 (by decide +kernel) (by decide +kernel)
theorem g_190 : Cond.methodLink "RingPacker$Words" 31 Y_Words_byteOf.1 ∈ zGW := zin 457 (by decide +kernel) (by decide +kernel)
theorem g_191 : Cond.fieldLink "RingPacker" 10 "RingPacker" "text" "LRingPacker$Text;" ∈ zGW := zin 346 (by decide +kernel) (by decide +kernel)
theorem g_192 : Cond.methodLink "RingPacker" 44 Y_Text_add.1 ∈ zGW := zin 366 (by decide +kernel) (by decide +kernel)
theorem g_193 : Cond.methodLink "RingPacker" 48 Y_Text_makeEmpty.1 ∈ zGW := zin 377 (by decide +kernel) (by decide +kernel)
theorem n_194 : Cond.fieldLinkNest "RingPacker" 51 "RingPacker$Text" "count" "I" "RingPacker" ∈ zNW := znin 92 (by decide +kernel) (by decide +kernel)
theorem g_195 : Cond.methodLink "RingPacker" 55 Y_Text_get.1 ∈ zGW := zin 389 (by decide +kernel) (by decide +kernel)
theorem g_196 : Cond.fieldLink "RingPacker" 19 "RingPacker" "stream" "LRingPacker$BitStream;" ∈ zGW := zin 347 (by decide +kernel) (by decide +kernel)
theorem g_197 : Cond.methodLink "RingPacker" 59 Y_BitStream_startWriting.1 ∈ zGW := zin 397 (by decide +kernel) (by decide +kernel)
theorem g_198 : Cond.fieldLink "RingPacker" 33 "RingPacker" "packer" "LRingPacker$Packer;" ∈ zGW := zin 349 (by decide +kernel) (by decide +kernel)
theorem g_199 : Cond.methodLink "RingPacker" 62 Y_Packer_start.1 ∈ zGW := zin 401 (by decide +kernel) (by decide +kernel)
theorem g_200 : Cond.methodLink "RingPacker" 65 Y_BitStream_give.1 ∈ zGW := zin 413 (by decide +kernel) (by decide +kernel)
theorem g_201 : Cond.methodLink "RingPacker" 73 Y_BitStream_finishWriting.1 ∈ zGW := zin 678 (by decide +kernel) (by decide +kernel)
theorem g_202 : Cond.fieldLink "RingPacker" 26 "RingPacker" "counts" "LRingPacker$Counts;" ∈ zGW := zin 348 (by decide +kernel) (by decide +kernel)
theorem n_203 : Cond.fieldLinkNest "RingPacker" 76 "RingPacker$Packer" "counts" "LRingPacker$Counts;" "RingPacker" ∈ zNW := znin 304 (by decide +kernel) (by decide +kernel)
theorem g_204 : Cond.methodLink "RingPacker" 77 Y_Counts_become.1 ∈ zGW := zin 684 (by decide +kernel) (by decide +kernel)
theorem n_205 : Cond.fieldLinkNest "RingPacker" 81 "RingPacker$BitStream" "count" "I" "RingPacker" ∈ zNW := znin 107 (by decide +kernel) (by decide +kernel)
theorem g_206 : Cond.methodLink "RingPacker" 69 Y_Packer_writeBlock.1 ∈ zGW := zin 417 (by decide +kernel) (by decide +kernel)
theorem g_207 : Cond.fieldLink "RingPacker" 40 "RingPacker" "unpacker" "LRingPacker$Unpacker;" ∈ zGW := zin 350 (by decide +kernel) (by decide +kernel)
theorem g_208 : Cond.methodLink "RingPacker" 82 Y_Unpacker_readAll.1 ∈ zGW := zin 693 (by decide +kernel) (by decide +kernel)
theorem n_209 : Cond.fieldLinkNest "RingPacker" 86 "RingPacker$Unpacker" "draft" "LRingPacker$Text;" "RingPacker" ∈ zNW := znin 332 (by decide +kernel) (by decide +kernel)
theorem g_210 : Cond.methodLink "RingPacker" 89 Y_Text_become.1 ∈ zGW := zin 780 (by decide +kernel) (by decide +kernel)
theorem n_211 : Cond.fieldLinkNest "RingPacker" 92 "RingPacker$Unpacker" "counts" "LRingPacker$Counts;" "RingPacker" ∈ zNW := znin 334 (by decide +kernel) (by decide +kernel)
theorem g_212 : Cond.methodLink "RingPacker" 93 Y_BitStream_get.1 ∈ zGW := zin 793 (by decide +kernel) (by decide +kernel)
theorem g_213 : Cond.methodLink "RingPacker" 94 Y_BitStream_change.1 ∈ zGW := zin 801 (by decide +kernel) (by decide +kernel)
theorem g_214 : Cond.methodLink "RingPacker" 98 Y_BitStream_add.1 ∈ zGW := zin 810 (by decide +kernel) (by decide +kernel)
theorem g_215 : Cond.methodLink "RingPacker" 99 Y_BitStream_keep.1 ∈ zGW := zin 818 (by decide +kernel) (by decide +kernel)
theorem n_216 : Cond.fieldLinkNest "RingPacker" 102 "RingPacker$Counts" "codedBlocks" "I" "RingPacker" ∈ zNW := znin 130 (by decide +kernel) (by decide +kernel)
theorem n_217 : Cond.fieldLinkNest "RingPacker" 105 "RingPacker$Counts" "plainCopies" "I" "RingPacker" ∈ zNW := znin 133 (by decide +kernel) (by decide +kernel)
theorem n_218 : Cond.fieldLinkNest "RingPacker" 108 "RingPacker$Counts" "wordCopies" "I" "RingPacker" ∈ zNW := znin 136 (by decide +kernel) (by decide +kernel)
theorem n_219 : Cond.fieldLinkNest "RingPacker" 111 "RingPacker$Counts" "codeWords" "I" "RingPacker" ∈ zNW := znin 139 (by decide +kernel) (by decide +kernel)
theorem g_220 : Cond.methodLink "RingPackerModel" 58 Y_Mo_isByte.1 ∈ zGW := zin 942 (by decide +kernel) (by decide +kernel)
theorem g_221 : Cond.fieldLink "RingPackerModel" 62 "RingPackerModel" "length" "I" ∈ zGW := zin 844 (by decide +kernel) (by decide +kernel)
theorem g_222 : Cond.fieldLink "RingPackerModel" 7 "RingPackerModel" "text" "[I" ∈ zGW := zin 845 (by decide +kernel) (by decide +kernel)
theorem g_223 : Cond.fieldLink "RingPackerModel" 66 "RingPackerModel" "size" "I" ∈ zGW := zin 846 (by decide +kernel) (by decide +kernel)
theorem g_224 : Cond.fieldLink "RingPackerModel" 13 "RingPackerModel" "stream" "[I" ∈ zGW := zin 847 (by decide +kernel) (by decide +kernel)
theorem g_225 : Cond.fieldLink "RingPackerModel" 69 "RingPackerModel" "codedCount" "I" ∈ zGW := zin 848 (by decide +kernel) (by decide +kernel)
theorem g_226 : Cond.fieldLink "RingPackerModel" 72 "RingPackerModel" "copyCount" "I" ∈ zGW := zin 849 (by decide +kernel) (by decide +kernel)
theorem g_227 : Cond.fieldLink "RingPackerModel" 75 "RingPackerModel" "wordCount" "I" ∈ zGW := zin 850 (by decide +kernel) (by decide +kernel)
theorem g_228 : Cond.fieldLink "RingPackerModel" 78 "RingPackerModel" "symbolCount" "I" ∈ zGW := zin 851 (by decide +kernel) (by decide +kernel)
theorem g_229 : Cond.methodLink "RingPackerModel" 94 Y_Mo_letter.1 ∈ zGW := zin 1031 (by decide +kernel) (by decide +kernel)
theorem g_230 : Cond.fieldLink "RingPackerModel" 98 "RingPackerModel" "best" "I" ∈ zGW := zin 867 (by decide +kernel) (by decide +kernel)
theorem g_231 : Cond.fieldLink "RingPackerModel" 101 "RingPackerModel" "near" "I" ∈ zGW := zin 868 (by decide +kernel) (by decide +kernel)
theorem g_232 : Cond.methodLink "RingPackerModel" 104 Y_Mo_bytesOf.1 ∈ zGW := zin 1021 (by decide +kernel) (by decide +kernel)
theorem g_233 : Cond.methodLink "RingPackerModel" 108 Y_Mo_byteOf.1 ∈ zGW := zin 1028 (by decide +kernel) (by decide +kernel)
theorem g_234 : Cond.fieldLink "RingPackerModel" 111 "RingPackerModel" "wordBytes" "I" ∈ zGW := zin 869 (by decide +kernel) (by decide +kernel)
theorem g_235 : Cond.methodLink "RingPackerModel" 114 Y_Mo_stands.1 ∈ zGW := zin 1024 (by decide +kernel) (by decide +kernel)
theorem g_236 : Cond.fieldLink "RingPackerModel" 118 "RingPackerModel" "wordLength" "I" ∈ zGW := zin 870 (by decide +kernel) (by decide +kernel)
theorem g_237 : Cond.fieldLink "RingPackerModel" 121 "RingPackerModel" "wordNumber" "I" ∈ zGW := zin 871 (by decide +kernel) (by decide +kernel)
theorem g_238 : Cond.fieldLink "RingPackerModel" 28 "RingPackerModel" "ring" "[I" ∈ zGW := zin 857 (by decide +kernel) (by decide +kernel)
theorem g_239 : Cond.fieldLink "RingPackerModel" 46 "RingPackerModel" "rest" "[I" ∈ zGW := zin 864 (by decide +kernel) (by decide +kernel)
theorem g_240 : Cond.fieldLink "RingPackerModel" 124 "RingPackerModel" "commands" "I" ∈ zGW := zin 859 (by decide +kernel) (by decide +kernel)
theorem g_241 : Cond.fieldLink "RingPackerModel" 43 "RingPackerModel" "symbol" "[I" ∈ zGW := zin 863 (by decide +kernel) (by decide +kernel)
theorem g_242 : Cond.methodLink "RingPackerModel" 127 Y_Mo_lowest.1 ∈ zGW := zin 1051 (by decide +kernel) (by decide +kernel)
theorem g_243 : Cond.fieldLink "RingPackerModel" 34 "RingPackerModel" "insert" "[I" ∈ zGW := zin 860 (by decide +kernel) (by decide +kernel)
theorem g_244 : Cond.fieldLink "RingPackerModel" 40 "RingPackerModel" "span" "[I" ∈ zGW := zin 862 (by decide +kernel) (by decide +kernel)
theorem g_245 : Cond.fieldLink "RingPackerModel" 49 "RingPackerModel" "yields" "[I" ∈ zGW := zin 865 (by decide +kernel) (by decide +kernel)
theorem g_246 : Cond.fieldLink "RingPackerModel" 52 "RingPackerModel" "isWord" "[I" ∈ zGW := zin 866 (by decide +kernel) (by decide +kernel)
theorem g_247 : Cond.fieldLink "RingPackerModel" 37 "RingPackerModel" "kind" "[I" ∈ zGW := zin 861 (by decide +kernel) (by decide +kernel)
theorem g_248 : Cond.methodLink "RingPackerModel" 131 Y_Mo_distance.1 ∈ zGW := zin 1047 (by decide +kernel) (by decide +kernel)
theorem g_249 : Cond.methodLink "RingPackerModel" 135 Y_Mo_remember.1 ∈ zGW := zin 1054 (by decide +kernel) (by decide +kernel)
theorem g_250 : Cond.methodLink "RingPackerModel" 146 Y_Mo_command.1 ∈ zGW := zin 1043 (by decide +kernel) (by decide +kernel)
theorem g_251 : Cond.methodLink "RingPackerModel" 139 Y_Mo_match.1 ∈ zGW := zin 1013 (by decide +kernel) (by decide +kernel)
theorem g_252 : Cond.methodLink "RingPackerModel" 143 Y_Mo_seek.1 ∈ zGW := zin 1017 (by decide +kernel) (by decide +kernel)
theorem g_253 : Cond.fieldLink "RingPackerModel" 19 "RingPackerModel" "times" "[I" ∈ zGW := zin 854 (by decide +kernel) (by decide +kernel)
theorem g_254 : Cond.fieldLink "RingPackerModel" 22 "RingPackerModel" "width" "[I" ∈ zGW := zin 855 (by decide +kernel) (by decide +kernel)
theorem g_255 : Cond.methodLink "RingPackerModel" 150 Y_Mo_share.1 ∈ zGW := zin 1097 (by decide +kernel) (by decide +kernel)
theorem g_256 : Cond.fieldLink "RingPackerModel" 25 "RingPackerModel" "word" "[I" ∈ zGW := zin 856 (by decide +kernel) (by decide +kernel)
theorem g_257 : Cond.fieldLink "RingPackerModel" 16 "RingPackerModel" "bits" "[I" ∈ zGW := zin 853 (by decide +kernel) (by decide +kernel)
theorem g_258 : Cond.fieldLink "RingPackerModel" 154 "RingPackerModel" "at" "I" ∈ zGW := zin 852 (by decide +kernel) (by decide +kernel)
theorem g_259 : Cond.methodLink "RingPackerModel" 157 Y_Mo_symbolsOf.1 ∈ zGW := zin 1090 (by decide +kernel) (by decide +kernel)
theorem g_260 : Cond.methodLink "RingPackerModel" 160 Y_Mo_weigh.1 ∈ zGW := zin 1093 (by decide +kernel) (by decide +kernel)
theorem g_261 : Cond.methodLink "RingPackerModel" 163 Y_Mo_assign.1 ∈ zGW := zin 1101 (by decide +kernel) (by decide +kernel)
theorem g_262 : Cond.methodLink "RingPackerModel" 166 Y_Mo_number.1 ∈ zGW := zin 1001 (by decide +kernel) (by decide +kernel)
theorem g_263 : Cond.methodLink "RingPackerModel" 169 Y_Mo_full.1 ∈ zGW := zin 1105 (by decide +kernel) (by decide +kernel)
theorem g_264 : Cond.methodLink "RingPackerModel" 172 Y_Mo_wide.1 ∈ zGW := zin 1109 (by decide +kernel) (by decide +kernel)
theorem g_265 : Cond.methodLink "RingPackerModel" 175 Y_Mo_insertKind.1 ∈ zGW := zin 1070 (by decide +kernel) (by decide +kernel)
theorem g_266 : Cond.methodLink "RingPackerModel" 178 Y_Mo_symbol.1 ∈ zGW := zin 1073 (by decide +kernel) (by decide +kernel)
theorem g_267 : Cond.methodLink "RingPackerModel" 180 Y_Mo_copyFrom.1 ∈ zGW := zin 1077 (by decide +kernel) (by decide +kernel)
theorem g_268 : Cond.methodLink "RingPackerModel" 183 Y_Mo_copyBits.1 ∈ zGW := zin 1080 (by decide +kernel) (by decide +kernel)
theorem g_269 : Cond.methodLink "RingPackerModel" 186 Y_Mo_extra.1 ∈ zGW := zin 1083 (by decide +kernel) (by decide +kernel)
theorem g_270 : Cond.methodLink "RingPackerModel" 189 Y_Mo_forget.1 ∈ zGW := zin 1062 (by decide +kernel) (by decide +kernel)
theorem g_271 : Cond.methodLink "RingPackerModel" 192 Y_Mo_through.1 ∈ zGW := zin 1066 (by decide +kernel) (by decide +kernel)
theorem g_272 : Cond.methodLink "RingPackerModel" 196 Y_Mo_describe.1 ∈ zGW := zin 1086 (by decide +kernel) (by decide +kernel)
theorem g_273 : Cond.methodLink "RingPackerModel" 199 Y_Mo_parse.1 ∈ zGW := zin 1009 (by decide +kernel) (by decide +kernel)
theorem g_274 : Cond.fieldLink "RingPackerModel" 31 "RingPackerModel" "kept" "[I" ∈ zGW := zin 858 (by decide +kernel) (by decide +kernel)
theorem g_275 : Cond.methodLink "RingPackerModel" 202 Y_Mo_block.1 ∈ zGW := zin 1058 (by decide +kernel) (by decide +kernel)
theorem g_276 : Cond.methodLink "RingPackerModel" 205 Y_Mo_tally.1 ∈ zGW := zin 1112 (by decide +kernel) (by decide +kernel)
theorem g_277 : Cond.methodLink "RingPackerModel" 208 Y_Mo_counts.1 ∈ zGW := zin 997 (by decide +kernel) (by decide +kernel)
theorem g_278 : Cond.methodLink "RingPackerModel" 211 Y_Mo_choose.1 ∈ zGW := zin 1005 (by decide +kernel) (by decide +kernel)
theorem g_279 : Cond.fieldLink "RingPackerModel" 214 "RingPackerModel" "broken" "Z" ∈ zGW := zin 872 (by decide +kernel) (by decide +kernel)
theorem g_280 : Cond.methodLink "RingPackerModel" 218 Y_Mo_take.1 ∈ zGW := zin 1124 (by decide +kernel) (by decide +kernel)
theorem g_281 : Cond.methodLink "RingPackerModel" 221 Y_Mo_readSimple.1 ∈ zGW := zin 1136 (by decide +kernel) (by decide +kernel)
theorem g_282 : Cond.fieldLink "RingPackerModel" 224 "RingPackerModel" "there" "I" ∈ zGW := zin 873 (by decide +kernel) (by decide +kernel)
theorem g_283 : Cond.fieldLink "RingPackerModel" 55 "RingPackerModel" "made" "[I" ∈ zGW := zin 874 (by decide +kernel) (by decide +kernel)
theorem g_284 : Cond.methodLink "RingPackerModel" 227 Y_Mo_readSymbol.1 ∈ zGW := zin 1140 (by decide +kernel) (by decide +kernel)
theorem g_285 : Cond.methodLink "RingPackerModel" 230 Y_Mo_readDistance.1 ∈ zGW := zin 1152 (by decide +kernel) (by decide +kernel)
theorem g_286 : Cond.methodLink "RingPackerModel" 233 Y_Mo_make.1 ∈ zGW := zin 1144 (by decide +kernel) (by decide +kernel)
theorem g_287 : Cond.methodLink "RingPackerModel" 236 Y_Mo_readCode.1 ∈ zGW := zin 1132 (by decide +kernel) (by decide +kernel)
theorem g_288 : Cond.methodLink "RingPackerModel" 239 Y_Mo_copy.1 ∈ zGW := zin 1148 (by decide +kernel) (by decide +kernel)
theorem g_289 : Cond.methodLink "RingPackerModel" 245 Y_Mo_pad.1 ∈ zGW := zin 1156 (by decide +kernel) (by decide +kernel)
theorem g_290 : Cond.methodLink "RingPackerModel" 242 Y_Mo_readCoded.1 ∈ zGW := zin 1128 (by decide +kernel) (by decide +kernel)
theorem g_291 : Cond.methodLink "RingPackerModel" 248 Y_Mo_readBlock.1 ∈ zGW := zin 1120 (by decide +kernel) (by decide +kernel)
theorem g_292 : Cond.methodLink "RingPackerLaw" 13 Y_Rp_put.1 ∈ zGW := zin 362 (by decide +kernel) (by decide +kernel)
theorem g_293 : Cond.methodLink "RingPackerLaw" 17 Y_Mo_put.1 ∈ zGW := zin 938 (by decide +kernel) (by decide +kernel)
theorem g_294 : Cond.methodLink "RingPackerLaw" 18 Y_Rp_clear.1 ∈ zGW := zin 373 (by decide +kernel) (by decide +kernel)
theorem g_295 : Cond.methodLink "RingPackerLaw" 21 Y_Mo_clear.1 ∈ zGW := zin 945 (by decide +kernel) (by decide +kernel)
theorem g_296 : Cond.methodLink "RingPackerLaw" 22 Y_Rp_length.1 ∈ zGW := zin 381 (by decide +kernel) (by decide +kernel)
theorem g_297 : Cond.methodLink "RingPackerLaw" 26 Y_Mo_length.1 ∈ zGW := zin 949 (by decide +kernel) (by decide +kernel)
theorem g_298 : Cond.methodLink "RingPackerLaw" 27 Y_Rp_at.1 ∈ zGW := zin 385 (by decide +kernel) (by decide +kernel)
theorem g_299 : Cond.methodLink "RingPackerLaw" 31 Y_Mo_at.1 ∈ zGW := zin 953 (by decide +kernel) (by decide +kernel)
theorem g_300 : Cond.methodLink "RingPackerLaw" 32 Y_Rp_pack.1 ∈ zGW := zin 393 (by decide +kernel) (by decide +kernel)
theorem g_301 : Cond.methodLink "RingPackerLaw" 35 Y_Mo_pack.1 ∈ zGW := zin 993 (by decide +kernel) (by decide +kernel)
theorem g_302 : Cond.methodLink "RingPackerLaw" 36 Y_Rp_unpack.1 ∈ zGW := zin 689 (by decide +kernel) (by decide +kernel)
theorem g_303 : Cond.methodLink "RingPackerLaw" 39 Y_Mo_unpack.1 ∈ zGW := zin 1116 (by decide +kernel) (by decide +kernel)
theorem g_304 : Cond.methodLink "RingPackerLaw" 40 Y_Rp_size.1 ∈ zGW := zin 785 (by decide +kernel) (by decide +kernel)
theorem g_305 : Cond.methodLink "RingPackerLaw" 43 Y_Mo_size.1 ∈ zGW := zin 957 (by decide +kernel) (by decide +kernel)
theorem g_306 : Cond.methodLink "RingPackerLaw" 44 Y_Rp_byteAt.1 ∈ zGW := zin 789 (by decide +kernel) (by decide +kernel)
theorem g_307 : Cond.methodLink "RingPackerLaw" 47 Y_Mo_byteAt.1 ∈ zGW := zin 961 (by decide +kernel) (by decide +kernel)
theorem g_308 : Cond.methodLink "RingPackerLaw" 48 Y_Rp_poke.1 ∈ zGW := zin 797 (by decide +kernel) (by decide +kernel)
theorem g_309 : Cond.methodLink "RingPackerLaw" 52 Y_Mo_poke.1 ∈ zGW := zin 965 (by decide +kernel) (by decide +kernel)
theorem g_310 : Cond.methodLink "RingPackerLaw" 53 Y_Rp_append.1 ∈ zGW := zin 806 (by decide +kernel) (by decide +kernel)
theorem g_311 : Cond.methodLink "RingPackerLaw" 56 Y_Mo_append.1 ∈ zGW := zin 969 (by decide +kernel) (by decide +kernel)
theorem g_312 : Cond.methodLink "RingPackerLaw" 57 Y_Rp_trim.1 ∈ zGW := zin 814 (by decide +kernel) (by decide +kernel)
theorem g_313 : Cond.methodLink "RingPackerLaw" 60 Y_Mo_trim.1 ∈ zGW := zin 973 (by decide +kernel) (by decide +kernel)
theorem g_314 : Cond.methodLink "RingPackerLaw" 61 Y_Rp_coded.1 ∈ zGW := zin 822 (by decide +kernel) (by decide +kernel)
theorem g_315 : Cond.methodLink "RingPackerLaw" 64 Y_Mo_coded.1 ∈ zGW := zin 977 (by decide +kernel) (by decide +kernel)
theorem g_316 : Cond.methodLink "RingPackerLaw" 65 Y_Rp_copies.1 ∈ zGW := zin 826 (by decide +kernel) (by decide +kernel)
theorem g_317 : Cond.methodLink "RingPackerLaw" 68 Y_Mo_copies.1 ∈ zGW := zin 981 (by decide +kernel) (by decide +kernel)
theorem g_318 : Cond.methodLink "RingPackerLaw" 69 Y_Rp_words.1 ∈ zGW := zin 830 (by decide +kernel) (by decide +kernel)
theorem g_319 : Cond.methodLink "RingPackerLaw" 72 Y_Mo_words.1 ∈ zGW := zin 985 (by decide +kernel) (by decide +kernel)
theorem g_320 : Cond.methodLink "RingPackerLaw" 73 Y_Rp_symbols.1 ∈ zGW := zin 834 (by decide +kernel) (by decide +kernel)
theorem g_321 : Cond.methodLink "RingPackerLaw" 76 Y_Mo_symbols.1 ∈ zGW := zin 989 (by decide +kernel) (by decide +kernel)
theorem g_322 : Cond.methodLink "RingPacker" 1 Lib.objectInit ∈ zGW := zin 79 (by decide +kernel) (by decide +kernel)
theorem g_323 : Cond.classLink "RingPacker" 7 "RingPacker$Text" ∈ zGW := zin 82 (by decide +kernel) (by decide +kernel)
theorem g_324 : Cond.instantiable "RingPacker$Text" 2 ∈ zGW := zin 83 (by decide +kernel) (by decide +kernel)
theorem g_325 : Cond.initialized "RingPacker$Text" ∈ zGW := zin 56 (by decide +kernel) (by decide +kernel)
theorem g_326 : Cond.methodLink "RingPacker$Text" 3 Lib.objectInit ∈ zGW := zin 87 (by decide +kernel) (by decide +kernel)
theorem n_327 : Cond.methodLinkNest "RingPacker" 9 Y_Text_init.1 "RingPacker" ∈ zNW := znin 84 (by decide +kernel) (by decide +kernel)
theorem g_328 : Cond.classLink "RingPacker" 16 "RingPacker$BitStream" ∈ zGW := zin 99 (by decide +kernel) (by decide +kernel)
theorem g_329 : Cond.instantiable "RingPacker$BitStream" 4 ∈ zGW := zin 100 (by decide +kernel) (by decide +kernel)
theorem g_330 : Cond.initialized "RingPacker$BitStream" ∈ zGW := zin 57 (by decide +kernel) (by decide +kernel)
theorem g_331 : Cond.methodLink "RingPacker$BitStream" 3 Lib.objectInit ∈ zGW := zin 104 (by decide +kernel) (by decide +kernel)
theorem n_332 : Cond.methodLinkNest "RingPacker" 18 Y_BitStream_init.1 "RingPacker" ∈ zNW := znin 101 (by decide +kernel) (by decide +kernel)
theorem g_333 : Cond.classLink "RingPacker" 23 "RingPacker$Counts" ∈ zGW := zin 122 (by decide +kernel) (by decide +kernel)
theorem g_334 : Cond.instantiable "RingPacker$Counts" 4 ∈ zGW := zin 123 (by decide +kernel) (by decide +kernel)
theorem g_335 : Cond.initialized "RingPacker$Counts" ∈ zGW := zin 58 (by decide +kernel) (by decide +kernel)
theorem g_336 : Cond.methodLink "RingPacker$Counts" 1 Lib.objectInit ∈ zGW := zin 127 (by decide +kernel) (by decide +kernel)
theorem n_337 : Cond.methodLinkNest "RingPacker" 25 Y_Counts_init.1 "RingPacker" ∈ zNW := znin 124 (by decide +kernel) (by decide +kernel)
theorem g_338 : Cond.classLink "RingPacker" 30 "RingPacker$Packer" ∈ zGW := zin 149 (by decide +kernel) (by decide +kernel)
theorem g_339 : Cond.instantiable "RingPacker$Packer" 4 ∈ zGW := zin 150 (by decide +kernel) (by decide +kernel)
theorem g_340 : Cond.initialized "RingPacker$Packer" ∈ zGW := zin 59 (by decide +kernel) (by decide +kernel)
theorem g_341 : Cond.methodLink "RingPacker$Packer" 3 Lib.objectInit ∈ zGW := zin 154 (by decide +kernel) (by decide +kernel)
theorem g_342 : Cond.classLink "RingPacker$Packer" 9 "RingPacker$Counts" ∈ zGW := zin 155 (by decide +kernel) (by decide +kernel)
theorem n_343 : Cond.methodLinkNest "RingPacker$Packer" 11 Y_Counts_init.1 "RingPacker" ∈ zNW := znin 156 (by decide +kernel) (by decide +kernel)
theorem g_344 : Cond.classLink "RingPacker$Packer" 18 "RingPacker$Ring" ∈ zGW := zin 157 (by decide +kernel) (by decide +kernel)
theorem g_345 : Cond.instantiable "RingPacker$Ring" 1 ∈ zGW := zin 158 (by decide +kernel) (by decide +kernel)
theorem g_346 : Cond.initialized "RingPacker$Ring" ∈ zGW := zin 60 (by decide +kernel) (by decide +kernel)
theorem g_347 : Cond.methodLink "RingPacker$Ring" 3 Lib.objectInit ∈ zGW := zin 162 (by decide +kernel) (by decide +kernel)
theorem n_348 : Cond.methodLinkNest "RingPacker$Packer" 20 Y_Ring_init.1 "RingPacker" ∈ zNW := znin 159 (by decide +kernel) (by decide +kernel)
theorem g_349 : Cond.classLink "RingPacker$Packer" 25 "RingPacker$Codes" ∈ zGW := zin 167 (by decide +kernel) (by decide +kernel)
theorem g_350 : Cond.instantiable "RingPacker$Codes" 4 ∈ zGW := zin 168 (by decide +kernel) (by decide +kernel)
theorem g_351 : Cond.initialized "RingPacker$Codes" ∈ zGW := zin 61 (by decide +kernel) (by decide +kernel)
theorem g_352 : Cond.methodLink "RingPacker$Codes" 3 Lib.objectInit ∈ zGW := zin 172 (by decide +kernel) (by decide +kernel)
theorem g_353 : Cond.classLink "RingPacker$Codes" 9 "RingPacker$Code" ∈ zGW := zin 173 (by decide +kernel) (by decide +kernel)
theorem g_354 : Cond.instantiable "RingPacker$Code" 7 ∈ zGW := zin 174 (by decide +kernel) (by decide +kernel)
theorem g_355 : Cond.initialized "RingPacker$Code" ∈ zGW := zin 62 (by decide +kernel) (by decide +kernel)
theorem g_356 : Cond.methodLink "RingPacker$Code" 3 Lib.objectInit ∈ zGW := zin 178 (by decide +kernel) (by decide +kernel)
theorem g_357 : Cond.methodLink "RingPacker$Codes" 11 Y_Code_init.1 ∈ zGW := zin 175 (by decide +kernel) (by decide +kernel)
theorem n_358 : Cond.methodLinkNest "RingPacker$Packer" 27 Y_Codes_init.1 "RingPacker" ∈ zNW := znin 169 (by decide +kernel) (by decide +kernel)
theorem g_359 : Cond.classLink "RingPacker$Packer" 32 "RingPacker$Plan" ∈ zGW := zin 220 (by decide +kernel) (by decide +kernel)
theorem g_360 : Cond.instantiable "RingPacker$Plan" 12 ∈ zGW := zin 221 (by decide +kernel) (by decide +kernel)
theorem g_361 : Cond.initialized "RingPacker$Plan" ∈ zGW := zin 63 (by decide +kernel) (by decide +kernel)
theorem g_362 : Cond.methodLink "RingPacker$Plan" 3 Lib.objectInit ∈ zGW := zin 225 (by decide +kernel) (by decide +kernel)
theorem g_363 : Cond.classLink "RingPacker$Plan" 9 "RingPacker$Finder" ∈ zGW := zin 226 (by decide +kernel) (by decide +kernel)
theorem g_364 : Cond.instantiable "RingPacker$Finder" 5 ∈ zGW := zin 227 (by decide +kernel) (by decide +kernel)
theorem g_365 : Cond.initialized "RingPacker$Finder" ∈ zGW := zin 64 (by decide +kernel) (by decide +kernel)
theorem g_366 : Cond.methodLink "RingPacker$Finder" 3 Lib.objectInit ∈ zGW := zin 231 (by decide +kernel) (by decide +kernel)
theorem n_367 : Cond.methodLinkNest "RingPacker$Plan" 11 Y_Finder_init.1 "RingPacker" ∈ zNW := znin 228 (by decide +kernel) (by decide +kernel)
theorem g_368 : Cond.classLink "RingPacker$Plan" 18 "RingPacker$Ring" ∈ zGW := zin 253 (by decide +kernel) (by decide +kernel)
theorem n_369 : Cond.methodLinkNest "RingPacker$Plan" 20 Y_Ring_init.1 "RingPacker" ∈ zNW := znin 254 (by decide +kernel) (by decide +kernel)
theorem n_370 : Cond.methodLinkNest "RingPacker$Packer" 34 Y_Plan_init.1 "RingPacker" ∈ zNW := znin 222 (by decide +kernel) (by decide +kernel)
theorem n_371 : Cond.methodLinkNest "RingPacker" 32 Y_Packer_init.1 "RingPacker" ∈ zNW := znin 151 (by decide +kernel) (by decide +kernel)
theorem g_372 : Cond.classLink "RingPacker" 37 "RingPacker$Unpacker" ∈ zGW := zin 317 (by decide +kernel) (by decide +kernel)
theorem g_373 : Cond.instantiable "RingPacker$Unpacker" 4 ∈ zGW := zin 318 (by decide +kernel) (by decide +kernel)
theorem g_374 : Cond.initialized "RingPacker$Unpacker" ∈ zGW := zin 65 (by decide +kernel) (by decide +kernel)
theorem g_375 : Cond.methodLink "RingPacker$Unpacker" 3 Lib.objectInit ∈ zGW := zin 322 (by decide +kernel) (by decide +kernel)
theorem g_376 : Cond.classLink "RingPacker$Unpacker" 9 "RingPacker$Text" ∈ zGW := zin 323 (by decide +kernel) (by decide +kernel)
theorem n_377 : Cond.methodLinkNest "RingPacker$Unpacker" 11 Y_Text_init.1 "RingPacker" ∈ zNW := znin 324 (by decide +kernel) (by decide +kernel)
theorem g_378 : Cond.classLink "RingPacker$Unpacker" 18 "RingPacker$Counts" ∈ zGW := zin 325 (by decide +kernel) (by decide +kernel)
theorem n_379 : Cond.methodLinkNest "RingPacker$Unpacker" 20 Y_Counts_init.1 "RingPacker" ∈ zNW := znin 326 (by decide +kernel) (by decide +kernel)
theorem g_380 : Cond.classLink "RingPacker$Unpacker" 25 "RingPacker$Ring" ∈ zGW := zin 327 (by decide +kernel) (by decide +kernel)
theorem n_381 : Cond.methodLinkNest "RingPacker$Unpacker" 27 Y_Ring_init.1 "RingPacker" ∈ zNW := znin 328 (by decide +kernel) (by decide +kernel)
theorem g_382 : Cond.classLink "RingPacker$Unpacker" 32 "RingPacker$Codes" ∈ zGW := zin 329 (by decide +kernel) (by decide +kernel)
theorem n_383 : Cond.methodLinkNest "RingPacker$Unpacker" 34 Y_Codes_init.1 "RingPacker" ∈ zNW := znin 330 (by decide +kernel) (by decide +kernel)
theorem n_384 : Cond.methodLinkNest "RingPacker" 39 Y_Unpacker_init.1 "RingPacker" ∈ zNW := znin 319 (by decide +kernel) (by decide +kernel)
theorem g_385 : Cond.methodLink "RingPackerModel" 1 Lib.objectInit ∈ zGW := zin 843 (by decide +kernel) (by decide +kernel)
theorem g_386 : Cond.classLink "RingPackerLaw" 7 "RingPacker" ∈ zGW := zin 74 (by decide +kernel) (by decide +kernel)
theorem g_387 : Cond.instantiable "RingPacker" 5 ∈ zGW := zin 75 (by decide +kernel) (by decide +kernel)
theorem g_388 : Cond.initialized "RingPacker" ∈ zGW := zin 55 (by decide +kernel) (by decide +kernel)
theorem g_389 : Cond.classLink "RingPackerLaw" 10 "RingPackerModel" ∈ zGW := zin 838 (by decide +kernel) (by decide +kernel)
theorem g_390 : Cond.instantiable "RingPackerModel" 31 ∈ zGW := zin 839 (by decide +kernel) (by decide +kernel)
theorem g_391 : Cond.initialized "RingPackerModel" ∈ zGW := zin 66 (by decide +kernel) (by decide +kernel)
theorem g_392 : Cond.methodLink "RingPackerLaw" 9 Y_Rp_init.1 ∈ zGW := zin 76 (by decide +kernel) (by decide +kernel)
theorem g_393 : Cond.methodLink "RingPackerLaw" 12 Y_Mo_init.1 ∈ zGW := zin 840 (by decide +kernel) (by decide +kernel)
theorem zMin : Cond.static Lib.Math.min.name ∈ zGW ∧ Cond.initialized "java/lang/Math" ∈ zGW ∧ Cond.code Lib.Math.min.name Lib.Math.min.code 2 (some .int) ∈ zGW := ⟨zin 422 (by decide +kernel) (by decide +kernel), zin 67 (by decide +kernel) (by decide +kernel), zin 423 (by decide +kernel) (by decide +kernel)⟩
theorem zCopy : Cond.native arraycopyName ∈ zGW ∧ Cond.static arraycopyName ∈ zGW ∧ Cond.initialized "java/lang/System" ∈ zGW := ⟨zin 434 (by decide +kernel) (by decide +kernel), zin 433 (by decide +kernel) (by decide +kernel), zin 68 (by decide +kernel) (by decide +kernel)⟩
theorem zObj : Cond.instanceMethod Lib.objectInit ∈ zGW ∧ Cond.code Lib.objectInit ⟨#[0xb1]⟩ 1 none ∈ zGW := ⟨zin 80 (by decide +kernel) (by decide +kernel), zin 81 (by decide +kernel) (by decide +kernel)⟩
theorem zArr : Cond.arrayClass .int ∈ zGW := zin 98 (by decide +kernel) (by decide +kernel)
theorem f_BitStream_0 : ∀ j, j < 4 → defaultValue (t_BitStream j) = vp_V [.null, .int 0, .int 0, .int 0] j := by
  intro j hj
  rcases (show j = 0 ∨ j = 1 ∨ j = 2 ∨ j = 3 by omega) with rfl | rfl | rfl | rfl <;> rfl
theorem ly_BitStream : ∀ w ∈ u_ws "RingPacker$BitStream" F_BitStream 4, w ∈ zGW := by
  intro w hw
  obtain ⟨k, hk, rfl⟩ := List.mem_map.mp hw
  have hk := List.mem_range.mp hk
  rcases (show k = 0 ∨ k = 1 ∨ k = 2 ∨ k = 3 by omega) with rfl | rfl | rfl | rfl
  · exact zin 113 (by decide +kernel) (by decide +kernel)
  · exact zin 115 (by decide +kernel) (by decide +kernel)
  · exact zin 117 (by decide +kernel) (by decide +kernel)
  · exact zin 119 (by decide +kernel) (by decide +kernel)
theorem f_Code_0 : ∀ j, j < 7 → defaultValue (t_Code j) = vp_V [.int 0, .int 0, .null, .null, .null, .null, .int 0] j := by
  intro j hj
  rcases (show j = 0 ∨ j = 1 ∨ j = 2 ∨ j = 3 ∨ j = 4 ∨ j = 5 ∨ j = 6 by omega) with rfl | rfl | rfl | rfl | rfl | rfl | rfl <;> rfl
theorem ly_Code : ∀ w ∈ u_ws "RingPacker$Code" F_Code 7, w ∈ zGW := by
  intro w hw
  obtain ⟨k, hk, rfl⟩ := List.mem_map.mp hw
  have hk := List.mem_range.mp hk
  rcases (show k = 0 ∨ k = 1 ∨ k = 2 ∨ k = 3 ∨ k = 4 ∨ k = 5 ∨ k = 6 by omega) with rfl | rfl | rfl | rfl | rfl | rfl | rfl
  · exact zin 186 (by decide +kernel) (by decide +kernel)
  · exact zin 188 (by decide +kernel) (by decide +kernel)
  · exact zin 190 (by decide +kernel) (by decide +kernel)
  · exact zin 192 (by decide +kernel) (by decide +kernel)
  · exact zin 194 (by decide +kernel) (by decide +kernel)
  · exact zin 196 (by decide +kernel) (by decide +kernel)
  · exact zin 198 (by decide +kernel) (by decide +kernel)
theorem f_Codes_0 : ∀ j, j < 4 → defaultValue (t_Codes j) = vp_V [.null, .null, .null, .null] j := by
  intro j hj
  rcases (show j = 0 ∨ j = 1 ∨ j = 2 ∨ j = 3 by omega) with rfl | rfl | rfl | rfl <;> rfl
theorem ly_Codes : ∀ w ∈ u_ws "RingPacker$Codes" F_Codes 4, w ∈ zGW := by
  intro w hw
  obtain ⟨k, hk, rfl⟩ := List.mem_map.mp hw
  have hk := List.mem_range.mp hk
  rcases (show k = 0 ∨ k = 1 ∨ k = 2 ∨ k = 3 by omega) with rfl | rfl | rfl | rfl
  · exact zin 211 (by decide +kernel) (by decide +kernel)
  · exact zin 213 (by decide +kernel) (by decide +kernel)
  · exact zin 215 (by decide +kernel) (by decide +kernel)
  · exact zin 217 (by decide +kernel) (by decide +kernel)
theorem f_Counts_0 : ∀ j, j < 4 → defaultValue (t_Counts j) = vp_V [.int 0, .int 0, .int 0, .int 0] j := by
  intro j hj
  rcases (show j = 0 ∨ j = 1 ∨ j = 2 ∨ j = 3 by omega) with rfl | rfl | rfl | rfl <;> rfl
theorem ly_Counts : ∀ w ∈ u_ws "RingPacker$Counts" F_Counts 4, w ∈ zGW := by
  intro w hw
  obtain ⟨k, hk, rfl⟩ := List.mem_map.mp hw
  have hk := List.mem_range.mp hk
  rcases (show k = 0 ∨ k = 1 ∨ k = 2 ∨ k = 3 by omega) with rfl | rfl | rfl | rfl
  · exact zin 140 (by decide +kernel) (by decide +kernel)
  · exact zin 142 (by decide +kernel) (by decide +kernel)
  · exact zin 144 (by decide +kernel) (by decide +kernel)
  · exact zin 146 (by decide +kernel) (by decide +kernel)
theorem f_Finder_0 : ∀ j, j < 5 → defaultValue (t_Finder j) = vp_V [.int 0, .int 0, .int 0, .int 0, .int 0] j := by
  intro j hj
  rcases (show j = 0 ∨ j = 1 ∨ j = 2 ∨ j = 3 ∨ j = 4 by omega) with rfl | rfl | rfl | rfl | rfl <;> rfl
theorem ly_Finder : ∀ w ∈ u_ws "RingPacker$Finder" F_Finder 5, w ∈ zGW := by
  intro w hw
  obtain ⟨k, hk, rfl⟩ := List.mem_map.mp hw
  have hk := List.mem_range.mp hk
  rcases (show k = 0 ∨ k = 1 ∨ k = 2 ∨ k = 3 ∨ k = 4 by omega) with rfl | rfl | rfl | rfl | rfl
  · exact zin 242 (by decide +kernel) (by decide +kernel)
  · exact zin 244 (by decide +kernel) (by decide +kernel)
  · exact zin 246 (by decide +kernel) (by decide +kernel)
  · exact zin 248 (by decide +kernel) (by decide +kernel)
  · exact zin 250 (by decide +kernel) (by decide +kernel)
theorem f_Packer_0 : ∀ j, j < 4 → defaultValue (t_Packer j) = vp_V [.null, .null, .null, .null] j := by
  intro j hj
  rcases (show j = 0 ∨ j = 1 ∨ j = 2 ∨ j = 3 by omega) with rfl | rfl | rfl | rfl <;> rfl
theorem ly_Packer : ∀ w ∈ u_ws "RingPacker$Packer" F_Packer 4, w ∈ zGW := by
  intro w hw
  obtain ⟨k, hk, rfl⟩ := List.mem_map.mp hw
  have hk := List.mem_range.mp hk
  rcases (show k = 0 ∨ k = 1 ∨ k = 2 ∨ k = 3 by omega) with rfl | rfl | rfl | rfl
  · exact zin 308 (by decide +kernel) (by decide +kernel)
  · exact zin 310 (by decide +kernel) (by decide +kernel)
  · exact zin 312 (by decide +kernel) (by decide +kernel)
  · exact zin 314 (by decide +kernel) (by decide +kernel)
theorem f_Plan_0 : ∀ j, j < 12 → defaultValue (t_Plan j) = vp_V [.null, .null, .null, .null, .null, .null, .null, .null, .int 0, .int 0, .int 0, .int 0] j := by
  intro j hj
  rcases (show j = 0 ∨ j = 1 ∨ j = 2 ∨ j = 3 ∨ j = 4 ∨ j = 5 ∨ j = 6 ∨ j = 7 ∨ j = 8 ∨ j = 9 ∨ j = 10 ∨ j = 11 by omega) with rfl | rfl | rfl | rfl | rfl | rfl | rfl | rfl | rfl | rfl | rfl | rfl <;> rfl
theorem ly_Plan : ∀ w ∈ u_ws "RingPacker$Plan" F_Plan 12, w ∈ zGW := by
  intro w hw
  obtain ⟨k, hk, rfl⟩ := List.mem_map.mp hw
  have hk := List.mem_range.mp hk
  rcases (show k = 0 ∨ k = 1 ∨ k = 2 ∨ k = 3 ∨ k = 4 ∨ k = 5 ∨ k = 6 ∨ k = 7 ∨ k = 8 ∨ k = 9 ∨ k = 10 ∨ k = 11 by omega) with rfl | rfl | rfl | rfl | rfl | rfl | rfl | rfl | rfl | rfl | rfl | rfl
  · exact zin 278 (by decide +kernel) (by decide +kernel)
  · exact zin 280 (by decide +kernel) (by decide +kernel)
  · exact zin 282 (by decide +kernel) (by decide +kernel)
  · exact zin 284 (by decide +kernel) (by decide +kernel)
  · exact zin 286 (by decide +kernel) (by decide +kernel)
  · exact zin 288 (by decide +kernel) (by decide +kernel)
  · exact zin 290 (by decide +kernel) (by decide +kernel)
  · exact zin 292 (by decide +kernel) (by decide +kernel)
  · exact zin 294 (by decide +kernel) (by decide +kernel)
  · exact zin 296 (by decide +kernel) (by decide +kernel)
  · exact zin 298 (by decide +kernel) (by decide +kernel)
  · exact zin 300 (by decide +kernel) (by decide +kernel)
theorem f_Ring_0 : ∀ j, j < 1 → defaultValue (t_Ring j) = vp_V [.null] j := by
  intro j hj
  rcases (show j = 0 by omega) with rfl
  rfl
theorem ly_Ring : ∀ w ∈ u_ws "RingPacker$Ring" F_Ring 1, w ∈ zGW := by
  intro w hw
  obtain ⟨k, hk, rfl⟩ := List.mem_map.mp hw
  have hk := List.mem_range.mp hk
  rcases (show k = 0 by omega) with rfl
  · exact zin 164 (by decide +kernel) (by decide +kernel)
theorem f_Text_0 : ∀ j, j < 2 → defaultValue (t_Text j) = vp_V [.null, .int 0] j := by
  intro j hj
  rcases (show j = 0 ∨ j = 1 by omega) with rfl | rfl <;> rfl
theorem ly_Text : ∀ w ∈ u_ws "RingPacker$Text" F_Text 2, w ∈ zGW := by
  intro w hw
  obtain ⟨k, hk, rfl⟩ := List.mem_map.mp hw
  have hk := List.mem_range.mp hk
  rcases (show k = 0 ∨ k = 1 by omega) with rfl | rfl
  · exact zin 93 (by decide +kernel) (by decide +kernel)
  · exact zin 95 (by decide +kernel) (by decide +kernel)
theorem f_Unpacker_0 : ∀ j, j < 4 → defaultValue (t_Unpacker j) = vp_V [.null, .null, .null, .null] j := by
  intro j hj
  rcases (show j = 0 ∨ j = 1 ∨ j = 2 ∨ j = 3 by omega) with rfl | rfl | rfl | rfl <;> rfl
theorem ly_Unpacker : ∀ w ∈ u_ws "RingPacker$Unpacker" F_Unpacker 4, w ∈ zGW := by
  intro w hw
  obtain ⟨k, hk, rfl⟩ := List.mem_map.mp hw
  have hk := List.mem_range.mp hk
  rcases (show k = 0 ∨ k = 1 ∨ k = 2 ∨ k = 3 by omega) with rfl | rfl | rfl | rfl
  · exact zin 337 (by decide +kernel) (by decide +kernel)
  · exact zin 339 (by decide +kernel) (by decide +kernel)
  · exact zin 341 (by decide +kernel) (by decide +kernel)
  · exact zin 343 (by decide +kernel) (by decide +kernel)
theorem f_Rp_0 : ∀ j, j < 5 → defaultValue (t_Rp j) = vp_V [.null, .null, .null, .null, .null] j := by
  intro j hj
  rcases (show j = 0 ∨ j = 1 ∨ j = 2 ∨ j = 3 ∨ j = 4 by omega) with rfl | rfl | rfl | rfl | rfl <;> rfl
theorem ly_Rp : ∀ w ∈ u_ws "RingPacker" F_Rp 5, w ∈ zGW := by
  intro w hw
  obtain ⟨k, hk, rfl⟩ := List.mem_map.mp hw
  have hk := List.mem_range.mp hk
  rcases (show k = 0 ∨ k = 1 ∨ k = 2 ∨ k = 3 ∨ k = 4 by omega) with rfl | rfl | rfl | rfl | rfl
  · exact zin 351 (by decide +kernel) (by decide +kernel)
  · exact zin 353 (by decide +kernel) (by decide +kernel)
  · exact zin 355 (by decide +kernel) (by decide +kernel)
  · exact zin 357 (by decide +kernel) (by decide +kernel)
  · exact zin 359 (by decide +kernel) (by decide +kernel)
theorem f_Mo_0 : ∀ j, j < 31 → defaultValue (t_Mo j) = vp_V [.int 0, .null, .int 0, .null, .int 0, .int 0, .int 0, .int 0, .int 0, .null, .null, .null, .null, .null, .null, .int 0, .null, .null, .null, .null, .null, .null, .null, .int 0, .int 0, .int 0, .int 0, .int 0, .int 0, .int 0, .null] j := by
  intro j hj
  rcases (show j = 0 ∨ j = 1 ∨ j = 2 ∨ j = 3 ∨ j = 4 ∨ j = 5 ∨ j = 6 ∨ j = 7 ∨ j = 8 ∨ j = 9 ∨ j = 10 ∨ j = 11 ∨ j = 12 ∨ j = 13 ∨ j = 14 ∨ j = 15 ∨ j = 16 ∨ j = 17 ∨ j = 18 ∨ j = 19 ∨ j = 20 ∨ j = 21 ∨ j = 22 ∨ j = 23 ∨ j = 24 ∨ j = 25 ∨ j = 26 ∨ j = 27 ∨ j = 28 ∨ j = 29 ∨ j = 30 by omega) with rfl | rfl | rfl | rfl | rfl | rfl | rfl | rfl | rfl | rfl | rfl | rfl | rfl | rfl | rfl | rfl | rfl | rfl | rfl | rfl | rfl | rfl | rfl | rfl | rfl | rfl | rfl | rfl | rfl | rfl | rfl <;> rfl
theorem ly_Mo : ∀ w ∈ u_ws "RingPackerModel" F_Mo 31, w ∈ zGW := by
  intro w hw
  obtain ⟨k, hk, rfl⟩ := List.mem_map.mp hw
  have hk := List.mem_range.mp hk
  rcases (show k = 0 ∨ k = 1 ∨ k = 2 ∨ k = 3 ∨ k = 4 ∨ k = 5 ∨ k = 6 ∨ k = 7 ∨ k = 8 ∨ k = 9 ∨ k = 10 ∨ k = 11 ∨ k = 12 ∨ k = 13 ∨ k = 14 ∨ k = 15 ∨ k = 16 ∨ k = 17 ∨ k = 18 ∨ k = 19 ∨ k = 20 ∨ k = 21 ∨ k = 22 ∨ k = 23 ∨ k = 24 ∨ k = 25 ∨ k = 26 ∨ k = 27 ∨ k = 28 ∨ k = 29 ∨ k = 30 by omega) with rfl | rfl | rfl | rfl | rfl | rfl | rfl | rfl | rfl | rfl | rfl | rfl | rfl | rfl | rfl | rfl | rfl | rfl | rfl | rfl | rfl | rfl | rfl | rfl | rfl | rfl | rfl | rfl | rfl | rfl | rfl
  · exact zin 875 (by decide +kernel) (by decide +kernel)
  · exact zin 877 (by decide +kernel) (by decide +kernel)
  · exact zin 879 (by decide +kernel) (by decide +kernel)
  · exact zin 881 (by decide +kernel) (by decide +kernel)
  · exact zin 883 (by decide +kernel) (by decide +kernel)
  · exact zin 885 (by decide +kernel) (by decide +kernel)
  · exact zin 887 (by decide +kernel) (by decide +kernel)
  · exact zin 889 (by decide +kernel) (by decide +kernel)
  · exact zin 891 (by decide +kernel) (by decide +kernel)
  · exact zin 893 (by decide +kernel) (by decide +kernel)
  · exact zin 895 (by decide +kernel) (by decide +kernel)
  · exact zin 897 (by decide +kernel) (by decide +kernel)
  · exact zin 899 (by decide +kernel) (by decide +kernel)
  · exact zin 901 (by decide +kernel) (by decide +kernel)
  · exact zin 903 (by decide +kernel) (by decide +kernel)
  · exact zin 905 (by decide +kernel) (by decide +kernel)
  · exact zin 907 (by decide +kernel) (by decide +kernel)
  · exact zin 909 (by decide +kernel) (by decide +kernel)
  · exact zin 911 (by decide +kernel) (by decide +kernel)
  · exact zin 913 (by decide +kernel) (by decide +kernel)
  · exact zin 915 (by decide +kernel) (by decide +kernel)
  · exact zin 917 (by decide +kernel) (by decide +kernel)
  · exact zin 919 (by decide +kernel) (by decide +kernel)
  · exact zin 921 (by decide +kernel) (by decide +kernel)
  · exact zin 923 (by decide +kernel) (by decide +kernel)
  · exact zin 925 (by decide +kernel) (by decide +kernel)
  · exact zin 927 (by decide +kernel) (by decide +kernel)
  · exact zin 929 (by decide +kernel) (by decide +kernel)
  · exact zin 931 (by decide +kernel) (by decide +kernel)
  · exact zin 933 (by decide +kernel) (by decide +kernel)
  · exact zin 935 (by decide +kernel) (by decide +kernel)
theorem zLay {ci : Nat} {r : vw_C} (hc : zCl[ci]? = some r) : ∀ w ∈ u_ws r.1 r.2.1 r.2.2, w ∈ zGW := by
  have hci : ci < 12 := (List.getElem?_eq_some_iff.mp hc).1
  rcases (show ci = 0 ∨ ci = 1 ∨ ci = 2 ∨ ci = 3 ∨ ci = 4 ∨ ci = 5 ∨ ci = 6 ∨ ci = 7 ∨ ci = 8 ∨ ci = 9 ∨ ci = 10 ∨ ci = 11 by omega) with rfl | rfl | rfl | rfl | rfl | rfl | rfl | rfl | rfl | rfl | rfl | rfl
  · obtain rfl : ("RingPacker$BitStream", F_BitStream, 4) = r := Option.some.inj (cl_BitStream.symm.trans hc)
    exact ly_BitStream
  · obtain rfl : ("RingPacker$Code", F_Code, 7) = r := Option.some.inj (cl_Code.symm.trans hc)
    exact ly_Code
  · obtain rfl : ("RingPacker$Codes", F_Codes, 4) = r := Option.some.inj (cl_Codes.symm.trans hc)
    exact ly_Codes
  · obtain rfl : ("RingPacker$Counts", F_Counts, 4) = r := Option.some.inj (cl_Counts.symm.trans hc)
    exact ly_Counts
  · obtain rfl : ("RingPacker$Finder", F_Finder, 5) = r := Option.some.inj (cl_Finder.symm.trans hc)
    exact ly_Finder
  · obtain rfl : ("RingPacker$Packer", F_Packer, 4) = r := Option.some.inj (cl_Packer.symm.trans hc)
    exact ly_Packer
  · obtain rfl : ("RingPacker$Plan", F_Plan, 12) = r := Option.some.inj (cl_Plan.symm.trans hc)
    exact ly_Plan
  · obtain rfl : ("RingPacker$Ring", F_Ring, 1) = r := Option.some.inj (cl_Ring.symm.trans hc)
    exact ly_Ring
  · obtain rfl : ("RingPacker$Text", F_Text, 2) = r := Option.some.inj (cl_Text.symm.trans hc)
    exact ly_Text
  · obtain rfl : ("RingPacker$Unpacker", F_Unpacker, 4) = r := Option.some.inj (cl_Unpacker.symm.trans hc)
    exact ly_Unpacker
  · obtain rfl : ("RingPacker", F_Rp, 5) = r := Option.some.inj (cl_Rp.symm.trans hc)
    exact ly_Rp
  · obtain rfl : ("RingPackerModel", F_Mo, 31) = r := Option.some.inj (cl_Mo.symm.trans hc)
    exact ly_Mo
theorem zOK {ci : Nat} {r : vw_C} (hc : zCl[ci]? = some r) : ∃ ty : Nat → FieldType, (∀ k, k < r.2.2 → parseFieldDescriptor (r.2.1 k).2.2.1 = some (ty k)) ∧ ∀ a, a < r.2.2 → ∀ b, b < r.2.2 → a ≠ b → (r.2.1 a).2.1 ≠ (r.2.1 b).2.1 := by
  have hci : ci < 12 := (List.getElem?_eq_some_iff.mp hc).1
  rcases (show ci = 0 ∨ ci = 1 ∨ ci = 2 ∨ ci = 3 ∨ ci = 4 ∨ ci = 5 ∨ ci = 6 ∨ ci = 7 ∨ ci = 8 ∨ ci = 9 ∨ ci = 10 ∨ ci = 11 by omega) with rfl | rfl | rfl | rfl | rfl | rfl | rfl | rfl | rfl | rfl | rfl | rfl
  · obtain rfl : ("RingPacker$BitStream", F_BitStream, 4) = r := Option.some.inj (cl_BitStream.symm.trans hc)
    exact ⟨t_BitStream, t_BitStream_ok, n_BitStream_ok⟩
  · obtain rfl : ("RingPacker$Code", F_Code, 7) = r := Option.some.inj (cl_Code.symm.trans hc)
    exact ⟨t_Code, t_Code_ok, n_Code_ok⟩
  · obtain rfl : ("RingPacker$Codes", F_Codes, 4) = r := Option.some.inj (cl_Codes.symm.trans hc)
    exact ⟨t_Codes, t_Codes_ok, n_Codes_ok⟩
  · obtain rfl : ("RingPacker$Counts", F_Counts, 4) = r := Option.some.inj (cl_Counts.symm.trans hc)
    exact ⟨t_Counts, t_Counts_ok, n_Counts_ok⟩
  · obtain rfl : ("RingPacker$Finder", F_Finder, 5) = r := Option.some.inj (cl_Finder.symm.trans hc)
    exact ⟨t_Finder, t_Finder_ok, n_Finder_ok⟩
  · obtain rfl : ("RingPacker$Packer", F_Packer, 4) = r := Option.some.inj (cl_Packer.symm.trans hc)
    exact ⟨t_Packer, t_Packer_ok, n_Packer_ok⟩
  · obtain rfl : ("RingPacker$Plan", F_Plan, 12) = r := Option.some.inj (cl_Plan.symm.trans hc)
    exact ⟨t_Plan, t_Plan_ok, n_Plan_ok⟩
  · obtain rfl : ("RingPacker$Ring", F_Ring, 1) = r := Option.some.inj (cl_Ring.symm.trans hc)
    exact ⟨t_Ring, t_Ring_ok, n_Ring_ok⟩
  · obtain rfl : ("RingPacker$Text", F_Text, 2) = r := Option.some.inj (cl_Text.symm.trans hc)
    exact ⟨t_Text, t_Text_ok, n_Text_ok⟩
  · obtain rfl : ("RingPacker$Unpacker", F_Unpacker, 4) = r := Option.some.inj (cl_Unpacker.symm.trans hc)
    exact ⟨t_Unpacker, t_Unpacker_ok, n_Unpacker_ok⟩
  · obtain rfl : ("RingPacker", F_Rp, 5) = r := Option.some.inj (cl_Rp.symm.trans hc)
    exact ⟨t_Rp, t_Rp_ok, n_Rp_ok⟩
  · obtain rfl : ("RingPackerModel", F_Mo, 31) = r := Option.some.inj (cl_Mo.symm.trans hc)
    exact ⟨t_Mo, t_Mo_ok, n_Mo_ok⟩
theorem zInst {ci : Nat} {r : vw_C} (hc : zCl[ci]? = some r) : ∃ n, Cond.instantiable r.1 n ∈ zGW := by
  have hci : ci < 12 := (List.getElem?_eq_some_iff.mp hc).1
  rcases (show ci = 0 ∨ ci = 1 ∨ ci = 2 ∨ ci = 3 ∨ ci = 4 ∨ ci = 5 ∨ ci = 6 ∨ ci = 7 ∨ ci = 8 ∨ ci = 9 ∨ ci = 10 ∨ ci = 11 by omega) with rfl | rfl | rfl | rfl | rfl | rfl | rfl | rfl | rfl | rfl | rfl | rfl
  · obtain rfl : ("RingPacker$BitStream", F_BitStream, 4) = r := Option.some.inj (cl_BitStream.symm.trans hc)
    exact ⟨4, zin 100 (by decide +kernel) (by decide +kernel)⟩
  · obtain rfl : ("RingPacker$Code", F_Code, 7) = r := Option.some.inj (cl_Code.symm.trans hc)
    exact ⟨7, zin 174 (by decide +kernel) (by decide +kernel)⟩
  · obtain rfl : ("RingPacker$Codes", F_Codes, 4) = r := Option.some.inj (cl_Codes.symm.trans hc)
    exact ⟨4, zin 168 (by decide +kernel) (by decide +kernel)⟩
  · obtain rfl : ("RingPacker$Counts", F_Counts, 4) = r := Option.some.inj (cl_Counts.symm.trans hc)
    exact ⟨4, zin 123 (by decide +kernel) (by decide +kernel)⟩
  · obtain rfl : ("RingPacker$Finder", F_Finder, 5) = r := Option.some.inj (cl_Finder.symm.trans hc)
    exact ⟨5, zin 227 (by decide +kernel) (by decide +kernel)⟩
  · obtain rfl : ("RingPacker$Packer", F_Packer, 4) = r := Option.some.inj (cl_Packer.symm.trans hc)
    exact ⟨4, zin 150 (by decide +kernel) (by decide +kernel)⟩
  · obtain rfl : ("RingPacker$Plan", F_Plan, 12) = r := Option.some.inj (cl_Plan.symm.trans hc)
    exact ⟨12, zin 221 (by decide +kernel) (by decide +kernel)⟩
  · obtain rfl : ("RingPacker$Ring", F_Ring, 1) = r := Option.some.inj (cl_Ring.symm.trans hc)
    exact ⟨1, zin 158 (by decide +kernel) (by decide +kernel)⟩
  · obtain rfl : ("RingPacker$Text", F_Text, 2) = r := Option.some.inj (cl_Text.symm.trans hc)
    exact ⟨2, zin 83 (by decide +kernel) (by decide +kernel)⟩
  · obtain rfl : ("RingPacker$Unpacker", F_Unpacker, 4) = r := Option.some.inj (cl_Unpacker.symm.trans hc)
    exact ⟨4, zin 318 (by decide +kernel) (by decide +kernel)⟩
  · obtain rfl : ("RingPacker", F_Rp, 5) = r := Option.some.inj (cl_Rp.symm.trans hc)
    exact ⟨5, zin 75 (by decide +kernel) (by decide +kernel)⟩
  · obtain rfl : ("RingPackerModel", F_Mo, 31) = r := Option.some.inj (cl_Mo.symm.trans hc)
    exact ⟨31, zin 839 (by decide +kernel) (by decide +kernel)⟩
