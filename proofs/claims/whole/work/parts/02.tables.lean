def lwa (j : Nat) : Option Cond := if j < 62 then (k2_sels lw_privs)[j]? else if j < 302 then tables_1_1[j - 62]? else if j < 542 then tables_1_2[j - 302]? else if j < 782 then tables_1_3[j - 542]? else if j < 1022 then tables_1_4[j - 782]? else if j < 1262 then tables_1_5[j - 1022]? else tables_1_6[j - 1262]?
theorem lwa_mem {j : Nat} {w : Cond} (h : lwa j = some w) : w ∈ lw_tbl := by
  unfold lwa at h
  unfold lw_tbl tables_1
  simp only [List.mem_append]
  split at h
  · exact Or.inl (List.mem_of_getElem? h)
  split at h
  · exact Or.inr (Or.inl (List.mem_of_getElem? h))
  split at h
  · exact Or.inr (Or.inr (Or.inl (List.mem_of_getElem? h)))
  split at h
  · exact Or.inr (Or.inr (Or.inr (Or.inl (List.mem_of_getElem? h))))
  split at h
  · exact Or.inr (Or.inr (Or.inr (Or.inr (Or.inl (List.mem_of_getElem? h)))))
  split at h
  · exact Or.inr (Or.inr (Or.inr (Or.inr (Or.inr (Or.inl (List.mem_of_getElem? h))))))
  · exact Or.inr (Or.inr (Or.inr (Or.inr (Or.inr (Or.inr (List.mem_of_getElem? h))))))
def TX0 : u_T := fun k => match k with
  | 0 => ("ThirstLead$Best", "which", "I", false)
  | _ => ("ThirstLead$Best", "least", "I", false)
def tyX0 : Nat → FieldType := fun k => match k with
  | 0 => .int
  | _ => .int
def TX1 : u_T := fun k => match k with
  | 0 => ("ThirstLead$Desert", "water", "[I", true)
  | 1 => ("ThirstLead$Desert", "walkers", "[LThirstLead$Walker;", true)
  | 2 => ("ThirstLead$Desert", "size", "I", false)
  | 3 => ("ThirstLead$Desert", "cell", "I", false)
  | 4 => ("ThirstLead$Desert", "heat", "I", false)
  | 5 => ("ThirstLead$Desert", "sip", "I", false)
  | 6 => ("ThirstLead$Desert", "mirage", "I", false)
  | 7 => ("ThirstLead$Desert", "deadly", "I", false)
  | 8 => ("ThirstLead$Desert", "deaths", "I", false)
  | 9 => ("ThirstLead$Desert", "lost", "I", false)
  | 10 => ("ThirstLead$Desert", "hour", "I", false)
  | 11 => ("ThirstLead$Desert", "z", "I", false)
  | _ => ("ThirstLead$Desert", "texts", "I", false)
def tyX1 : Nat → FieldType := fun k => match k with
  | 0 => .array .int
  | 1 => .array (.object "ThirstLead$Walker")
  | 2 => .int
  | 3 => .int
  | 4 => .int
  | 5 => .int
  | 6 => .int
  | 7 => .int
  | 8 => .int
  | 9 => .int
  | 10 => .int
  | 11 => .int
  | _ => .int
def TX2 : u_T := fun k => match k with
  | 0 => ("ThirstLead$Law", "steps", "[I", true)
  | 1 => ("ThirstLead$Law", "length", "I", false)
  | 2 => ("ThirstLead$Law", "key", "I", false)
  | _ => ("ThirstLead$Law", "operands", "I", false)
def tyX2 : Nat → FieldType := fun k => match k with
  | 0 => .array .int
  | 1 => .int
  | 2 => .int
  | _ => .int
def TX3 : u_T := fun k => match k with
  | 0 => ("ThirstLead$Laws", "laws", "[LThirstLead$Law;", true)
  | _ => ("ThirstLead$Laws", "stack", "[I", true)
def tyX3 : Nat → FieldType := fun k => match k with
  | 0 => .array (.object "ThirstLead$Law")
  | _ => .array .int
def TX4 : u_T := fun k => match k with
  | 0 => ("ThirstLead$Reader", "read", "LThirstLead$Law;", true)
  | 1 => ("ThirstLead$Reader", "length", "I", false)
  | 2 => ("ThirstLead$Reader", "place", "I", false)
  | 3 => ("ThirstLead$Reader", "bytes", "[I", true)
  | 4 => ("ThirstLead$Reader", "after", "I", false)
  | _ => ("ThirstLead$Reader", "seen", "I", false)
def tyX4 : Nat → FieldType := fun k => match k with
  | 0 => .object "ThirstLead$Law"
  | 1 => .int
  | 2 => .int
  | 3 => .array .int
  | 4 => .int
  | _ => .int
def TX5 : u_T := fun k => match k with
  | 0 => ("ThirstLead$Sheet", "places", "[I", true)
  | 1 => ("ThirstLead$Sheet", "sort", "I", false)
  | _ => ("ThirstLead$Sheet", "size", "I", false)
def tyX5 : Nat → FieldType := fun k => match k with
  | 0 => .array .int
  | 1 => .int
  | _ => .int
def TX6 : u_T := fun k => match k with
  | 0 => ("ThirstLead$Slot", "walker", "LThirstLead$Walker;", true)
  | 1 => ("ThirstLead$Slot", "sheet", "LThirstLead$Sheet;", true)
  | 2 => ("ThirstLead$Slot", "thing", "I", false)
  | _ => ("ThirstLead$Slot", "number", "I", false)
def tyX6 : Nat → FieldType := fun k => match k with
  | 0 => .object "ThirstLead$Walker"
  | 1 => .object "ThirstLead$Sheet"
  | 2 => .int
  | _ => .int
def TX7 : u_T := fun k => match k with
  | 0 => ("ThirstLead$Walker", "kind", "I", false)
  | 1 => ("ThirstLead$Walker", "thirst", "I", false)
  | 2 => ("ThirstLead$Walker", "skin", "I", false)
  | 3 => ("ThirstLead$Walker", "knows", "I", false)
  | 4 => ("ThirstLead$Walker", "led", "I", false)
  | _ => ("ThirstLead$Walker", "lives", "Z", false)
def tyX7 : Nat → FieldType := fun k => match k with
  | 0 => .int
  | 1 => .int
  | 2 => .int
  | 3 => .int
  | 4 => .int
  | _ => .boolean
def TX8 : u_T := fun k => match k with
  | 0 => ("ThirstLead", "now", "LThirstLead$Desert;", true)
  | 1 => ("ThirstLead", "image", "LThirstLead$Desert;", true)
  | 2 => ("ThirstLead", "thought", "LThirstLead$Desert;", true)
  | 3 => ("ThirstLead", "best", "LThirstLead$Best;", true)
  | 4 => ("ThirstLead", "laws", "LThirstLead$Laws;", true)
  | 5 => ("ThirstLead", "reader", "LThirstLead$Reader;", true)
  | 6 => ("ThirstLead", "sheets", "[LThirstLead$Sheet;", true)
  | 7 => ("ThirstLead", "slots", "[LThirstLead$Slot;", true)
  | 8 => ("ThirstLead", "waiting", "[I", true)
  | 9 => ("ThirstLead", "waits", "I", false)
  | _ => ("ThirstLead", "imageKept", "Z", false)
def tyX8 : Nat → FieldType := fun k => match k with
  | 0 => .object "ThirstLead$Desert"
  | 1 => .object "ThirstLead$Desert"
  | 2 => .object "ThirstLead$Desert"
  | 3 => .object "ThirstLead$Best"
  | 4 => .object "ThirstLead$Laws"
  | 5 => .object "ThirstLead$Reader"
  | 6 => .array (.object "ThirstLead$Sheet")
  | 7 => .array (.object "ThirstLead$Slot")
  | 8 => .array .int
  | 9 => .int
  | _ => .boolean
def TX9 : u_T := fun k => match k with
  | 0 => ("ThirstLeadModel", "now", "[I", true)
  | 1 => ("ThirstLeadModel", "image", "[I", true)
  | 2 => ("ThirstLeadModel", "aside", "[I", true)
  | 3 => ("ThirstLeadModel", "hasImage", "Z", false)
  | 4 => ("ThirstLeadModel", "isHeld", "Z", false)
  | 5 => ("ThirstLeadModel", "before", "[I", true)
  | 6 => ("ThirstLeadModel", "tape", "[I", true)
  | 7 => ("ThirstLeadModel", "taped", "I", false)
  | 8 => ("ThirstLeadModel", "next", "I", false)
  | 9 => ("ThirstLeadModel", "from", "I", false)
  | 10 => ("ThirstLeadModel", "token", "I", false)
  | 11 => ("ThirstLeadModel", "value", "I", false)
  | 12 => ("ThirstLeadModel", "ended", "I", false)
  | 13 => ("ThirstLeadModel", "key", "I", false)
  | 14 => ("ThirstLeadModel", "keys", "[C", true)
  | 15 => ("ThirstLeadModel", "keyAt", "[I", true)
  | 16 => ("ThirstLeadModel", "code", "[I", true)
  | 17 => ("ThirstLeadModel", "codes", "I", false)
  | 18 => ("ThirstLeadModel", "atoms", "I", false)
  | 19 => ("ThirstLeadModel", "waits", "[I", true)
  | 20 => ("ThirstLeadModel", "held", "I", false)
  | 21 => ("ThirstLeadModel", "tested", "[Z", true)
  | 22 => ("ThirstLeadModel", "stack", "[I", true)
  | 23 => ("ThirstLeadModel", "facts", "[I", true)
  | 24 => ("ThirstLeadModel", "sorts", "[I", true)
  | 25 => ("ThirstLeadModel", "sizes", "[I", true)
  | 26 => ("ThirstLeadModel", "cells", "[I", true)
  | 27 => ("ThirstLeadModel", "holds", "[I", true)
  | 28 => ("ThirstLeadModel", "holdsA", "[I", true)
  | 29 => ("ThirstLeadModel", "holdsB", "[I", true)
  | 30 => ("ThirstLeadModel", "heldCells", "[I", true)
  | 31 => ("ThirstLeadModel", "moved", "[I", true)
  | 32 => ("ThirstLeadModel", "saidBy", "[I", true)
  | _ => ("ThirstLeadModel", "waiting", "I", false)
def tyX9 : Nat → FieldType := fun k => match k with
  | 0 => .array .int
  | 1 => .array .int
  | 2 => .array .int
  | 3 => .boolean
  | 4 => .boolean
  | 5 => .array .int
  | 6 => .array .int
  | 7 => .int
  | 8 => .int
  | 9 => .int
  | 10 => .int
  | 11 => .int
  | 12 => .int
  | 13 => .int
  | 14 => .array .char
  | 15 => .array .int
  | 16 => .array .int
  | 17 => .int
  | 18 => .int
  | 19 => .array .int
  | 20 => .int
  | 21 => .array .boolean
  | 22 => .array .int
  | 23 => .array .int
  | 24 => .array .int
  | 25 => .array .int
  | 26 => .array .int
  | 27 => .array .int
  | 28 => .array .int
  | 29 => .array .int
  | 30 => .array .int
  | 31 => .array .int
  | 32 => .array .int
  | _ => .int
def oN : Nat → String := fun c => match c with
  | 0 => "ThirstLead$Best"
  | 1 => "ThirstLead$Desert"
  | 2 => "ThirstLead$Law"
  | 3 => "ThirstLead$Laws"
  | 4 => "ThirstLead$Reader"
  | 5 => "ThirstLead$Sheet"
  | 6 => "ThirstLead$Slot"
  | 7 => "ThirstLead$Walker"
  | 8 => "ThirstLead"
  | 9 => "ThirstLeadModel"
  | 10 => "ThirstLeadLaw"
  | 11 => "java/lang/Math"
  | 12 => "java/lang/String"
  | 13 => "java/lang/StringLatin1"
  | 14 => "java/lang/StringUTF16"
  | 15 => "jdk/internal/util/Preconditions"
  | 16 => "java/lang/System"
  | _ => "java/lang/Object"
def cT : Nat → u_T := fun c => match c with
  | 0 => TX0
  | 1 => TX1
  | 2 => TX2
  | 3 => TX3
  | 4 => TX4
  | 5 => TX5
  | 6 => TX6
  | 7 => TX7
  | 8 => TX8
  | _ => TX9
def cY : Nat → Nat → FieldType := fun c => match c with
  | 0 => tyX0
  | 1 => tyX1
  | 2 => tyX2
  | 3 => tyX3
  | 4 => tyX4
  | 5 => tyX5
  | 6 => tyX6
  | 7 => tyX7
  | 8 => tyX8
  | _ => tyX9
def cN : Nat → Nat := fun c => match c with
  | 0 => 2
  | 1 => 13
  | 2 => 4
  | 3 => 2
  | 4 => 6
  | 5 => 3
  | 6 => 4
  | 7 => 6
  | 8 => 11
  | _ => 34
def classes : List vw_C := (List.range 10).map fun c => (oN c, cT c, cN c)
theorem classes_at {c : Nat} (h : c < 10) : classes[c]? = some (oN c, cT c, cN c) := by simp [classes, h]
abbrev MTy : Type := MethodName × ByteArray × Nat × Option FieldType × Nat × Nat × Nat × Nat
def mT0 : List MTy := [
  (⟨"ThirstLead$Best", "<init>", "()V"⟩, prog_2_method_1_code, 1, none, 0, 0, 189, 66),
  (⟨"ThirstLead$Best", "starts", "()V"⟩, prog_2_method_2_code, 1, none, 0, 0, 589, 66),
  (⟨"ThirstLead$Best", "offer", "(II)V"⟩, prog_2_method_3_code, 3, none, 0, 2, 593, 66),
  (⟨"ThirstLead$Best", "chosen", "(I)I"⟩, prog_2_method_4_code, 2, (some .int), 0, 1, 597, 66),
  (⟨"ThirstLead$Desert", "<init>", "()V"⟩, prog_3_method_1_code, 2, none, 1, 0, 91, 64),
  (⟨"ThirstLead$Desert", "join", "(III)I"⟩, prog_3_method_5_code, 4, (some .int), 1, 3, 365, 64),
  (⟨"ThirstLead$Desert", "has", "(I)Z"⟩, prog_3_method_3_code, 2, (some .boolean), 1, 1, 378, 64),
  (⟨"ThirstLead$Desert", "thirsts", "(LThirstLead$Walker;LThirstLead$Laws;)I"⟩, prog_3_method_14_code, 5, (some .int), 1, 2, 382, 64),
  (⟨"ThirstLead$Desert", "goes", "(LThirstLead$Walker;)I"⟩, prog_3_method_15_code, 2, (some .int), 1, 1, 416, 64),
  (⟨"ThirstLead$Desert", "wayToWell", "()I"⟩, prog_3_method_17_code, 2, (some .int), 1, 0, 420, 64),
  (⟨"ThirstLead$Desert", "wayTo", "(I)I"⟩, prog_3_method_16_code, 3, (some .int), 1, 1, 427, 64),
  (⟨"ThirstLead$Desert", "ruleBecomes", "(II)I"⟩, prog_3_method_8_code, 4, (some .int), 1, 2, 466, 64),
  (⟨"ThirstLead$Desert", "joinByLot", "()V"⟩, prog_3_method_6_code, 4, none, 1, 0, 474, 64),
  (⟨"ThirstLead$Desert", "draw", "()I"⟩, prog_3_method_7_code, 1, (some .int), 1, 0, 478, 64),
  (⟨"ThirstLead$Desert", "passHour", "(LThirstLead$Laws;Z)V"⟩, prog_3_method_18_code, 3, none, 1, 2, 496, 64),
  (⟨"ThirstLead$Desert", "leader", "()I"⟩, prog_3_method_9_code, 3, (some .int), 1, 0, 500, 64),
  (⟨"ThirstLead$Desert", "followLeader", "()V"⟩, prog_3_method_19_code, 3, none, 1, 0, 504, 64),
  (⟨"ThirstLead$Desert", "drinkAtWell", "()V"⟩, prog_3_method_20_code, 2, none, 1, 0, 509, 64),
  (⟨"ThirstLead$Desert", "thirstAndSip", "(LThirstLead$Laws;)V"⟩, prog_3_method_21_code, 3, none, 1, 1, 524, 64),
  (⟨"ThirstLead$Desert", "loseDead", "()V"⟩, prog_3_method_22_code, 4, none, 1, 0, 533, 64)
]
def mT1 : List MTy := [
  (⟨"ThirstLead$Desert", "living", "()I"⟩, prog_3_method_10_code, 3, (some .int), 1, 0, 544, 64),
  (⟨"ThirstLead$Desert", "thirstTogether", "()I"⟩, prog_3_method_11_code, 3, (some .int), 1, 0, 548, 64),
  (⟨"ThirstLead$Desert", "wells", "()I"⟩, prog_3_method_12_code, 3, (some .int), 1, 0, 552, 64),
  (⟨"ThirstLead$Desert", "becomes", "(LThirstLead$Desert;)V"⟩, prog_3_method_2_code, 3, none, 1, 1, 560, 64),
  (⟨"ThirstLead$Desert", "thirstOf", "(I)I"⟩, prog_3_method_4_code, 2, (some .int), 1, 1, 571, 64),
  (⟨"ThirstLead$Desert", "shareOut", "(I)V"⟩, prog_3_method_13_code, 3, none, 1, 1, 613, 64),
  (⟨"ThirstLead$Law", "<init>", "()V"⟩, prog_4_method_1_code, 1, none, 2, 0, 210, 68),
  (⟨"ThirstLead$Law", "starts", "()V"⟩, prog_4_method_2_code, 1, none, 2, 0, 676, 68),
  (⟨"ThirstLead$Law", "addOperand", "(I)V"⟩, prog_4_method_4_code, 2, none, 2, 1, 770, 68),
  (⟨"ThirstLead$Law", "addStep", "(I)V"⟩, prog_4_method_6_code, 2, none, 2, 1, 774, 68),
  (⟨"ThirstLead$Law", "addSign", "(I)V"⟩, prog_4_method_5_code, 2, none, 2, 1, 792, 68),
  (⟨"ThirstLead$Law", "becomes", "(LThirstLead$Law;)V"⟩, prog_4_method_3_code, 2, none, 2, 1, 803, 68),
  (⟨"ThirstLead$Laws", "<init>", "()V"⟩, prog_5_method_1_code, 2, none, 3, 0, 203, 67),
  (⟨"ThirstLead$Laws", "latest", "(II)I"⟩, prog_5_method_2_code, 4, (some .int), 3, 2, 386, 67),
  (⟨"ThirstLead$Laws", "gives", "(IIII)I"⟩, prog_5_method_3_code, 9, (some .int), 3, 4, 395, 67),
  (⟨"ThirstLead$Laws", "named", "(IIII)I"⟩, prog_5_method_4_code, 4, (some .int), 3, 4, 398, 67),
  (⟨"ThirstLead$Laws", "joined", "(III)I"⟩, prog_5_method_5_code, 3, (some .int), 3, 3, 401, 67),
  (⟨"ThirstLead$Reader", "<init>", "()V"⟩, prog_6_method_1_code, 1, none, 4, 0, 243, 69),
  (⟨"ThirstLead$Reader", "takeBytes", "(I)V"⟩, prog_6_method_2_code, 3, none, 4, 1, 660, 69),
  (⟨"ThirstLead$Reader", "readText", "()Z"⟩, prog_6_method_3_code, 1, (some .boolean), 4, 0, 672, 69)
]
def mT2 : List MTy := [
  (⟨"ThirstLead$Reader", "step", "()V"⟩, prog_6_method_4_code, 3, none, 4, 0, 680, 69),
  (⟨"ThirstLead$Reader", "isWord", "()Z"⟩, prog_6_method_5_code, 1, (some .boolean), 4, 0, 684, 69),
  (⟨"ThirstLead$Reader", "skipped", "(III)I"⟩, prog_6_method_7_code, 5, (some .int), 4, 3, 688, 69),
  (⟨"ThirstLead$Reader", "isIn", "(III)Z"⟩, prog_6_method_6_code, 4, (some .boolean), 4, 3, 692, 69),
  (⟨"ThirstLead$Reader", "readKey", "()Z"⟩, prog_6_method_8_code, 2, (some .boolean), 4, 0, 696, 69),
  (⟨"ThirstLead$Reader", "wordOf", "(I)Ljava/lang/String;"⟩, prog_6_method_9_code, 1, (some ((.object "java/lang/String"))), 4, 1, 699, 69),
  (⟨"ThirstLead$Reader", "stands", "(Ljava/lang/String;)Z"⟩, prog_6_method_11_code, 3, (some .boolean), 4, 1, 706, 69),
  (⟨"ThirstLead$Reader", "readLevel", "(III)Z"⟩, prog_6_method_12_code, 7, (some .boolean), 4, 3, 758, 69),
  (⟨"ThirstLead$Reader", "readPiece", "(II)Z"⟩, prog_6_method_14_code, 3, (some .boolean), 4, 2, 762, 69),
  (⟨"ThirstLead$Reader", "readNumber", "()Z"⟩, prog_6_method_15_code, 3, (some .boolean), 4, 0, 766, 69),
  (⟨"ThirstLead$Reader", "readName", "()Z"⟩, prog_6_method_16_code, 3, (some .boolean), 4, 0, 778, 69),
  (⟨"ThirstLead$Reader", "namesOf", "(I)Ljava/lang/String;"⟩, prog_6_method_10_code, 1, (some ((.object "java/lang/String"))), 4, 1, 781, 69),
  (⟨"ThirstLead$Reader", "readDenied", "(II)Z"⟩, prog_6_method_17_code, 3, (some .boolean), 4, 2, 788, 69),
  (⟨"ThirstLead$Reader", "readOpened", "(II)Z"⟩, prog_6_method_18_code, 3, (some .boolean), 4, 2, 796, 69),
  (⟨"ThirstLead$Reader", "joins", "(II)Z"⟩, prog_6_method_13_code, 2, (some .boolean), 4, 2, 799, 69),
  (⟨"ThirstLead$Sheet", "<init>", "()V"⟩, prog_7_method_1_code, 1, none, 5, 0, 276, 70),
  (⟨"ThirstLead$Sheet", "hasNumber", "(I)Z"⟩, prog_7_method_5_code, 2, (some .boolean), 5, 1, 633, 70),
  (⟨"ThirstLead$Sheet", "has", "(I)Z"⟩, prog_7_method_4_code, 2, (some .boolean), 5, 1, 637, 70),
  (⟨"ThirstLead$Sheet", "starts", "(II)V"⟩, prog_7_method_2_code, 4, none, 5, 2, 822, 70),
  (⟨"ThirstLead$Sheet", "hasRow", "(II)Z"⟩, prog_7_method_6_code, 3, (some .boolean), 5, 2, 847, 70)
]
def mT3 : List MTy := [
  (⟨"ThirstLead$Sheet", "becomes", "(LThirstLead$Sheet;)V"⟩, prog_7_method_3_code, 2, none, 5, 1, 860, 70),
  (⟨"ThirstLead$Slot", "<init>", "()V"⟩, prog_8_method_1_code, 1, none, 6, 0, 294, 71),
  (⟨"ThirstLead$Walker", "<init>", "()V"⟩, prog_9_method_1_code, 1, none, 7, 0, 98, 65),
  (⟨"ThirstLead$Walker", "starts", "(III)V"⟩, prog_9_method_2_code, 4, none, 7, 3, 370, 65),
  (⟨"ThirstLead$Walker", "slakes", "()I"⟩, prog_9_method_5_code, 1, (some .int), 7, 0, 412, 65),
  (⟨"ThirstLead$Walker", "worth", "()I"⟩, prog_9_method_6_code, 1, (some .int), 7, 0, 431, 65),
  (⟨"ThirstLead$Walker", "isOf", "(I)Z"⟩, prog_9_method_4_code, 2, (some .boolean), 7, 1, 439, 65),
  (⟨"ThirstLead$Walker", "drinkFrom", "(I)I"⟩, prog_9_method_8_code, 4, (some .int), 7, 1, 513, 65),
  (⟨"ThirstLead$Walker", "drinkCup", "()V"⟩, prog_9_method_7_code, 1, none, 7, 0, 517, 65),
  (⟨"ThirstLead$Walker", "thirstBy", "(II)V"⟩, prog_9_method_9_code, 5, none, 7, 2, 529, 65),
  (⟨"ThirstLead$Walker", "becomes", "(LThirstLead$Walker;)V"⟩, prog_9_method_3_code, 2, none, 7, 1, 567, 65),
  (⟨"ThirstLead", "<init>", "()V"⟩, prog_1_method_1_code, 2, none, 8, 0, 83, 63),
  (⟨"ThirstLead", "walker", "(III)I"⟩, prog_1_method_2_code, 4, (some .int), 8, 3, 354, 63),
  (⟨"ThirstLead", "isKind", "(I)Z"⟩, prog_1_method_44_code, 1, (some .boolean), 8, 1, 357, 63),
  (⟨"ThirstLead", "within", "(III)Z"⟩, prog_1_method_42_code, 3, (some .boolean), 8, 3, 360, 63),
  (⟨"ThirstLead", "told", "(II)I"⟩, prog_1_method_3_code, 4, (some .int), 8, 2, 374, 63),
  (⟨"ThirstLead", "held", "(III)I"⟩, prog_1_method_43_code, 3, (some .int), 8, 3, 404, 63),
  (⟨"ThirstLead", "as", "(II)I"⟩, prog_1_method_4_code, 4, (some .int), 8, 2, 435, 63),
  (⟨"ThirstLead", "turns", "(II)I"⟩, prog_1_method_5_code, 5, (some .int), 8, 2, 444, 63),
  (⟨"ThirstLead", "set", "(III)I"⟩, prog_1_method_6_code, 6, (some .int), 8, 3, 448, 63)
]
def mT4 : List MTy := [
  (⟨"ThirstLead", "water", "(II)I"⟩, prog_1_method_7_code, 4, (some .int), 8, 2, 454, 63),
  (⟨"ThirstLead", "rule", "(II)I"⟩, prog_1_method_8_code, 3, (some .int), 8, 2, 458, 63),
  (⟨"ThirstLead", "deal", "(I)I"⟩, prog_1_method_9_code, 4, (some .int), 8, 1, 470, 63),
  (⟨"ThirstLead", "seed", "(I)I"⟩, prog_1_method_10_code, 3, (some .int), 8, 1, 484, 63),
  (⟨"ThirstLead", "hours", "(I)I"⟩, prog_1_method_11_code, 3, (some .int), 8, 1, 488, 63),
  (⟨"ThirstLead", "passHours", "(LThirstLead$Desert;I)V"⟩, prog_1_method_47_code, 4, none, 8, 2, 492, 63),
  (⟨"ThirstLead", "band", "(I)I"⟩, prog_1_method_12_code, 2, (some .int), 8, 1, 538, 63),
  (⟨"ThirstLead", "behind", "(II)I"⟩, prog_1_method_13_code, 3, (some .int), 8, 2, 556, 63),
  (⟨"ThirstLead", "lasts", "()I"⟩, prog_1_method_14_code, 1, (some .int), 8, 0, 577, 63),
  (⟨"ThirstLead", "firstDeath", "(I)I"⟩, prog_1_method_48_code, 3, (some .int), 8, 1, 581, 63),
  (⟨"ThirstLead", "salted", "(II)I"⟩, prog_1_method_15_code, 4, (some .int), 8, 2, 585, 63),
  (⟨"ThirstLead", "tells", "(III)I"⟩, prog_1_method_16_code, 5, (some .int), 8, 3, 601, 63),
  (⟨"ThirstLead", "custom", "(I)I"⟩, prog_1_method_17_code, 4, (some .int), 8, 1, 605, 63),
  (⟨"ThirstLead", "enough", "(I)I"⟩, prog_1_method_18_code, 3, (some .int), 8, 1, 609, 63),
  (⟨"ThirstLead", "shown", "(I)I"⟩, prog_1_method_19_code, 4, (some .int), 8, 1, 617, 63),
  (⟨"ThirstLead", "thirsted", "(III)I"⟩, prog_1_method_20_code, 5, (some .int), 8, 3, 621, 63),
  (⟨"ThirstLead", "isSheet", "(I)Z"⟩, prog_1_method_45_code, 1, (some .boolean), 8, 1, 624, 63),
  (⟨"ThirstLead", "differencesFrom", "(LThirstLead$Sheet;II)I"⟩, prog_1_method_49_code, 6, (some .int), 8, 3, 629, 63),
  (⟨"ThirstLead", "fee", "()I"⟩, prog_1_method_21_code, 2, (some .int), 8, 0, 645, 63),
  (⟨"ThirstLead", "fine", "(I)I"⟩, prog_1_method_22_code, 4, (some .int), 8, 1, 651, 63)
]
def mT5 : List MTy := [
  (⟨"ThirstLead", "feed", "(III)I"⟩, prog_1_method_23_code, 4, (some .int), 8, 3, 655, 63),
  (⟨"ThirstLead", "trim", "(I)I"⟩, prog_1_method_24_code, 2, (some .int), 8, 1, 664, 63),
  (⟨"ThirstLead", "text", "()I"⟩, prog_1_method_25_code, 2, (some .int), 8, 0, 668, 63),
  (⟨"ThirstLead", "textTold", "(II)I"⟩, prog_1_method_26_code, 4, (some .int), 8, 2, 809, 63),
  (⟨"ThirstLead", "why", "(I)I"⟩, prog_1_method_27_code, 2, (some .int), 8, 1, 813, 63),
  (⟨"ThirstLead", "sheet", "(III)I"⟩, prog_1_method_28_code, 5, (some .int), 8, 3, 817, 63),
  (⟨"ThirstLead", "mark", "(III)I"⟩, prog_1_method_29_code, 5, (some .int), 8, 3, 826, 63),
  (⟨"ThirstLead", "pour", "(I)I"⟩, prog_1_method_30_code, 6, (some .int), 8, 1, 834, 63),
  (⟨"ThirstLead", "reads", "(I)I"⟩, prog_1_method_31_code, 4, (some .int), 8, 1, 839, 63),
  (⟨"ThirstLead", "copy", "(IIIII)I"⟩, prog_1_method_32_code, 8, (some .int), 8, 5, 843, 63),
  (⟨"ThirstLead", "lay", "(III)I"⟩, prog_1_method_33_code, 6, (some .int), 8, 3, 852, 63),
  (⟨"ThirstLead", "isSlot", "(I)Z"⟩, prog_1_method_46_code, 1, (some .boolean), 8, 1, 855, 63),
  (⟨"ThirstLead", "ask", "(II)I"⟩, prog_1_method_34_code, 4, (some .int), 8, 2, 865, 63),
  (⟨"ThirstLead", "item", "(II)I"⟩, prog_1_method_35_code, 4, (some .int), 8, 2, 869, 63),
  (⟨"ThirstLead", "rest", "(II)I"⟩, prog_1_method_36_code, 4, (some .int), 8, 2, 873, 63),
  (⟨"ThirstLead", "tell", "(I)I"⟩, prog_1_method_37_code, 2, (some .int), 8, 1, 878, 63),
  (⟨"ThirstLead", "check", "(I)I"⟩, prog_1_method_38_code, 5, (some .int), 8, 1, 882, 63),
  (⟨"ThirstLead", "waitedAt", "(III)Z"⟩, prog_1_method_50_code, 4, (some .boolean), 8, 3, 886, 63),
  (⟨"ThirstLead", "keep", "()I"⟩, prog_1_method_39_code, 1, (some .int), 8, 0, 890, 63),
  (⟨"ThirstLead", "back", "()I"⟩, prog_1_method_40_code, 1, (some .int), 8, 0, 894, 63)
]
def mT6 : List MTy := [
  (⟨"ThirstLead", "count", "(I)I"⟩, prog_1_method_41_code, 2, (some .int), 8, 1, 898, 63),
  (⟨"ThirstLeadModel", "<init>", "()V"⟩, prog_11_method_1_code, 1, none, 9, 0, 903, 72),
  (⟨"ThirstLeadModel", "walker", "(III)I"⟩, prog_11_method_13_code, 4, (some .int), 9, 3, 1013, 72),
  (⟨"ThirstLeadModel", "in", "(III)Z"⟩, prog_11_method_2_code, 3, (some .boolean), 9, 3, 1016, 72),
  (⟨"ThirstLeadModel", "comes", "(III)I"⟩, prog_11_method_12_code, 6, (some .int), 9, 3, 1022, 72),
  (⟨"ThirstLeadModel", "put", "(III)V"⟩, prog_11_method_9_code, 4, none, 9, 3, 1026, 72),
  (⟨"ThirstLeadModel", "told", "(II)I"⟩, prog_11_method_20_code, 3, (some .int), 9, 2, 1030, 72),
  (⟨"ThirstLeadModel", "isWalker", "(I)Z"⟩, prog_11_method_6_code, 2, (some .boolean), 9, 1, 1034, 72),
  (⟨"ThirstLeadModel", "of", "(II)I"⟩, prog_11_method_8_code, 3, (some .int), 9, 2, 1038, 72),
  (⟨"ThirstLeadModel", "thirstsOf", "(I)I"⟩, prog_11_method_14_code, 4, (some .int), 9, 1, 1042, 72),
  (⟨"ThirstLeadModel", "counts", "(I)I"⟩, prog_11_method_71_code, 3, (some .int), 9, 1, 1046, 72),
  (⟨"ThirstLeadModel", "worksOut", "(I)I"⟩, prog_11_method_74_code, 6, (some .int), 9, 1, 1050, 72),
  (⟨"ThirstLeadModel", "two", "(III)I"⟩, prog_11_method_73_code, 3, (some .int), 9, 3, 1053, 72),
  (⟨"ThirstLeadModel", "within", "(III)I"⟩, prog_11_method_3_code, 3, (some .int), 9, 3, 1056, 72),
  (⟨"ThirstLeadModel", "slakesOf", "(I)I"⟩, prog_11_method_15_code, 2, (some .int), 9, 1, 1060, 72),
  (⟨"ThirstLeadModel", "goesOf", "(I)I"⟩, prog_11_method_18_code, 2, (some .int), 9, 1, 1064, 72),
  (⟨"ThirstLeadModel", "toWell", "()I"⟩, prog_11_method_16_code, 3, (some .int), 9, 0, 1068, 72),
  (⟨"ThirstLeadModel", "plainly", "(I)I"⟩, prog_11_method_17_code, 3, (some .int), 9, 1, 1072, 72),
  (⟨"ThirstLeadModel", "worthOf", "(I)I"⟩, prog_11_method_19_code, 3, (some .int), 9, 1, 1076, 72),
  (⟨"ThirstLeadModel", "as", "(II)I"⟩, prog_11_method_22_code, 3, (some .int), 9, 2, 1080, 72)
]
def mT7 : List MTy := [
  (⟨"ThirstLeadModel", "isUnder", "(II)Z"⟩, prog_11_method_21_code, 2, (some .boolean), 9, 2, 1083, 72),
  (⟨"ThirstLeadModel", "turns", "(II)I"⟩, prog_11_method_23_code, 3, (some .int), 9, 2, 1088, 72),
  (⟨"ThirstLeadModel", "becomes", "(II)I"⟩, prog_11_method_11_code, 4, (some .int), 9, 2, 1092, 72),
  (⟨"ThirstLeadModel", "set", "(III)I"⟩, prog_11_method_24_code, 4, (some .int), 9, 3, 1096, 72),
  (⟨"ThirstLeadModel", "water", "(II)I"⟩, prog_11_method_25_code, 3, (some .int), 9, 2, 1100, 72),
  (⟨"ThirstLeadModel", "isCell", "(I)Z"⟩, prog_11_method_7_code, 1, (some .boolean), 9, 1, 1103, 72),
  (⟨"ThirstLeadModel", "rule", "(II)I"⟩, prog_11_method_26_code, 5, (some .int), 9, 2, 1107, 72),
  (⟨"ThirstLeadModel", "deal", "(I)I"⟩, prog_11_method_28_code, 6, (some .int), 9, 1, 1111, 72),
  (⟨"ThirstLeadModel", "draw", "()I"⟩, prog_11_method_27_code, 1, (some .int), 9, 0, 1115, 72),
  (⟨"ThirstLeadModel", "seed", "(I)I"⟩, prog_11_method_29_code, 2, (some .int), 9, 1, 1120, 72),
  (⟨"ThirstLeadModel", "hours", "(I)I"⟩, prog_11_method_38_code, 3, (some .int), 9, 1, 1124, 72),
  (⟨"ThirstLeadModel", "goesOn", "(I)V"⟩, prog_11_method_37_code, 3, none, 9, 1, 1128, 72),
  (⟨"ThirstLeadModel", "hour", "()V"⟩, prog_11_method_36_code, 3, none, 9, 0, 1132, 72),
  (⟨"ThirstLeadModel", "leader", "()I"⟩, prog_11_method_30_code, 3, (some .int), 9, 0, 1136, 72),
  (⟨"ThirstLeadModel", "lives", "(I)Z"⟩, prog_11_method_10_code, 2, (some .boolean), 9, 1, 1140, 72),
  (⟨"ThirstLeadModel", "leads", "(I)V"⟩, prog_11_method_31_code, 3, none, 9, 1, 1144, 72),
  (⟨"ThirstLeadModel", "drinksAt", "(I)V"⟩, prog_11_method_33_code, 4, none, 9, 1, 1148, 72),
  (⟨"ThirstLeadModel", "slaked", "(I)V"⟩, prog_11_method_32_code, 2, none, 9, 1, 1152, 72),
  (⟨"ThirstLeadModel", "thirsts", "(I)V"⟩, prog_11_method_34_code, 4, none, 9, 1, 1156, 72),
  (⟨"ThirstLeadModel", "dies", "()V"⟩, prog_11_method_35_code, 3, none, 9, 0, 1160, 72)
]
def mT8 : List MTy := [
  (⟨"ThirstLeadModel", "band", "(I)I"⟩, prog_11_method_41_code, 4, (some .int), 9, 1, 1164, 72),
  (⟨"ThirstLeadModel", "told0", "(I)I"⟩, prog_11_method_5_code, 1, (some .int), 9, 1, 1167, 72),
  (⟨"ThirstLeadModel", "living", "()I"⟩, prog_11_method_39_code, 3, (some .int), 9, 0, 1172, 72),
  (⟨"ThirstLeadModel", "allThirst", "()I"⟩, prog_11_method_40_code, 3, (some .int), 9, 0, 1176, 72),
  (⟨"ThirstLeadModel", "behind", "(II)I"⟩, prog_11_method_44_code, 4, (some .int), 9, 2, 1180, 72),
  (⟨"ThirstLeadModel", "thinks", "()V"⟩, prog_11_method_42_code, 2, none, 9, 0, 1184, 72),
  (⟨"ThirstLeadModel", "putsBack", "()V"⟩, prog_11_method_43_code, 2, none, 9, 0, 1188, 72),
  (⟨"ThirstLeadModel", "lasts", "()I"⟩, prog_11_method_45_code, 4, (some .int), 9, 0, 1192, 72),
  (⟨"ThirstLeadModel", "salted", "(II)I"⟩, prog_11_method_47_code, 7, (some .int), 9, 2, 1196, 72),
  (⟨"ThirstLeadModel", "deathsBehind", "(I)I"⟩, prog_11_method_46_code, 3, (some .int), 9, 1, 1200, 72),
  (⟨"ThirstLeadModel", "tells", "(III)I"⟩, prog_11_method_48_code, 8, (some .int), 9, 3, 1204, 72),
  (⟨"ThirstLeadModel", "custom", "(I)I"⟩, prog_11_method_49_code, 3, (some .int), 9, 1, 1208, 72),
  (⟨"ThirstLeadModel", "enough", "(I)I"⟩, prog_11_method_50_code, 5, (some .int), 9, 1, 1212, 72),
  (⟨"ThirstLeadModel", "shown", "(I)I"⟩, prog_11_method_51_code, 4, (some .int), 9, 1, 1216, 72),
  (⟨"ThirstLeadModel", "thirsted", "(III)I"⟩, prog_11_method_53_code, 10, (some .int), 9, 3, 1220, 72),
  (⟨"ThirstLeadModel", "isSheet", "(I)Z"⟩, prog_11_method_75_code, 1, (some .boolean), 9, 1, 1223, 72),
  (⟨"ThirstLeadModel", "offBy", "(III)J"⟩, prog_11_method_52_code, 10, (some .long), 9, 3, 1228, 72),
  (⟨"ThirstLeadModel", "fee", "()I"⟩, prog_11_method_54_code, 2, (some .int), 9, 0, 1232, 72),
  (⟨"ThirstLeadModel", "fine", "(I)I"⟩, prog_11_method_55_code, 3, (some .int), 9, 1, 1236, 72),
  (⟨"ThirstLeadModel", "feed", "(III)I"⟩, prog_11_method_56_code, 6, (some .int), 9, 3, 1240, 72)
]
def mT9 : List MTy := [
  (⟨"ThirstLeadModel", "trim", "(I)I"⟩, prog_11_method_57_code, 2, (some .int), 9, 1, 1244, 72),
  (⟨"ThirstLeadModel", "text", "()I"⟩, prog_11_method_69_code, 4, (some .int), 9, 0, 1248, 72),
  (⟨"ThirstLeadModel", "go", "()V"⟩, prog_11_method_60_code, 2, none, 9, 0, 1252, 72),
  (⟨"ThirstLeadModel", "isLetter", "(I)Z"⟩, prog_11_method_58_code, 2, (some .boolean), 9, 1, 1256, 72),
  (⟨"ThirstLeadModel", "isFigure", "(I)Z"⟩, prog_11_method_59_code, 2, (some .boolean), 9, 1, 1260, 72),
  (⟨"ThirstLeadModel", "takesKey", "()Z"⟩, prog_11_method_61_code, 5, (some .boolean), 9, 0, 1264, 72),
  (⟨"ThirstLeadModel", "takesE", "()Z"⟩, prog_11_method_67_code, 5, (some .boolean), 9, 0, 1268, 72),
  (⟨"ThirstLeadModel", "takesPart", "()Z"⟩, prog_11_method_66_code, 2, (some .boolean), 9, 0, 1272, 72),
  (⟨"ThirstLeadModel", "nameOf", "(I)I"⟩, prog_11_method_62_code, 2, (some .int), 9, 1, 1276, 72),
  (⟨"ThirstLeadModel", "settle", "(I)V"⟩, prog_11_method_64_code, 2, none, 9, 1, 1280, 72),
  (⟨"ThirstLeadModel", "rank", "(I)I"⟩, prog_11_method_63_code, 1, (some .int), 9, 1, 1283, 72),
  (⟨"ThirstLeadModel", "notsOpen", "()I"⟩, prog_11_method_68_code, 3, (some .int), 9, 0, 1287, 72),
  (⟨"ThirstLeadModel", "signHere", "()I"⟩, prog_11_method_65_code, 1, (some .int), 9, 0, 1291, 72),
  (⟨"ThirstLeadModel", "textTold", "(II)I"⟩, prog_11_method_70_code, 3, (some .int), 9, 2, 1295, 72),
  (⟨"ThirstLeadModel", "why", "(I)I"⟩, prog_11_method_72_code, 3, (some .int), 9, 1, 1299, 72),
  (⟨"ThirstLeadModel", "sheet", "(III)I"⟩, prog_11_method_77_code, 5, (some .int), 9, 3, 1303, 72),
  (⟨"ThirstLeadModel", "mark", "(III)I"⟩, prog_11_method_78_code, 4, (some .int), 9, 3, 1308, 72),
  (⟨"ThirstLeadModel", "pour", "(I)I"⟩, prog_11_method_79_code, 6, (some .int), 9, 1, 1315, 72),
  (⟨"ThirstLeadModel", "reads", "(I)I"⟩, prog_11_method_80_code, 4, (some .int), 9, 1, 1319, 72),
  (⟨"ThirstLeadModel", "copy", "(IIIII)I"⟩, prog_11_method_81_code, 7, (some .int), 9, 5, 1323, 72)
]
def mT10 : List MTy := [
  (⟨"ThirstLeadModel", "lay", "(III)I"⟩, prog_11_method_82_code, 6, (some .int), 9, 3, 1327, 72),
  (⟨"ThirstLeadModel", "isSlot", "(I)Z"⟩, prog_11_method_76_code, 1, (some .boolean), 9, 1, 1330, 72),
  (⟨"ThirstLeadModel", "ask", "(II)I"⟩, prog_11_method_83_code, 3, (some .int), 9, 2, 1334, 72),
  (⟨"ThirstLeadModel", "item", "(II)I"⟩, prog_11_method_84_code, 4, (some .int), 9, 2, 1338, 72),
  (⟨"ThirstLeadModel", "rest", "(II)I"⟩, prog_11_method_85_code, 3, (some .int), 9, 2, 1342, 72),
  (⟨"ThirstLeadModel", "tell", "(I)I"⟩, prog_11_method_86_code, 2, (some .int), 9, 1, 1347, 72),
  (⟨"ThirstLeadModel", "check", "(I)I"⟩, prog_11_method_87_code, 6, (some .int), 9, 1, 1351, 72),
  (⟨"ThirstLeadModel", "copyAll", "([I[I)V"⟩, prog_11_method_4_code, 3, none, 9, 2, 1354, 72),
  (⟨"ThirstLeadModel", "keep", "()I"⟩, prog_11_method_88_code, 1, (some .int), 9, 0, 1358, 72),
  (⟨"ThirstLeadModel", "back", "()I"⟩, prog_11_method_89_code, 1, (some .int), 9, 0, 1362, 72),
  (⟨"ThirstLeadModel", "count", "(I)I"⟩, prog_11_method_90_code, 2, (some .int), 9, 1, 1366, 72),
  (⟨"java/lang/Math", "min", "(II)I"⟩, prog_12_method_69_code, 2, (some .int), 11, 2, 389, 73),
  (⟨"java/lang/Math", "max", "(II)I"⟩, prog_12_method_65_code, 2, (some .int), 11, 2, 408, 73),
  (⟨"java/lang/Math", "floorMod", "(II)I"⟩, prog_12_method_50_code, 3, (some .int), 11, 2, 423, 73),
  (⟨"java/lang/Math", "abs", "(I)I"⟩, prog_12_method_59_code, 1, (some .int), 11, 1, 641, 73),
  (⟨"java/lang/String", "length", "()I"⟩, prog_13_method_54_code, 1, (some .int), 12, 0, 710, 75),
  (⟨"java/lang/String", "coder", "()B"⟩, prog_13_method_152_code, 1, (some .byte), 12, 0, 714, 75),
  (⟨"java/lang/String", "charAt", "(I)C"⟩, prog_13_method_56_code, 2, (some .char), 12, 1, 720, 75),
  (⟨"java/lang/String", "isLatin1", "()Z"⟩, prog_13_method_154_code, 1, (some .boolean), 12, 0, 724, 75),
  (⟨"java/lang/String", "checkIndex", "(II)V"⟩, prog_13_method_155_code, 2, none, 12, 2, 730, 75)
]
def mT11 : List MTy := [
  (⟨"java/lang/StringLatin1", "charAt", "([BI)C"⟩, prog_14_method_2_code, 2, (some .char), 13, 2, 727, 76),
  (⟨"java/lang/StringUTF16", "charAt", "([BI)C"⟩, prog_15_method_83_code, 2, (some .char), 14, 2, 738, 78),
  (⟨"java/lang/StringUTF16", "checkIndex", "(I[B)V"⟩, prog_15_method_91_code, 2, none, 14, 2, 741, 78),
  (⟨"java/lang/StringUTF16", "length", "([B)I"⟩, prog_15_method_6_code, 1, (some .int), 14, 1, 744, 78),
  (⟨"java/lang/StringUTF16", "getChar", "([BI)C"⟩, prog_15_method_5_code, 2, (some .char), 14, 2, 748, 78),
  (⟨"jdk/internal/util/Preconditions", "checkIndex", "(IILjava/util/function/BiFunction;)I"⟩, prog_17_method_11_code, 3, (some .int), 15, 3, 735, 77)
]
def mTs : List MTy := mT0 ++ (mT1 ++ (mT2 ++ (mT3 ++ (mT4 ++ (mT5 ++ (mT6 ++ (mT7 ++ (mT8 ++ (mT9 ++ (mT10 ++ (mT11)))))))))))
def mT : List MTy := mTs ++ [(⟨"ThirstLeadLaw", "law", "([I)Z"⟩, code, 4, (some .boolean), 10, 1, 0, 62)]
set_option maxRecDepth 100000 in
theorem mw0 : ∀ t ∈ mT0, lwa t.2.2.2.2.2.2.1 = some (.code t.1 t.2.1 t.2.2.1 t.2.2.2.1) := List.forall_mem_cons.mpr ⟨rfl, List.forall_mem_cons.mpr ⟨rfl, List.forall_mem_cons.mpr ⟨rfl, List.forall_mem_cons.mpr ⟨rfl, List.forall_mem_cons.mpr ⟨rfl, List.forall_mem_cons.mpr ⟨rfl, List.forall_mem_cons.mpr ⟨rfl, List.forall_mem_cons.mpr ⟨rfl, List.forall_mem_cons.mpr ⟨rfl, List.forall_mem_cons.mpr ⟨rfl, List.forall_mem_cons.mpr ⟨rfl, List.forall_mem_cons.mpr ⟨rfl, List.forall_mem_cons.mpr ⟨rfl, List.forall_mem_cons.mpr ⟨rfl, List.forall_mem_cons.mpr ⟨rfl, List.forall_mem_cons.mpr ⟨rfl, List.forall_mem_cons.mpr ⟨rfl, List.forall_mem_cons.mpr ⟨rfl, List.forall_mem_cons.mpr ⟨rfl, List.forall_mem_cons.mpr ⟨rfl, fun _ h => absurd h List.not_mem_nil⟩⟩⟩⟩⟩⟩⟩⟩⟩⟩⟩⟩⟩⟩⟩⟩⟩⟩⟩⟩
set_option maxRecDepth 100000 in
theorem mw1 : ∀ t ∈ mT1, lwa t.2.2.2.2.2.2.1 = some (.code t.1 t.2.1 t.2.2.1 t.2.2.2.1) := List.forall_mem_cons.mpr ⟨rfl, List.forall_mem_cons.mpr ⟨rfl, List.forall_mem_cons.mpr ⟨rfl, List.forall_mem_cons.mpr ⟨rfl, List.forall_mem_cons.mpr ⟨rfl, List.forall_mem_cons.mpr ⟨rfl, List.forall_mem_cons.mpr ⟨rfl, List.forall_mem_cons.mpr ⟨rfl, List.forall_mem_cons.mpr ⟨rfl, List.forall_mem_cons.mpr ⟨rfl, List.forall_mem_cons.mpr ⟨rfl, List.forall_mem_cons.mpr ⟨rfl, List.forall_mem_cons.mpr ⟨rfl, List.forall_mem_cons.mpr ⟨rfl, List.forall_mem_cons.mpr ⟨rfl, List.forall_mem_cons.mpr ⟨rfl, List.forall_mem_cons.mpr ⟨rfl, List.forall_mem_cons.mpr ⟨rfl, List.forall_mem_cons.mpr ⟨rfl, List.forall_mem_cons.mpr ⟨rfl, fun _ h => absurd h List.not_mem_nil⟩⟩⟩⟩⟩⟩⟩⟩⟩⟩⟩⟩⟩⟩⟩⟩⟩⟩⟩⟩
set_option maxRecDepth 100000 in
theorem mw2 : ∀ t ∈ mT2, lwa t.2.2.2.2.2.2.1 = some (.code t.1 t.2.1 t.2.2.1 t.2.2.2.1) := List.forall_mem_cons.mpr ⟨rfl, List.forall_mem_cons.mpr ⟨rfl, List.forall_mem_cons.mpr ⟨rfl, List.forall_mem_cons.mpr ⟨rfl, List.forall_mem_cons.mpr ⟨rfl, List.forall_mem_cons.mpr ⟨rfl, List.forall_mem_cons.mpr ⟨rfl, List.forall_mem_cons.mpr ⟨rfl, List.forall_mem_cons.mpr ⟨rfl, List.forall_mem_cons.mpr ⟨rfl, List.forall_mem_cons.mpr ⟨rfl, List.forall_mem_cons.mpr ⟨rfl, List.forall_mem_cons.mpr ⟨rfl, List.forall_mem_cons.mpr ⟨rfl, List.forall_mem_cons.mpr ⟨rfl, List.forall_mem_cons.mpr ⟨rfl, List.forall_mem_cons.mpr ⟨rfl, List.forall_mem_cons.mpr ⟨rfl, List.forall_mem_cons.mpr ⟨rfl, List.forall_mem_cons.mpr ⟨rfl, fun _ h => absurd h List.not_mem_nil⟩⟩⟩⟩⟩⟩⟩⟩⟩⟩⟩⟩⟩⟩⟩⟩⟩⟩⟩⟩
set_option maxRecDepth 100000 in
theorem mw3 : ∀ t ∈ mT3, lwa t.2.2.2.2.2.2.1 = some (.code t.1 t.2.1 t.2.2.1 t.2.2.2.1) := List.forall_mem_cons.mpr ⟨rfl, List.forall_mem_cons.mpr ⟨rfl, List.forall_mem_cons.mpr ⟨rfl, List.forall_mem_cons.mpr ⟨rfl, List.forall_mem_cons.mpr ⟨rfl, List.forall_mem_cons.mpr ⟨rfl, List.forall_mem_cons.mpr ⟨rfl, List.forall_mem_cons.mpr ⟨rfl, List.forall_mem_cons.mpr ⟨rfl, List.forall_mem_cons.mpr ⟨rfl, List.forall_mem_cons.mpr ⟨rfl, List.forall_mem_cons.mpr ⟨rfl, List.forall_mem_cons.mpr ⟨rfl, List.forall_mem_cons.mpr ⟨rfl, List.forall_mem_cons.mpr ⟨rfl, List.forall_mem_cons.mpr ⟨rfl, List.forall_mem_cons.mpr ⟨rfl, List.forall_mem_cons.mpr ⟨rfl, List.forall_mem_cons.mpr ⟨rfl, List.forall_mem_cons.mpr ⟨rfl, fun _ h => absurd h List.not_mem_nil⟩⟩⟩⟩⟩⟩⟩⟩⟩⟩⟩⟩⟩⟩⟩⟩⟩⟩⟩⟩
set_option maxRecDepth 100000 in
theorem mw4 : ∀ t ∈ mT4, lwa t.2.2.2.2.2.2.1 = some (.code t.1 t.2.1 t.2.2.1 t.2.2.2.1) := List.forall_mem_cons.mpr ⟨rfl, List.forall_mem_cons.mpr ⟨rfl, List.forall_mem_cons.mpr ⟨rfl, List.forall_mem_cons.mpr ⟨rfl, List.forall_mem_cons.mpr ⟨rfl, List.forall_mem_cons.mpr ⟨rfl, List.forall_mem_cons.mpr ⟨rfl, List.forall_mem_cons.mpr ⟨rfl, List.forall_mem_cons.mpr ⟨rfl, List.forall_mem_cons.mpr ⟨rfl, List.forall_mem_cons.mpr ⟨rfl, List.forall_mem_cons.mpr ⟨rfl, List.forall_mem_cons.mpr ⟨rfl, List.forall_mem_cons.mpr ⟨rfl, List.forall_mem_cons.mpr ⟨rfl, List.forall_mem_cons.mpr ⟨rfl, List.forall_mem_cons.mpr ⟨rfl, List.forall_mem_cons.mpr ⟨rfl, List.forall_mem_cons.mpr ⟨rfl, List.forall_mem_cons.mpr ⟨rfl, fun _ h => absurd h List.not_mem_nil⟩⟩⟩⟩⟩⟩⟩⟩⟩⟩⟩⟩⟩⟩⟩⟩⟩⟩⟩⟩
set_option maxRecDepth 100000 in
theorem mw5 : ∀ t ∈ mT5, lwa t.2.2.2.2.2.2.1 = some (.code t.1 t.2.1 t.2.2.1 t.2.2.2.1) := List.forall_mem_cons.mpr ⟨rfl, List.forall_mem_cons.mpr ⟨rfl, List.forall_mem_cons.mpr ⟨rfl, List.forall_mem_cons.mpr ⟨rfl, List.forall_mem_cons.mpr ⟨rfl, List.forall_mem_cons.mpr ⟨rfl, List.forall_mem_cons.mpr ⟨rfl, List.forall_mem_cons.mpr ⟨rfl, List.forall_mem_cons.mpr ⟨rfl, List.forall_mem_cons.mpr ⟨rfl, List.forall_mem_cons.mpr ⟨rfl, List.forall_mem_cons.mpr ⟨rfl, List.forall_mem_cons.mpr ⟨rfl, List.forall_mem_cons.mpr ⟨rfl, List.forall_mem_cons.mpr ⟨rfl, List.forall_mem_cons.mpr ⟨rfl, List.forall_mem_cons.mpr ⟨rfl, List.forall_mem_cons.mpr ⟨rfl, List.forall_mem_cons.mpr ⟨rfl, List.forall_mem_cons.mpr ⟨rfl, fun _ h => absurd h List.not_mem_nil⟩⟩⟩⟩⟩⟩⟩⟩⟩⟩⟩⟩⟩⟩⟩⟩⟩⟩⟩⟩
set_option maxRecDepth 100000 in
theorem mw6 : ∀ t ∈ mT6, lwa t.2.2.2.2.2.2.1 = some (.code t.1 t.2.1 t.2.2.1 t.2.2.2.1) := List.forall_mem_cons.mpr ⟨rfl, List.forall_mem_cons.mpr ⟨rfl, List.forall_mem_cons.mpr ⟨rfl, List.forall_mem_cons.mpr ⟨rfl, List.forall_mem_cons.mpr ⟨rfl, List.forall_mem_cons.mpr ⟨rfl, List.forall_mem_cons.mpr ⟨rfl, List.forall_mem_cons.mpr ⟨rfl, List.forall_mem_cons.mpr ⟨rfl, List.forall_mem_cons.mpr ⟨rfl, List.forall_mem_cons.mpr ⟨rfl, List.forall_mem_cons.mpr ⟨rfl, List.forall_mem_cons.mpr ⟨rfl, List.forall_mem_cons.mpr ⟨rfl, List.forall_mem_cons.mpr ⟨rfl, List.forall_mem_cons.mpr ⟨rfl, List.forall_mem_cons.mpr ⟨rfl, List.forall_mem_cons.mpr ⟨rfl, List.forall_mem_cons.mpr ⟨rfl, List.forall_mem_cons.mpr ⟨rfl, fun _ h => absurd h List.not_mem_nil⟩⟩⟩⟩⟩⟩⟩⟩⟩⟩⟩⟩⟩⟩⟩⟩⟩⟩⟩⟩
set_option maxRecDepth 100000 in
theorem mw7 : ∀ t ∈ mT7, lwa t.2.2.2.2.2.2.1 = some (.code t.1 t.2.1 t.2.2.1 t.2.2.2.1) := List.forall_mem_cons.mpr ⟨rfl, List.forall_mem_cons.mpr ⟨rfl, List.forall_mem_cons.mpr ⟨rfl, List.forall_mem_cons.mpr ⟨rfl, List.forall_mem_cons.mpr ⟨rfl, List.forall_mem_cons.mpr ⟨rfl, List.forall_mem_cons.mpr ⟨rfl, List.forall_mem_cons.mpr ⟨rfl, List.forall_mem_cons.mpr ⟨rfl, List.forall_mem_cons.mpr ⟨rfl, List.forall_mem_cons.mpr ⟨rfl, List.forall_mem_cons.mpr ⟨rfl, List.forall_mem_cons.mpr ⟨rfl, List.forall_mem_cons.mpr ⟨rfl, List.forall_mem_cons.mpr ⟨rfl, List.forall_mem_cons.mpr ⟨rfl, List.forall_mem_cons.mpr ⟨rfl, List.forall_mem_cons.mpr ⟨rfl, List.forall_mem_cons.mpr ⟨rfl, List.forall_mem_cons.mpr ⟨rfl, fun _ h => absurd h List.not_mem_nil⟩⟩⟩⟩⟩⟩⟩⟩⟩⟩⟩⟩⟩⟩⟩⟩⟩⟩⟩⟩
set_option maxRecDepth 100000 in
theorem mw8 : ∀ t ∈ mT8, lwa t.2.2.2.2.2.2.1 = some (.code t.1 t.2.1 t.2.2.1 t.2.2.2.1) := List.forall_mem_cons.mpr ⟨rfl, List.forall_mem_cons.mpr ⟨rfl, List.forall_mem_cons.mpr ⟨rfl, List.forall_mem_cons.mpr ⟨rfl, List.forall_mem_cons.mpr ⟨rfl, List.forall_mem_cons.mpr ⟨rfl, List.forall_mem_cons.mpr ⟨rfl, List.forall_mem_cons.mpr ⟨rfl, List.forall_mem_cons.mpr ⟨rfl, List.forall_mem_cons.mpr ⟨rfl, List.forall_mem_cons.mpr ⟨rfl, List.forall_mem_cons.mpr ⟨rfl, List.forall_mem_cons.mpr ⟨rfl, List.forall_mem_cons.mpr ⟨rfl, List.forall_mem_cons.mpr ⟨rfl, List.forall_mem_cons.mpr ⟨rfl, List.forall_mem_cons.mpr ⟨rfl, List.forall_mem_cons.mpr ⟨rfl, List.forall_mem_cons.mpr ⟨rfl, List.forall_mem_cons.mpr ⟨rfl, fun _ h => absurd h List.not_mem_nil⟩⟩⟩⟩⟩⟩⟩⟩⟩⟩⟩⟩⟩⟩⟩⟩⟩⟩⟩⟩
set_option maxRecDepth 100000 in
theorem mw9 : ∀ t ∈ mT9, lwa t.2.2.2.2.2.2.1 = some (.code t.1 t.2.1 t.2.2.1 t.2.2.2.1) := List.forall_mem_cons.mpr ⟨rfl, List.forall_mem_cons.mpr ⟨rfl, List.forall_mem_cons.mpr ⟨rfl, List.forall_mem_cons.mpr ⟨rfl, List.forall_mem_cons.mpr ⟨rfl, List.forall_mem_cons.mpr ⟨rfl, List.forall_mem_cons.mpr ⟨rfl, List.forall_mem_cons.mpr ⟨rfl, List.forall_mem_cons.mpr ⟨rfl, List.forall_mem_cons.mpr ⟨rfl, List.forall_mem_cons.mpr ⟨rfl, List.forall_mem_cons.mpr ⟨rfl, List.forall_mem_cons.mpr ⟨rfl, List.forall_mem_cons.mpr ⟨rfl, List.forall_mem_cons.mpr ⟨rfl, List.forall_mem_cons.mpr ⟨rfl, List.forall_mem_cons.mpr ⟨rfl, List.forall_mem_cons.mpr ⟨rfl, List.forall_mem_cons.mpr ⟨rfl, List.forall_mem_cons.mpr ⟨rfl, fun _ h => absurd h List.not_mem_nil⟩⟩⟩⟩⟩⟩⟩⟩⟩⟩⟩⟩⟩⟩⟩⟩⟩⟩⟩⟩
set_option maxRecDepth 100000 in
theorem mw10 : ∀ t ∈ mT10, lwa t.2.2.2.2.2.2.1 = some (.code t.1 t.2.1 t.2.2.1 t.2.2.2.1) := List.forall_mem_cons.mpr ⟨rfl, List.forall_mem_cons.mpr ⟨rfl, List.forall_mem_cons.mpr ⟨rfl, List.forall_mem_cons.mpr ⟨rfl, List.forall_mem_cons.mpr ⟨rfl, List.forall_mem_cons.mpr ⟨rfl, List.forall_mem_cons.mpr ⟨rfl, List.forall_mem_cons.mpr ⟨rfl, List.forall_mem_cons.mpr ⟨rfl, List.forall_mem_cons.mpr ⟨rfl, List.forall_mem_cons.mpr ⟨rfl, List.forall_mem_cons.mpr ⟨rfl, List.forall_mem_cons.mpr ⟨rfl, List.forall_mem_cons.mpr ⟨rfl, List.forall_mem_cons.mpr ⟨rfl, List.forall_mem_cons.mpr ⟨rfl, List.forall_mem_cons.mpr ⟨rfl, List.forall_mem_cons.mpr ⟨rfl, List.forall_mem_cons.mpr ⟨rfl, List.forall_mem_cons.mpr ⟨rfl, fun _ h => absurd h List.not_mem_nil⟩⟩⟩⟩⟩⟩⟩⟩⟩⟩⟩⟩⟩⟩⟩⟩⟩⟩⟩⟩
set_option maxRecDepth 100000 in
theorem mw11 : ∀ t ∈ mT11, lwa t.2.2.2.2.2.2.1 = some (.code t.1 t.2.1 t.2.2.1 t.2.2.2.1) := List.forall_mem_cons.mpr ⟨rfl, List.forall_mem_cons.mpr ⟨rfl, List.forall_mem_cons.mpr ⟨rfl, List.forall_mem_cons.mpr ⟨rfl, List.forall_mem_cons.mpr ⟨rfl, List.forall_mem_cons.mpr ⟨rfl, fun _ h => absurd h List.not_mem_nil⟩⟩⟩⟩⟩⟩
theorem mw : ∀ t ∈ mTs, lwa t.2.2.2.2.2.2.1 = some (.code t.1 t.2.1 t.2.2.1 t.2.2.2.1) := by
  show ∀ t ∈ mT0 ++ (mT1 ++ (mT2 ++ (mT3 ++ (mT4 ++ (mT5 ++ (mT6 ++ (mT7 ++ (mT8 ++ (mT9 ++ (mT10 ++ (mT11))))))))))), lwa t.2.2.2.2.2.2.1 = some (.code t.1 t.2.1 t.2.2.1 t.2.2.2.1)
  exact List.forall_mem_append.mpr ⟨mw0, List.forall_mem_append.mpr ⟨mw1, List.forall_mem_append.mpr ⟨mw2, List.forall_mem_append.mpr ⟨mw3, List.forall_mem_append.mpr ⟨mw4, List.forall_mem_append.mpr ⟨mw5, List.forall_mem_append.mpr ⟨mw6, List.forall_mem_append.mpr ⟨mw7, List.forall_mem_append.mpr ⟨mw8, List.forall_mem_append.mpr ⟨mw9, List.forall_mem_append.mpr ⟨mw10, mw11⟩⟩⟩⟩⟩⟩⟩⟩⟩⟩⟩
def kLaw : Nat := 226
def tF : List (Nat × Nat × Nat × Nat × Nat) := [(7, 9, 7, 0, 100), (8, 89, 7, 0, 101), (1, 109, 7, 0, 102), (7, 15, 7, 1, 103), (8, 94, 7, 1, 104), (1, 70, 7, 1, 105), (7, 18, 7, 2, 106), (8, 97, 7, 2, 107), (1, 92, 7, 2, 108), (7, 21, 7, 3, 109), (8, 100, 7, 3, 110), (1, 112, 7, 3, 111), (7, 24, 7, 4, 112), (8, 103, 7, 4, 113), (1, 143, 7, 4, 114), (7, 27, 7, 5, 115), (8, 106, 7, 5, 116), (1, 88, 7, 5, 117), (1, 9, 1, 0, 132), (8, 131, 1, 0, 133), (1, 17, 1, 1, 134), (8, 85, 1, 1, 135), (1, 21, 1, 2, 136), (8, 144, 1, 2, 137), (1, 25, 1, 3, 138), (8, 168, 1, 3, 139), (1, 28, 1, 4, 140), (8, 322, 1, 4, 141), (1, 31, 1, 5, 142), (8, 325, 1, 5, 143), (1, 34, 1, 6, 144), (8, 328, 1, 6, 145), (1, 37, 1, 7, 146), (8, 331, 1, 7, 147), (1, 40, 1, 8, 148), (8, 158, 1, 8, 149), (1, 43, 1, 9, 150), (8, 175, 1, 9, 151), (1, 46, 1, 10, 152), (8, 161, 1, 10, 153), (1, 49, 1, 11, 154), (8, 155, 1, 11, 155), (1, 52, 1, 12, 156), (8, 227, 1, 12, 157), (0, 10, 0, 0, 192), (0, 16, 0, 1, 193), (2, 9, 2, 0, 212), (3, 36, 2, 0, 213), (2, 15, 2, 1, 214), (3, 33, 2, 1, 215), (2, 19, 2, 2, 216), (3, 28, 2, 2, 217), (4, 67, 2, 2, 218), (8, 263, 2, 2, 219), (2, 22, 2, 3, 220), (8, 266, 2, 3, 221), (3, 11, 3, 0, 231), (8, 251, 3, 0, 232), (3, 17, 3, 1, 233), (4, 12, 4, 0, 247), (8, 254, 4, 0, 248), (4, 18, 4, 1, 249), (8, 237, 4, 1, 250), (4, 22, 4, 2, 251), (8, 248, 4, 2, 252), (4, 25, 4, 3, 253), (4, 29, 4, 4, 254), (4, 32, 4, 5, 255), (5, 9, 5, 0, 278), (8, 274, 5, 0, 279), (5, 15, 5, 1, 280), (8, 219, 5, 1, 281), (5, 19, 5, 2, 282), (8, 337, 5, 2, 283), (6, 12, 6, 0, 300), (8, 301, 6, 0, 301), (6, 21, 6, 1, 302), (8, 308, 6, 1, 303), (6, 25, 6, 2, 304), (8, 298, 6, 2, 305), (6, 29, 6, 3, 306), (8, 315, 6, 3, 307), (8, 12, 8, 0, 317), (8, 16, 8, 1, 318), (8, 19, 8, 2, 319), (8, 25, 8, 3, 320), (8, 32, 8, 4, 321), (8, 39, 8, 5, 322), (8, 45, 8, 6, 323), (8, 51, 8, 7, 324), (8, 55, 8, 8, 325), (8, 59, 8, 9, 326), (8, 63, 8, 10, 327), (9, 9, 9, 0, 905), (9, 13, 9, 1, 906), (9, 16, 9, 2, 907), (9, 279, 9, 3, 908), (9, 152, 9, 4, 909), (9, 19, 9, 5, 910), (9, 22, 9, 6, 911), (9, 200, 9, 7, 912), (9, 204, 9, 8, 913), (9, 207, 9, 9, 914), (9, 213, 9, 10, 915), (9, 219, 9, 11, 916), (9, 210, 9, 12, 917), (9, 225, 9, 13, 918), (9, 25, 9, 14, 919), (9, 29, 9, 15, 920), (9, 32, 9, 16, 921), (9, 237, 9, 17, 922), (9, 243, 9, 18, 923), (9, 35, 9, 19, 924), (9, 231, 9, 20, 925), (9, 38, 9, 21, 926), (9, 42, 9, 22, 927), (9, 45, 9, 23, 928), (9, 48, 9, 24, 929), (9, 51, 9, 25, 930), (9, 54, 9, 26, 931), (9, 57, 9, 27, 932), (9, 60, 9, 28, 933), (9, 63, 9, 29, 934), (9, 66, 9, 30, 935), (9, 69, 9, 31, 936), (9, 72, 9, 32, 937), (9, 276, 9, 33, 938)]
def tC : List (Nat × Nat × Nat × Nat × Nat × Nat) := [(10, 7, 8, 79, 80, 63), (8, 9, 1, 87, 88, 64), (1, 15, 7, 93, 95, 65), (8, 22, 0, 185, 186, 66), (8, 29, 3, 199, 200, 67), (3, 9, 2, 205, 207, 68), (8, 36, 4, 239, 240, 69), (4, 9, 2, 245, 207, 68), (8, 43, 5, 269, 273, 70), (8, 49, 6, 271, 291, 71), (6, 9, 7, 296, 95, 65), (6, 18, 5, 298, 273, 70), (10, 10, 9, 899, 900, 72)]
def tK : List (Nat × Nat × Int32 × Nat) := [(0, 9, -1000000005, 191), (8, 77, -1000000001, 361), (1, 74, -1000000003, 366), (3, 32, -1000000005, 390), (1, 101, -1000000005, 391), (8, 127, -1000000012, 440), (1, 87, 1103515245, 479), (8, 174, -1000000005, 540), (1, 73, -1000000001, 573), (8, 222, -1000000011, 625), (5, 32, -1000000005, 638), (8, 240, -1000000003, 656), (8, 269, -1000000014, 818), (8, 273, -1000000013, 828), (8, 277, -99999, 829), (8, 278, 99999, 830), (8, 318, -1000000002, 874), (9, 88, -1000000001, 1017), (9, 89, -1000000003, 1018), (9, 131, -1000000012, 1084), (9, 138, 1103515245, 1116), (9, 75, -1000000005, 1168), (9, 195, -1000000011, 1224), (9, 268, -1000000014, 1304), (9, 269, -1000000013, 1309), (9, 270, -99999, 1310), (9, 271, 99999, 1311), (9, 275, -1000000002, 1343)]
def tM : List (Nat × Nat × Nat × Nat × Nat × Nat × Nat) := [(10, 9, 3, 71, 81, 82, 0), (8, 3, 5, 0, 84, 85, 0), (8, 11, 3, 4, 89, 90, 0), (1, 3, 5, 0, 92, 85, 0), (1, 55, 4, 62, 96, 97, 0), (7, 3, 5, 0, 99, 85, 0), (8, 24, 4, 0, 187, 188, 0), (0, 3, 5, 0, 190, 85, 0), (8, 31, 3, 32, 201, 202, 0), (3, 3, 5, 0, 204, 85, 0), (3, 21, 4, 26, 208, 209, 0), (2, 3, 5, 0, 211, 85, 0), (8, 38, 4, 37, 241, 242, 0), (4, 3, 5, 0, 244, 85, 0), (4, 11, 4, 26, 246, 209, 0), (8, 67, 4, 55, 274, 275, 0), (5, 3, 5, 0, 277, 85, 0), (8, 68, 4, 61, 292, 293, 0), (6, 3, 5, 0, 295, 85, 0), (6, 11, 4, 62, 297, 97, 0), (6, 20, 4, 55, 299, 275, 0), (10, 13, 0, 72, 351, 352, 353), (8, 69, 1, 73, 355, 356, 0), (8, 73, 1, 74, 358, 359, 0), (8, 78, 0, 5, 362, 363, 364), (1, 75, 0, 63, 367, 368, 369), (10, 18, 0, 75, 371, 372, 373), (8, 82, 0, 6, 375, 376, 377), (8, 109, 0, 7, 379, 380, 381), (1, 95, 0, 33, 383, 384, 385), (3, 22, 1, 211, 387, 388, 0), (1, 102, 0, 34, 392, 393, 394), (3, 39, 1, 35, 396, 397, 0), (3, 43, 1, 36, 399, 400, 0), (1, 106, 2, 76, 402, 403, 0), (8, 147, 1, 211, 405, 388, 0), (8, 334, 1, 212, 406, 407, 0), (8, 113, 0, 64, 409, 410, 411), (8, 117, 0, 8, 413, 414, 415), (1, 115, 0, 9, 417, 419, 0), (1, 122, 1, 213, 421, 422, 0), (1, 118, 0, 10, 424, 426, 1), (8, 121, 0, 65, 428, 429, 430), (10, 23, 0, 77, 432, 433, 434), (8, 124, 0, 66, 436, 437, 438), (10, 27, 0, 78, 441, 442, 443), (10, 31, 0, 79, 445, 446, 447), (10, 35, 0, 80, 451, 452, 453), (10, 39, 0, 81, 455, 456, 457), (8, 140, 0, 11, 463, 464, 465), (10, 43, 0, 82, 467, 468, 469), (8, 152, 0, 12, 471, 472, 473), (1, 79, 0, 13, 475, 476, 477), (1, 83, 0, 5, 480, 363, 364), (10, 48, 0, 83, 481, 482, 483), (10, 52, 0, 84, 485, 486, 487), (8, 164, 0, 85, 489, 491, 2), (8, 208, 0, 14, 493, 494, 495), (1, 127, 0, 15, 497, 498, 499), (1, 130, 0, 16, 501, 503, 3), (1, 146, 0, 8, 505, 414, 415), (1, 133, 0, 17, 506, 508, 4), (1, 150, 0, 67, 510, 511, 512), (7, 41, 0, 68, 514, 515, 516), (7, 31, 0, 64, 518, 410, 411), (7, 35, 1, 212, 519, 407, 0), (7, 44, 1, 211, 520, 388, 0), (1, 136, 0, 18, 521, 523, 5), (1, 153, 0, 7, 525, 380, 381), (1, 157, 0, 69, 526, 527, 528), (1, 140, 0, 19, 530, 532, 6), (1, 161, 1, 211, 534, 388, 0), (10, 56, 0, 86, 535, 536, 537), (8, 171, 0, 15, 539, 498, 499), (8, 178, 0, 20, 541, 542, 543), (8, 181, 0, 21, 545, 546, 547), (8, 184, 0, 22, 549, 550, 551), (10, 60, 0, 87, 553, 554, 555), (8, 187, 0, 23, 557, 558, 559), (1, 56, 6, 0, 561, 562, 563), (1, 62, 0, 70, 564, 565, 566), (8, 191, 0, 24, 568, 569, 570), (1, 66, 0, 6, 572, 376, 377), (10, 64, 0, 88, 574, 575, 576), (8, 195, 0, 89, 578, 580, 7), (10, 69, 0, 90, 582, 583, 584), (8, 198, 0, 1, 586, 587, 588), (8, 201, 0, 2, 590, 591, 592), (8, 205, 0, 3, 594, 595, 596), (10, 73, 0, 91, 598, 599, 600), (10, 77, 0, 92, 602, 603, 604), (10, 81, 0, 93, 606, 607, 608), (8, 212, 0, 25, 610, 611, 612), (10, 85, 0, 94, 614, 615, 616), (10, 89, 0, 95, 618, 619, 620), (8, 216, 1, 96, 622, 623, 0), (8, 223, 0, 97, 626, 628, 8), (8, 279, 0, 56, 630, 631, 632), (5, 28, 0, 57, 634, 635, 636), (8, 338, 1, 214, 639, 640, 0), (10, 93, 0, 98, 642, 643, 644), (8, 230, 0, 33, 646, 384, 385), (8, 233, 0, 34, 647, 393, 394), (10, 97, 0, 99, 648, 649, 650), (10, 101, 0, 100, 652, 653, 654), (8, 241, 0, 38, 657, 658, 659), (10, 105, 0, 101, 661, 662, 663), (10, 109, 0, 102, 665, 666, 667), (8, 244, 0, 39, 669, 670, 671), (4, 35, 0, 27, 673, 674, 675), (4, 38, 0, 40, 677, 679, 9), (4, 49, 0, 41, 681, 683, 10), (4, 52, 0, 42, 685, 687, 11), (4, 56, 0, 43, 689, 691, 12), (4, 41, 0, 44, 693, 695, 13), (4, 59, 1, 45, 697, 698, 0), (4, 63, 0, 46, 703, 705, 14), (4, 82, 0, 215, 707, 708, 709), (12, 335, 0, 216, 711, 712, 713), (4, 87, 0, 217, 717, 718, 719), (12, 492, 0, 218, 721, 722, 723), (12, 495, 1, 220, 725, 726, 0), (13, 9, 1, 219, 728, 729, 0), (12, 1059, 1, 225, 733, 734, 0), (12, 498, 1, 221, 736, 737, 0), (14, 67, 1, 222, 739, 740, 0), (14, 48, 1, 223, 742, 743, 0), (14, 414, 1, 219, 745, 729, 0), (14, 71, 1, 224, 746, 747, 0), (4, 45, 0, 47, 755, 757, 15), (4, 91, 0, 48, 759, 761, 16), (4, 102, 0, 49, 763, 765, 17), (4, 114, 0, 28, 767, 768, 769), (2, 31, 0, 29, 771, 773, 18), (4, 105, 0, 50, 775, 777, 19), (4, 117, 1, 51, 779, 780, 0), (4, 108, 0, 52, 785, 787, 20), (4, 98, 0, 30, 789, 790, 791), (4, 111, 0, 53, 793, 795, 21), (4, 95, 1, 54, 797, 798, 0), (8, 258, 0, 31, 800, 801, 802), (2, 25, 6, 0, 804, 562, 563), (10, 113, 0, 103, 806, 807, 808), (10, 117, 0, 104, 810, 811, 812), (10, 121, 0, 105, 814, 815, 816), (8, 270, 0, 58, 819, 820, 821), (10, 125, 0, 106, 823, 824, 825), (8, 272, 0, 57, 827, 635, 636), (10, 129, 0, 107, 831, 832, 833), (8, 282, 1, 76, 835, 403, 0), (10, 133, 0, 108, 836, 837, 838), (10, 137, 0, 109, 840, 841, 842), (8, 285, 0, 59, 844, 845, 846), (8, 289, 6, 0, 848, 562, 563), (10, 142, 0, 110, 849, 850, 851), (8, 295, 1, 111, 853, 854, 0), (8, 305, 0, 70, 856, 565, 566), (8, 312, 0, 60, 857, 858, 859), (5, 22, 6, 0, 861, 562, 563), (10, 146, 0, 112, 862, 863, 864), (10, 150, 0, 113, 866, 867, 868), (10, 154, 0, 114, 870, 871, 872), (10, 158, 0, 115, 875, 876, 877), (10, 162, 0, 116, 879, 880, 881), (8, 319, 0, 117, 883, 885, 22), (10, 166, 0, 118, 887, 888, 889), (10, 170, 0, 119, 891, 892, 893), (10, 174, 0, 120, 895, 896, 897), (10, 12, 3, 121, 901, 902, 0), (9, 1, 5, 0, 904, 85, 0), (10, 17, 0, 122, 1010, 1011, 1012), (9, 76, 1, 123, 1014, 1015, 0), (9, 90, 0, 124, 1019, 1021, 23), (9, 84, 0, 125, 1023, 1025, 24), (10, 22, 0, 126, 1027, 1028, 1029), (9, 111, 0, 127, 1031, 1033, 25), (9, 80, 0, 128, 1035, 1037, 26), (9, 115, 0, 129, 1039, 1041, 27), (9, 94, 0, 130, 1043, 1045, 28), (9, 98, 0, 131, 1047, 1049, 29), (9, 265, 1, 132, 1051, 1052, 0), (9, 101, 1, 133, 1054, 1055, 0), (9, 118, 0, 134, 1057, 1059, 30), (9, 121, 0, 135, 1061, 1063, 31), (9, 104, 0, 136, 1065, 1067, 32), (9, 108, 0, 137, 1069, 1071, 33), (9, 124, 0, 138, 1073, 1075, 34), (10, 26, 0, 139, 1077, 1078, 1079), (9, 127, 1, 140, 1081, 1082, 0), (10, 30, 0, 141, 1085, 1086, 1087), (9, 132, 0, 142, 1089, 1091, 35), (10, 34, 0, 143, 1093, 1094, 1095), (10, 38, 0, 144, 1097, 1098, 1099), (9, 135, 1, 145, 1101, 1102, 0), (10, 42, 0, 146, 1104, 1105, 1106), (10, 47, 0, 147, 1108, 1109, 1110), (9, 139, 0, 148, 1112, 1114, 36), (10, 51, 0, 149, 1117, 1118, 1119), (10, 55, 0, 150, 1121, 1122, 1123), (9, 171, 0, 151, 1125, 1127, 37), (9, 168, 0, 152, 1129, 1131, 38), (9, 149, 0, 153, 1133, 1135, 39), (9, 142, 0, 154, 1137, 1139, 40), (9, 156, 0, 155, 1141, 1143, 41), (9, 159, 0, 156, 1145, 1147, 42), (9, 145, 0, 157, 1149, 1151, 43), (9, 162, 0, 158, 1153, 1155, 44), (9, 165, 0, 159, 1157, 1159, 45), (10, 59, 0, 160, 1161, 1162, 1163), (9, 174, 1, 161, 1165, 1166, 0), (9, 177, 0, 162, 1169, 1171, 46), (9, 180, 0, 163, 1173, 1175, 47), (10, 63, 0, 164, 1177, 1178, 1179), (9, 183, 0, 165, 1181, 1183, 48), (9, 186, 0, 166, 1185, 1187, 49), (10, 68, 0, 167, 1189, 1190, 1191), (10, 72, 0, 168, 1193, 1194, 1195), (9, 189, 0, 169, 1197, 1199, 50), (10, 76, 0, 170, 1201, 1202, 1203), (10, 80, 0, 171, 1205, 1206, 1207), (10, 84, 0, 172, 1209, 1210, 1211), (10, 88, 0, 173, 1213, 1214, 1215), (10, 92, 0, 174, 1217, 1218, 1219), (9, 192, 1, 175, 1221, 1222, 0), (9, 196, 0, 176, 1225, 1227, 51), (10, 96, 0, 177, 1229, 1230, 1231), (10, 100, 0, 178, 1233, 1234, 1235), (10, 104, 0, 179, 1237, 1238, 1239), (10, 108, 0, 180, 1241, 1242, 1243), (10, 112, 0, 181, 1245, 1246, 1247), (9, 228, 0, 182, 1249, 1251, 52), (9, 216, 0, 183, 1253, 1255, 53), (9, 222, 0, 184, 1257, 1259, 54), (9, 259, 0, 185, 1261, 1263, 55), (9, 262, 0, 186, 1265, 1267, 56), (9, 249, 0, 187, 1269, 1271, 57), (9, 240, 0, 188, 1273, 1275, 58), (9, 246, 0, 189, 1277, 1279, 59), (9, 234, 1, 190, 1281, 1282, 0), (9, 253, 0, 191, 1284, 1286, 60), (9, 256, 0, 192, 1288, 1290, 61), (10, 116, 0, 193, 1292, 1293, 1294), (10, 120, 0, 194, 1296, 1297, 1298), (10, 124, 0, 195, 1300, 1301, 1302), (10, 128, 0, 196, 1305, 1306, 1307), (10, 132, 0, 197, 1312, 1313, 1314), (10, 136, 0, 198, 1316, 1317, 1318), (10, 141, 0, 199, 1320, 1321, 1322), (10, 145, 0, 200, 1324, 1325, 1326), (9, 272, 1, 201, 1328, 1329, 0), (10, 149, 0, 202, 1331, 1332, 1333), (10, 153, 0, 203, 1335, 1336, 1337), (10, 157, 0, 204, 1339, 1340, 1341), (10, 161, 0, 205, 1344, 1345, 1346), (10, 165, 0, 206, 1348, 1349, 1350), (9, 282, 1, 207, 1352, 1353, 0), (10, 169, 0, 208, 1355, 1356, 1357), (10, 173, 0, 209, 1359, 1360, 1361), (10, 177, 0, 210, 1363, 1364, 1365)]
