theorem goodIn_r {big : List Cond} (ws : List Cond) (ps : List Nat) (hp : ws = ps.filterMap (fun i => big[i]?)) (h : ws.all goodWord = true) : GoodIn big ws := by
  intro w hw
  have h1 := List.all_eq_true.mp h w hw
  rw [hp] at hw
  obtain ⟨i, -, hi⟩ := List.mem_filterMap.mp hw
  have hm : w ∈ big := by first | exact List.mem_of_getElem? hi | exact List.getElem?_mem hi
  exact ⟨hm, good_of_word h1⟩
theorem goodIn_app {big a b : List Cond} (ha : GoodIn big a) (hb : GoodIn big b) : GoodIn big (a ++ b) := fun w h => (List.mem_append.mp h).elim (ha w) (hb w)
theorem goodIn_ca {big a b : List Cond} {c : Cond} (ha : GoodIn big (c :: a)) (hb : GoodIn big b) : GoodIn big (c :: (a ++ b)) := fun w h => (List.mem_cons.mp h).elim (fun e => ha w (List.mem_cons.mpr (Or.inl e))) (fun h => (List.mem_append.mp h).elim (fun h => ha w (List.mem_cons.mpr (Or.inr h))) (hb w))
theorem goodIn_sub {big ws : List Cond} (hm : ∀ w ∈ ws, w ∈ big) (h : ws.all goodWord = true) : GoodIn big ws := fun w hw => ⟨hm w hw, good_of_word (List.all_eq_true.mp h w hw)⟩
def RX0 : String := "SearchMill$Document"
def TX0 : u_T := fun k => match k with
  | 0 => ("SearchMill$Document", "key", "I", false)
  | 1 => ("SearchMill$Document", "category", "I", false)
  | 2 => ("SearchMill$Document", "number", "I", false)
  | 3 => ("SearchMill$Document", "firstText", "LSearchMill$Text;", false)
  | _ => ("SearchMill$Document", "secondText", "LSearchMill$Text;", false)
def tyX0 : Nat → FieldType := fun k => match k with
  | 0 => .int
  | 1 => .int
  | 2 => .int
  | 3 => .object "SearchMill$Text"
  | _ => .object "SearchMill$Text"
abbrev wsX00 : List Cond := u_ws RX0 TX0 5
theorem nmX0 : ∀ a, a < 5 → ∀ b, b < 5 → a ≠ b → (TX0 a).2.1 ≠ (TX0 b).2.1 := by decide +kernel
theorem tyX0_ok : ∀ k, k < 5 → parseFieldDescriptor (TX0 k).2.2.1 = some (tyX0 k) := by decide +kernel
abbrev cX0_init : ByteArray := prog_2_method_1_code
def yX0_init : MethodName := ⟨RX0, "<init>", "()V"⟩
abbrev cX0_textOf : ByteArray := prog_2_method_2_code
def yX0_textOf : MethodName := ⟨RX0, "textOf", "(I)LSearchMill$Text;"⟩
abbrev cX0_putText : ByteArray := prog_2_method_3_code
def yX0_putText : MethodName := ⟨RX0, "putText", "(ILSearchMill$Text;)V"⟩
def RX1 : String := "SearchMill$Finder"
def TX1 : u_T := fun k => match k with
  | 0 => ("SearchMill$Finder", "reader", "LSearchMill$Reader;", true)
  | 1 => ("SearchMill$Finder", "held", "I", false)
  | 2 => ("SearchMill$Finder", "hitKeys", "[I", true)
  | 3 => ("SearchMill$Finder", "hitRanks", "[I", true)
  | 4 => ("SearchMill$Finder", "skippedBlocks", "I", false)
  | 5 => ("SearchMill$Finder", "takenMatches", "I", false)
  | 6 => ("SearchMill$Finder", "cacheSize", "I", false)
  | 7 => ("SearchMill$Finder", "cacheUses", "I", false)
  | 8 => ("SearchMill$Finder", "cacheQueries", "[I", true)
  | 9 => ("SearchMill$Finder", "cacheSegments", "[I", true)
  | 10 => ("SearchMill$Finder", "cacheTimes", "[I", true)
  | 11 => ("SearchMill$Finder", "cacheMatches", "[[I", true)
  | 12 => ("SearchMill$Finder", "starts", "[I", true)
  | _ => ("SearchMill$Finder", "spots", "[I", true)
def tyX1 : Nat → FieldType := fun k => match k with
  | 0 => .object "SearchMill$Reader"
  | 1 => .int
  | 2 => .array .int
  | 3 => .array .int
  | 4 => .int
  | 5 => .int
  | 6 => .int
  | 7 => .int
  | 8 => .array .int
  | 9 => .array .int
  | 10 => .array .int
  | 11 => .array (.array .int)
  | 12 => .array .int
  | _ => .array .int
abbrev wsX10 : List Cond := u_ws RX1 TX1 14
theorem nmX1 : ∀ a, a < 14 → ∀ b, b < 14 → a ≠ b → (TX1 a).2.1 ≠ (TX1 b).2.1 := by decide +kernel
theorem tyX1_ok : ∀ k, k < 14 → parseFieldDescriptor (TX1 k).2.2.1 = some (tyX1 k) := by decide +kernel
abbrev cX1_init : ByteArray := prog_3_method_1_code
def yX1_init : MethodName := ⟨RX1, "<init>", "(LSearchMill$Reader;)V"⟩
abbrev cX1_forget : ByteArray := prog_3_method_2_code
def yX1_forget : MethodName := ⟨RX1, "forget", "()V"⟩
abbrev cX1_search : ByteArray := prog_3_method_3_code
def yX1_search : MethodName := ⟨RX1, "search", "(LSearchMill$View;LSearchMill$Query;II)I"⟩
abbrev cX1_searchBlocks : ByteArray := prog_3_method_4_code
def yX1_searchBlocks : MethodName := ⟨RX1, "searchBlocks", "(LSearchMill$Query;LSearchMill$Holding;[II)V"⟩
abbrev cX1_hold : ByteArray := prog_3_method_5_code
def yX1_hold : MethodName := ⟨RX1, "hold", "(III)V"⟩
abbrev cX1_entryOf : ByteArray := prog_3_method_6_code
def yX1_entryOf : MethodName := ⟨RX1, "entryOf", "(LSearchMill$Query;ILSearchMill$Segment;)I"⟩
abbrev cX1_freeEntry : ByteArray := prog_3_method_7_code
def yX1_freeEntry : MethodName := ⟨RX1, "freeEntry", "()I"⟩
abbrev cX1_readPassages : ByteArray := prog_3_method_8_code
def yX1_readPassages : MethodName := ⟨RX1, "readPassages", "(LSearchMill$Document;LSearchMill$Query;I)I"⟩
abbrev cX1_readSpots : ByteArray := prog_3_method_9_code
def yX1_readSpots : MethodName := ⟨RX1, "readSpots", "(LSearchMill$Query;I)I"⟩
abbrev cX1_isCovered : ByteArray := prog_3_method_10_code
def yX1_isCovered : MethodName := ⟨RX1, "isCovered", "([I[IIII)Z"⟩
abbrev cX1_areSpotsIn : ByteArray := prog_3_method_11_code
def yX1_areSpotsIn : MethodName := ⟨RX1, "areSpotsIn", "([I[II)Z"⟩
def RX2 : String := "SearchMill$Holding"
def TX2 : u_T := fun k => match k with
  | 0 => ("SearchMill$Holding", "segment", "LSearchMill$Segment;", true)
  | _ => ("SearchMill$Holding", "isDead", "[Z", true)
def tyX2 : Nat → FieldType := fun k => match k with
  | 0 => .object "SearchMill$Segment"
  | _ => .array .boolean
abbrev wsX20 : List Cond := u_ws RX2 TX2 2
theorem nmX2 : ∀ a, a < 2 → ∀ b, b < 2 → a ≠ b → (TX2 a).2.1 ≠ (TX2 b).2.1 := by decide +kernel
theorem tyX2_ok : ∀ k, k < 2 → parseFieldDescriptor (TX2 k).2.2.1 = some (tyX2 k) := by decide +kernel
abbrev cX2_init : ByteArray := prog_4_method_1_code
def yX2_init : MethodName := ⟨RX2, "<init>", "(LSearchMill$Segment;)V"⟩
abbrev cX2_copy : ByteArray := prog_4_method_2_code
def yX2_copy : MethodName := ⟨RX2, "copy", "()LSearchMill$Holding;"⟩
abbrev cX2_isLive : ByteArray := prog_4_method_3_code
def yX2_isLive : MethodName := ⟨RX2, "isLive", "(I)Z"⟩
abbrev cX2_liveCount : ByteArray := prog_4_method_4_code
def yX2_liveCount : MethodName := ⟨RX2, "liveCount", "()I"⟩
abbrev cX2_liveIn : ByteArray := prog_4_method_5_code
def yX2_liveIn : MethodName := ⟨RX2, "liveIn", "([I)I"⟩
abbrev cX2_hasDead : ByteArray := prog_4_method_6_code
def yX2_hasDead : MethodName := ⟨RX2, "hasDead", "()Z"⟩
abbrev cX2_isAlike : ByteArray := prog_4_method_7_code
def yX2_isAlike : MethodName := ⟨RX2, "isAlike", "(LSearchMill$Holding;)Z"⟩
abbrev cX2_liveAt : ByteArray := prog_4_method_8_code
def yX2_liveAt : MethodName := ⟨RX2, "liveAt", "(I)I"⟩
abbrev cX2_kill : ByteArray := prog_4_method_9_code
def yX2_kill : MethodName := ⟨RX2, "kill", "(I)Z"⟩
abbrev cX2_gather : ByteArray := prog_4_method_10_code
def yX2_gather : MethodName := ⟨RX2, "gather", "(LSearchMill$Holding;Ljava/util/ArrayList;Ljava/util/ArrayList;)V"⟩
def RX3 : String := "SearchMill$Language"
def TX3 : u_T := fun k => match k with
  | 0 => ("SearchMill$Language", "pad", "LSearchMill$Text;", false)
  | 1 => ("SearchMill$Language", "readWords", "[J", true)
  | 2 => ("SearchMill$Language", "readCount", "I", false)
  | 3 => ("SearchMill$Language", "stops", "[J", true)
  | 4 => ("SearchMill$Language", "stopCount", "I", false)
  | 5 => ("SearchMill$Language", "pairFirsts", "[J", true)
  | 6 => ("SearchMill$Language", "pairSeconds", "[J", true)
  | 7 => ("SearchMill$Language", "pairCount", "I", false)
  | _ => ("SearchMill$Language", "isFixed", "Z", false)
def tyX3 : Nat → FieldType := fun k => match k with
  | 0 => .object "SearchMill$Text"
  | 1 => .array .long
  | 2 => .int
  | 3 => .array .long
  | 4 => .int
  | 5 => .array .long
  | 6 => .array .long
  | 7 => .int
  | _ => .boolean
abbrev wsX30 : List Cond := u_ws RX3 TX3 9
theorem nmX3 : ∀ a, a < 9 → ∀ b, b < 9 → a ≠ b → (TX3 a).2.1 ≠ (TX3 b).2.1 := by decide +kernel
theorem tyX3_ok : ∀ k, k < 9 → parseFieldDescriptor (TX3 k).2.2.1 = some (tyX3 k) := by decide +kernel
abbrev cX3_init : ByteArray := prog_5_method_1_code
def yX3_init : MethodName := ⟨RX3, "<init>", "()V"⟩
abbrev cX3_takePad : ByteArray := prog_5_method_2_code
def yX3_takePad : MethodName := ⟨RX3, "takePad", "()LSearchMill$Text;"⟩
abbrev cX3_readPad : ByteArray := prog_5_method_3_code
def yX3_readPad : MethodName := ⟨RX3, "readPad", "()I"⟩
abbrev cX3_readPadTokens : ByteArray := prog_5_method_4_code
def yX3_readPadTokens : MethodName := ⟨RX3, "readPadTokens", "()I"⟩
abbrev cX3_wordAt : ByteArray := prog_5_method_5_code
def yX3_wordAt : MethodName := ⟨RX3, "wordAt", "(I)J"⟩
abbrev cX3_putStop : ByteArray := prog_5_method_6_code
def yX3_putStop : MethodName := ⟨RX3, "putStop", "()I"⟩
abbrev cX3_putPair : ByteArray := prog_5_method_7_code
def yX3_putPair : MethodName := ⟨RX3, "putPair", "()I"⟩
abbrev cX3_tokenise : ByteArray := prog_5_method_8_code
def yX3_tokenise : MethodName := ⟨RX3, "tokenise", "(LSearchMill$Text;Z)V"⟩
abbrev cX3_putSynonyms : ByteArray := prog_5_method_9_code
def yX3_putSynonyms : MethodName := ⟨RX3, "putSynonyms", "(LSearchMill$Text;JI)V"⟩
abbrev cX3_isStop : ByteArray := prog_5_method_10_code
def yX3_isStop : MethodName := ⟨RX3, "isStop", "(J)Z"⟩
abbrev cX3_readWordsOf : ByteArray := prog_5_method_11_code
def yX3_readWordsOf : MethodName := ⟨RX3, "readWordsOf", "(LSearchMill$Text;)V"⟩
def RX4 : String := "SearchMill$Node"
def TX4 : u_T := fun k => match k with
  | 0 => ("SearchMill$Node", "kind", "I", true)
  | 1 => ("SearchMill$Node", "field", "I", true)
  | 2 => ("SearchMill$Node", "limit", "I", true)
  | 3 => ("SearchMill$Node", "isOrdered", "Z", false)
  | 4 => ("SearchMill$Node", "partCount", "I", false)
  | 5 => ("SearchMill$Node", "isAside", "Z", false)
  | 6 => ("SearchMill$Node", "tokens", "[J", false)
  | 7 => ("SearchMill$Node", "gaps", "[I", false)
  | 8 => ("SearchMill$Node", "pattern", "[I", false)
  | 9 => ("SearchMill$Node", "word", "J", false)
  | _ => ("SearchMill$Node", "costs", "[I", false)
def tyX4 : Nat → FieldType := fun k => match k with
  | 0 => .int
  | 1 => .int
  | 2 => .int
  | 3 => .boolean
  | 4 => .int
  | 5 => .boolean
  | 6 => .array .long
  | 7 => .array .int
  | 8 => .array .int
  | 9 => .long
  | _ => .array .int
abbrev wsX40 : List Cond := u_ws RX4 TX4 11
theorem nmX4 : ∀ a, a < 11 → ∀ b, b < 11 → a ≠ b → (TX4 a).2.1 ≠ (TX4 b).2.1 := by decide +kernel
theorem tyX4_ok : ∀ k, k < 11 → parseFieldDescriptor (TX4 k).2.2.1 = some (tyX4 k) := by decide +kernel
abbrev cX4_init : ByteArray := prog_6_method_1_code
def yX4_init : MethodName := ⟨RX4, "<init>", "(III)V"⟩
abbrev cX4_ofTokens : ByteArray := prog_6_method_2_code
def yX4_ofTokens : MethodName := ⟨RX4, "ofTokens", "(IIILSearchMill$Text;)LSearchMill$Node;"⟩
abbrev cX4_ofPrefix : ByteArray := prog_6_method_3_code
def yX4_ofPrefix : MethodName := ⟨RX4, "ofPrefix", "(IJ)LSearchMill$Node;"⟩
abbrev cX4_ofPattern : ByteArray := prog_6_method_4_code
def yX4_ofPattern : MethodName := ⟨RX4, "ofPattern", "(ILSearchMill$Text;)LSearchMill$Node;"⟩
abbrev cX4_ofEdits : ByteArray := prog_6_method_5_code
def yX4_ofEdits : MethodName := ⟨RX4, "ofEdits", "(IIJ)LSearchMill$Node;"⟩
abbrev cX4_ofParts : ByteArray := prog_6_method_6_code
def yX4_ofParts : MethodName := ⟨RX4, "ofParts", "(III)LSearchMill$Node;"⟩
abbrev cX4_isPattern : ByteArray := prog_6_method_7_code
def yX4_isPattern : MethodName := ⟨RX4, "isPattern", "(LSearchMill$Text;)Z"⟩
abbrev cX4_patternOf : ByteArray := prog_6_method_8_code
def yX4_patternOf : MethodName := ⟨RX4, "patternOf", "(I)I"⟩
abbrev cX4_isLeaf : ByteArray := prog_6_method_9_code
def yX4_isLeaf : MethodName := ⟨RX4, "isLeaf", "()Z"⟩
abbrev cX4_isCounted : ByteArray := prog_6_method_10_code
def yX4_isCounted : MethodName := ⟨RX4, "isCounted", "()Z"⟩
abbrev cX4_tokenCount : ByteArray := prog_6_method_11_code
def yX4_tokenCount : MethodName := ⟨RX4, "tokenCount", "()I"⟩
abbrev cX4_tokenAt : ByteArray := prog_6_method_12_code
def yX4_tokenAt : MethodName := ⟨RX4, "tokenAt", "(I)J"⟩
abbrev cX4_countedPlaces : ByteArray := prog_6_method_13_code
def yX4_countedPlaces : MethodName := ⟨RX4, "countedPlaces", "([I)I"⟩
abbrev cX4_isCountedAt : ByteArray := prog_6_method_14_code
def yX4_isCountedAt : MethodName := ⟨RX4, "isCountedAt", "([II)Z"⟩
abbrev cX4_hasNeighbour : ByteArray := prog_6_method_15_code
def yX4_hasNeighbour : MethodName := ⟨RX4, "hasNeighbour", "(II)Z"⟩
abbrev cX4_placeFrom : ByteArray := prog_6_method_16_code
def yX4_placeFrom : MethodName := ⟨RX4, "placeFrom", "(II)I"⟩
abbrev cX4_isTold : ByteArray := prog_6_method_17_code
def yX4_isTold : MethodName := ⟨RX4, "isTold", "(J)Z"⟩
abbrev cX4_isLikePattern : ByteArray := prog_6_method_18_code
def yX4_isLikePattern : MethodName := ⟨RX4, "isLikePattern", "(JI)Z"⟩
abbrev cX4_withEmpty : ByteArray := prog_6_method_19_code
def yX4_withEmpty : MethodName := ⟨RX4, "withEmpty", "(I)I"⟩
abbrev cX4_isEdited : ByteArray := prog_6_method_20_code
def yX4_isEdited : MethodName := ⟨RX4, "isEdited", "(JI)Z"⟩
def RX5 : String := "SearchMill$Postings"
def TX5 : u_T := fun k => match k with
  | 0 => ("SearchMill$Postings", "word", "J", true)
  | 1 => ("SearchMill$Postings", "bytes", "[B", false)
  | 2 => ("SearchMill$Postings", "bitCount", "I", false)
  | 3 => ("SearchMill$Postings", "documentCount", "I", false)
  | 4 => ("SearchMill$Postings", "lastDocument", "I", false)
  | 5 => ("SearchMill$Postings", "waiting", "[I", true)
  | 6 => ("SearchMill$Postings", "waitingCount", "I", false)
  | 7 => ("SearchMill$Postings", "readBit", "I", false)
  | 8 => ("SearchMill$Postings", "readNumbers", "I", false)
  | _ => ("SearchMill$Postings", "readWidth", "I", false)
def tyX5 : Nat → FieldType := fun k => match k with
  | 0 => .long
  | 1 => .array .byte
  | 2 => .int
  | 3 => .int
  | 4 => .int
  | 5 => .array .int
  | 6 => .int
  | 7 => .int
  | 8 => .int
  | _ => .int
abbrev wsX50 : List Cond := u_ws RX5 TX5 10
theorem nmX5 : ∀ a, a < 10 → ∀ b, b < 10 → a ≠ b → (TX5 a).2.1 ≠ (TX5 b).2.1 := by decide +kernel
theorem tyX5_ok : ∀ k, k < 10 → parseFieldDescriptor (TX5 k).2.2.1 = some (tyX5 k) := by decide +kernel
abbrev cX5_init : ByteArray := prog_7_method_1_code
def yX5_init : MethodName := ⟨RX5, "<init>", "(J)V"⟩
abbrev cX5_putDocument : ByteArray := prog_7_method_3_code
def yX5_putDocument : MethodName := ⟨RX5, "putDocument", "(II)V"⟩
abbrev cX5_putNumber : ByteArray := prog_7_method_4_code
def yX5_putNumber : MethodName := ⟨RX5, "putNumber", "(I)V"⟩
abbrev cX5_close : ByteArray := prog_7_method_5_code
def yX5_close : MethodName := ⟨RX5, "close", "()V"⟩
abbrev cX5_putBits : ByteArray := prog_7_method_6_code
def yX5_putBits : MethodName := ⟨RX5, "putBits", "(II)V"⟩
abbrev cX5_spread : ByteArray := prog_7_method_7_code
def yX5_spread : MethodName := ⟨RX5, "spread", "([I)V"⟩
abbrev cX5_nextNumber : ByteArray := prog_7_method_8_code
def yX5_nextNumber : MethodName := ⟨RX5, "nextNumber", "()I"⟩
abbrev cX5_nextBits : ByteArray := prog_7_method_9_code
def yX5_nextBits : MethodName := ⟨RX5, "nextBits", "(I)I"⟩
def RX6 : String := "SearchMill$Query"
def TX6 : u_T := fun k => match k with
  | 0 => ("SearchMill$Query", "nodes", "Ljava/util/ArrayList;", true)
  | 1 => ("SearchMill$Query", "leaves", "Ljava/util/ArrayList;", true)
  | 2 => ("SearchMill$Query", "starts", "[I", true)
  | 3 => ("SearchMill$Query", "partCount", "I", false)
  | _ => ("SearchMill$Query", "values", "[I", true)
def tyX6 : Nat → FieldType := fun k => match k with
  | 0 => .object "java/util/ArrayList"
  | 1 => .object "java/util/ArrayList"
  | 2 => .array .int
  | 3 => .int
  | _ => .array .int
abbrev wsX60 : List Cond := u_ws RX6 TX6 5
theorem nmX6 : ∀ a, a < 5 → ∀ b, b < 5 → a ≠ b → (TX6 a).2.1 ≠ (TX6 b).2.1 := by decide +kernel
theorem tyX6_ok : ∀ k, k < 5 → parseFieldDescriptor (TX6 k).2.2.1 = some (tyX6 k) := by decide +kernel
abbrev cX6_init : ByteArray := prog_8_method_1_code
def yX6_init : MethodName := ⟨RX6, "<init>", "()V"⟩
abbrev cX6_putLeaf : ByteArray := prog_8_method_2_code
def yX6_putLeaf : MethodName := ⟨RX6, "putLeaf", "(LSearchMill$Node;)I"⟩
abbrev cX6_putGroup : ByteArray := prog_8_method_3_code
def yX6_putGroup : MethodName := ⟨RX6, "putGroup", "(LSearchMill$Node;)I"⟩
abbrev cX6_setLastAside : ByteArray := prog_8_method_4_code
def yX6_setLastAside : MethodName := ⟨RX6, "setLastAside", "()V"⟩
abbrev cX6_valueOf : ByteArray := prog_8_method_5_code
def yX6_valueOf : MethodName := ⟨RX6, "valueOf", "([I)I"⟩
abbrev cX6_joined : ByteArray := prog_8_method_6_code
def yX6_joined : MethodName := ⟨RX6, "joined", "(LSearchMill$Node;I)I"⟩
def RX7 : String := "SearchMill$Reader"
def TX7 : u_T := fun k => match k with
  | 0 => ("SearchMill$Reader", "weights", "[I", true)
  | 1 => ("SearchMill$Reader", "marks", "[[I", true)
  | 2 => ("SearchMill$Reader", "firsts", "[[I", true)
  | 3 => ("SearchMill$Reader", "rows", "[[I", true)
  | 4 => ("SearchMill$Reader", "places", "[I", true)
  | 5 => ("SearchMill$Reader", "rarities", "[I", true)
  | _ => ("SearchMill$Reader", "gives", "[I", true)
def tyX7 : Nat → FieldType := fun k => match k with
  | 0 => .array .int
  | 1 => .array (.array .int)
  | 2 => .array (.array .int)
  | 3 => .array (.array .int)
  | 4 => .array .int
  | 5 => .array .int
  | _ => .array .int
abbrev wsX70 : List Cond := u_ws RX7 TX7 7
theorem nmX7 : ∀ a, a < 7 → ∀ b, b < 7 → a ≠ b → (TX7 a).2.1 ≠ (TX7 b).2.1 := by decide +kernel
theorem tyX7_ok : ∀ k, k < 7 → parseFieldDescriptor (TX7 k).2.2.1 = some (tyX7 k) := by decide +kernel
abbrev cX7_init : ByteArray := prog_9_method_1_code
def yX7_init : MethodName := ⟨RX7, "<init>", "()V"⟩
abbrev cX7_readRarities : ByteArray := prog_9_method_2_code
def yX7_readRarities : MethodName := ⟨RX7, "readRarities", "(LSearchMill$Query;LSearchMill$View;)V"⟩
abbrev cX7_readCount : ByteArray := prog_9_method_3_code
def yX7_readCount : MethodName := ⟨RX7, "readCount", "(LSearchMill$View;IJ)I"⟩
abbrev cX7_readSegment : ByteArray := prog_9_method_4_code
def yX7_readSegment : MethodName := ⟨RX7, "readSegment", "(LSearchMill$Query;LSearchMill$Segment;)V"⟩
abbrev cX7_readCounted : ByteArray := prog_9_method_5_code
def yX7_readCounted : MethodName := ⟨RX7, "readCounted", "(LSearchMill$Node;LSearchMill$Segment;[I[I)V"⟩
abbrev cX7_readTold : ByteArray := prog_9_method_6_code
def yX7_readTold : MethodName := ⟨RX7, "readTold", "(LSearchMill$Node;LSearchMill$Segment;[I)V"⟩
abbrev cX7_matched : ByteArray := prog_9_method_7_code
def yX7_matched : MethodName := ⟨RX7, "matched", "(LSearchMill$View;LSearchMill$Query;)Ljava/util/ArrayList;"⟩
abbrev cX7_scanRarities : ByteArray := prog_9_method_8_code
def yX7_scanRarities : MethodName := ⟨RX7, "scanRarities", "(LSearchMill$Query;LSearchMill$View;)V"⟩
abbrev cX7_scanCount : ByteArray := prog_9_method_9_code
def yX7_scanCount : MethodName := ⟨RX7, "scanCount", "(LSearchMill$View;IJ)I"⟩
abbrev cX7_scanDocument : ByteArray := prog_9_method_10_code
def yX7_scanDocument : MethodName := ⟨RX7, "scanDocument", "(LSearchMill$Query;LSearchMill$Document;)V"⟩
abbrev cX7_scanCounted : ByteArray := prog_9_method_11_code
def yX7_scanCounted : MethodName := ⟨RX7, "scanCounted", "(LSearchMill$Node;LSearchMill$Text;)I"⟩
abbrev cX7_scanTold : ByteArray := prog_9_method_12_code
def yX7_scanTold : MethodName := ⟨RX7, "scanTold", "(LSearchMill$Node;LSearchMill$Text;)I"⟩
abbrev cX7_scannedCount : ByteArray := prog_9_method_13_code
def yX7_scannedCount : MethodName := ⟨RX7, "scannedCount", "(LSearchMill$View;LSearchMill$Query;)I"⟩
abbrev cX7_markAt : ByteArray := prog_9_method_14_code
def yX7_markAt : MethodName := ⟨RX7, "markAt", "(II)I"⟩
abbrev cX7_valueAt : ByteArray := prog_9_method_15_code
def yX7_valueAt : MethodName := ⟨RX7, "valueAt", "(LSearchMill$Query;I)I"⟩
abbrev cX7_boundOf : ByteArray := prog_9_method_16_code
def yX7_boundOf : MethodName := ⟨RX7, "boundOf", "(LSearchMill$Query;II)I"⟩
abbrev cX7_giveOf : ByteArray := prog_9_method_17_code
def yX7_giveOf : MethodName := ⟨RX7, "giveOf", "(LSearchMill$Node;II)I"⟩
abbrev cX7_rarityOf : ByteArray := prog_9_method_18_code
def yX7_rarityOf : MethodName := ⟨RX7, "rarityOf", "(II)I"⟩
def RX8 : String := "SearchMill$Segment"
def TX8 : u_T := fun k => match k with
  | 0 => ("SearchMill$Segment", "number", "I", true)
  | 1 => ("SearchMill$Segment", "documents", "Ljava/util/ArrayList;", true)
  | 2 => ("SearchMill$Segment", "firstWords", "Ljava/util/ArrayList;", true)
  | _ => ("SearchMill$Segment", "secondWords", "Ljava/util/ArrayList;", true)
def tyX8 : Nat → FieldType := fun k => match k with
  | 0 => .int
  | 1 => .object "java/util/ArrayList"
  | 2 => .object "java/util/ArrayList"
  | _ => .object "java/util/ArrayList"
abbrev wsX80 : List Cond := u_ws RX8 TX8 4
theorem nmX8 : ∀ a, a < 4 → ∀ b, b < 4 → a ≠ b → (TX8 a).2.1 ≠ (TX8 b).2.1 := by decide +kernel
theorem tyX8_ok : ∀ k, k < 4 → parseFieldDescriptor (TX8 k).2.2.1 = some (tyX8 k) := by decide +kernel
abbrev cX8_init : ByteArray := prog_10_method_1_code
def yX8_init : MethodName := ⟨RX8, "<init>", "(I)V"⟩
abbrev cX8_size : ByteArray := prog_10_method_2_code
def yX8_size : MethodName := ⟨RX8, "size", "()I"⟩
abbrev cX8_wordsOf : ByteArray := prog_10_method_3_code
def yX8_wordsOf : MethodName := ⟨RX8, "wordsOf", "(I)Ljava/util/ArrayList;"⟩
abbrev cX8_tier : ByteArray := prog_10_method_4_code
def yX8_tier : MethodName := ⟨RX8, "tier", "()I"⟩
abbrev cX8_readTexts : ByteArray := prog_10_method_5_code
def yX8_readTexts : MethodName := ⟨RX8, "readTexts", "(I)V"⟩
abbrev cX8_postingsOf : ByteArray := prog_10_method_6_code
def yX8_postingsOf : MethodName := ⟨RX8, "postingsOf", "(IJ)LSearchMill$Postings;"⟩
abbrev cX8_ownPostings : ByteArray := prog_10_method_7_code
def yX8_ownPostings : MethodName := ⟨RX8, "ownPostings", "(Ljava/util/ArrayList;J)LSearchMill$Postings;"⟩
abbrev cX8_placeOf : ByteArray := prog_10_method_8_code
def yX8_placeOf : MethodName := ⟨RX8, "placeOf", "(Ljava/util/ArrayList;J)I"⟩
def RX9 : String := "SearchMill$Text"
def TX9 : u_T := fun k => match k with
  | 0 => ("SearchMill$Text", "signs", "[I", true)
  | 1 => ("SearchMill$Text", "signCount", "I", false)
  | 2 => ("SearchMill$Text", "codes", "[J", false)
  | 3 => ("SearchMill$Text", "places", "[I", false)
  | _ => ("SearchMill$Text", "count", "I", false)
def tyX9 : Nat → FieldType := fun k => match k with
  | 0 => .array .int
  | 1 => .int
  | 2 => .array .long
  | 3 => .array .int
  | _ => .int
abbrev wsX90 : List Cond := u_ws RX9 TX9 5
theorem nmX9 : ∀ a, a < 5 → ∀ b, b < 5 → a ≠ b → (TX9 a).2.1 ≠ (TX9 b).2.1 := by decide +kernel
theorem tyX9_ok : ∀ k, k < 5 → parseFieldDescriptor (TX9 k).2.2.1 = some (tyX9 k) := by decide +kernel
abbrev cX9_init : ByteArray := prog_11_method_1_code
def yX9_init : MethodName := ⟨RX9, "<init>", "()V"⟩
abbrev cX9_putSign : ByteArray := prog_11_method_2_code
def yX9_putSign : MethodName := ⟨RX9, "putSign", "(C)I"⟩
abbrev cX9_signOf : ByteArray := prog_11_method_3_code
def yX9_signOf : MethodName := ⟨RX9, "signOf", "(I)I"⟩
abbrev cX9_putToken : ByteArray := prog_11_method_4_code
def yX9_putToken : MethodName := ⟨RX9, "putToken", "(JI)V"⟩
abbrev cX9_codeAt : ByteArray := prog_11_method_5_code
def yX9_codeAt : MethodName := ⟨RX9, "codeAt", "(I)J"⟩
abbrev cX9_placeAt : ByteArray := prog_11_method_6_code
def yX9_placeAt : MethodName := ⟨RX9, "placeAt", "(I)I"⟩
abbrev cX9_placesOf : ByteArray := prog_11_method_7_code
def yX9_placesOf : MethodName := ⟨RX9, "placesOf", "(J)I"⟩
abbrev cX9_isFirst : ByteArray := prog_11_method_8_code
def yX9_isFirst : MethodName := ⟨RX9, "isFirst", "(I)Z"⟩
abbrev cX9_digitOf : ByteArray := prog_11_method_9_code
def yX9_digitOf : MethodName := ⟨RX9, "digitOf", "(I)I"⟩
abbrev cX9_digitAt : ByteArray := prog_11_method_10_code
def yX9_digitAt : MethodName := ⟨RX9, "digitAt", "(JI)I"⟩
abbrev cX9_withDigit : ByteArray := prog_11_method_12_code
def yX9_withDigit : MethodName := ⟨RX9, "withDigit", "(JII)J"⟩
abbrev cX9_lengthOf : ByteArray := prog_11_method_13_code
def yX9_lengthOf : MethodName := ⟨RX9, "lengthOf", "(J)I"⟩
abbrev cX9_stemOf : ByteArray := prog_11_method_15_code
def yX9_stemOf : MethodName := ⟨RX9, "stemOf", "(J)J"⟩
abbrev cX9_isEnding : ByteArray := prog_11_method_16_code
def yX9_isEnding : MethodName := ⟨RX9, "isEnding", "(JICCC)Z"⟩
abbrev cX9_cutTo : ByteArray := prog_11_method_17_code
def yX9_cutTo : MethodName := ⟨RX9, "cutTo", "(JI)J"⟩
def RX10 : String := "SearchMill$View"
def TX10 : u_T := fun k => match k with
  | 0 => ("SearchMill$View", "number", "I", false)
  | _ => ("SearchMill$View", "holdings", "Ljava/util/ArrayList;", true)
def tyX10 : Nat → FieldType := fun k => match k with
  | 0 => .int
  | _ => .object "java/util/ArrayList"
abbrev wsX100 : List Cond := u_ws RX10 TX10 2
theorem nmX10 : ∀ a, a < 2 → ∀ b, b < 2 → a ≠ b → (TX10 a).2.1 ≠ (TX10 b).2.1 := by decide +kernel
theorem tyX10_ok : ∀ k, k < 2 → parseFieldDescriptor (TX10 k).2.2.1 = some (tyX10 k) := by decide +kernel
abbrev cX10_init : ByteArray := prog_12_method_1_code
def yX10_init : MethodName := ⟨RX10, "<init>", "(I)V"⟩
abbrev cX10_size : ByteArray := prog_12_method_2_code
def yX10_size : MethodName := ⟨RX10, "size", "()I"⟩
abbrev cX10_at : ByteArray := prog_12_method_3_code
def yX10_at : MethodName := ⟨RX10, "at", "(I)LSearchMill$Holding;"⟩
abbrev cX10_put : ByteArray := prog_12_method_4_code
def yX10_put : MethodName := ⟨RX10, "put", "(ILSearchMill$Holding;)V"⟩
abbrev cX10_takeOut : ByteArray := prog_12_method_5_code
def yX10_takeOut : MethodName := ⟨RX10, "takeOut", "(LSearchMill$View;Ljava/util/ArrayList;Ljava/util/ArrayList;)I"⟩
abbrev cX10_copyOf : ByteArray := prog_12_method_6_code
def yX10_copyOf : MethodName := ⟨RX10, "copyOf", "(II)LSearchMill$View;"⟩
abbrev cX10_placeOf : ByteArray := prog_12_method_7_code
def yX10_placeOf : MethodName := ⟨RX10, "placeOf", "(LSearchMill$Segment;)I"⟩
abbrev cX10_holdingOf : ByteArray := prog_12_method_8_code
def yX10_holdingOf : MethodName := ⟨RX10, "holdingOf", "(LSearchMill$Segment;)LSearchMill$Holding;"⟩
abbrev cX10_liveCount : ByteArray := prog_12_method_9_code
def yX10_liveCount : MethodName := ⟨RX10, "liveCount", "()I"⟩
abbrev cX10_liveDocument : ByteArray := prog_12_method_10_code
def yX10_liveDocument : MethodName := ⟨RX10, "liveDocument", "(I)LSearchMill$Document;"⟩
abbrev cX10_kill : ByteArray := prog_12_method_11_code
def yX10_kill : MethodName := ⟨RX10, "kill", "(I)Z"⟩
abbrev cX10_duePlace : ByteArray := prog_12_method_12_code
def yX10_duePlace : MethodName := ⟨RX10, "duePlace", "()I"⟩
abbrev cX10_changedSince : ByteArray := prog_12_method_13_code
def yX10_changedSince : MethodName := ⟨RX10, "changedSince", "(LSearchMill$View;)I"⟩
abbrev cX10_newFiles : ByteArray := prog_12_method_14_code
def yX10_newFiles : MethodName := ⟨RX10, "newFiles", "([Z)I"⟩
abbrev cX10_deletionFiles : ByteArray := prog_12_method_15_code
def yX10_deletionFiles : MethodName := ⟨RX10, "deletionFiles", "(LSearchMill$View;)I"⟩
def RX11 : String := "SearchMill"
def TX11 : u_T := fun k => match k with
  | 0 => ("SearchMill", "language", "LSearchMill$Language;", true)
  | 1 => ("SearchMill", "draft", "LSearchMill$Document;", false)
  | 2 => ("SearchMill", "buffer", "Ljava/util/ArrayList;", true)
  | 3 => ("SearchMill", "index", "LSearchMill$View;", false)
  | 4 => ("SearchMill", "sources", "LSearchMill$View;", false)
  | 5 => ("SearchMill", "copied", "I", false)
  | 6 => ("SearchMill", "commit", "LSearchMill$View;", false)
  | 7 => ("SearchMill", "prepared", "LSearchMill$View;", false)
  | 8 => ("SearchMill", "snapshots", "Ljava/util/ArrayList;", true)
  | 9 => ("SearchMill", "opened", "I", false)
  | 10 => ("SearchMill", "parts", "LSearchMill$Query;", false)
  | 11 => ("SearchMill", "queries", "Ljava/util/ArrayList;", true)
  | 12 => ("SearchMill", "reader", "LSearchMill$Reader;", true)
  | 13 => ("SearchMill", "finder", "LSearchMill$Finder;", true)
  | 14 => ("SearchMill", "made", "I", false)
  | 15 => ("SearchMill", "finished", "I", false)
  | 16 => ("SearchMill", "written", "I", false)
  | 17 => ("SearchMill", "crashIn", "I", false)
  | _ => ("SearchMill", "isOff", "Z", false)
def tyX11 : Nat → FieldType := fun k => match k with
  | 0 => .object "SearchMill$Language"
  | 1 => .object "SearchMill$Document"
  | 2 => .object "java/util/ArrayList"
  | 3 => .object "SearchMill$View"
  | 4 => .object "SearchMill$View"
  | 5 => .int
  | 6 => .object "SearchMill$View"
  | 7 => .object "SearchMill$View"
  | 8 => .object "java/util/ArrayList"
  | 9 => .int
  | 10 => .object "SearchMill$Query"
  | 11 => .object "java/util/ArrayList"
  | 12 => .object "SearchMill$Reader"
  | 13 => .object "SearchMill$Finder"
  | 14 => .int
  | 15 => .int
  | 16 => .int
  | 17 => .int
  | _ => .boolean
abbrev wsX110 : List Cond := u_ws RX11 TX11 19
theorem nmX11 : ∀ a, a < 19 → ∀ b, b < 19 → a ≠ b → (TX11 a).2.1 ≠ (TX11 b).2.1 := by decide +kernel
theorem tyX11_ok : ∀ k, k < 19 → parseFieldDescriptor (TX11 k).2.2.1 = some (tyX11 k) := by decide +kernel
abbrev cX11_init : ByteArray := prog_1_method_1_code
def yX11_init : MethodName := ⟨RX11, "<init>", "()V"⟩
abbrev cX11_type : ByteArray := prog_1_method_2_code
def yX11_type : MethodName := ⟨RX11, "type", "(C)I"⟩
abbrev cX11_stop : ByteArray := prog_1_method_4_code
def yX11_stop : MethodName := ⟨RX11, "stop", "()I"⟩
abbrev cX11_synonym : ByteArray := prog_1_method_5_code
def yX11_synonym : MethodName := ⟨RX11, "synonym", "()I"⟩
abbrev cX11_text : ByteArray := prog_1_method_6_code
def yX11_text : MethodName := ⟨RX11, "text", "(I)I"⟩
abbrev cX11_columns : ByteArray := prog_1_method_7_code
def yX11_columns : MethodName := ⟨RX11, "columns", "(II)V"⟩
abbrev cX11_add : ByteArray := prog_1_method_8_code
def yX11_add : MethodName := ⟨RX11, "add", "(I)I"⟩
abbrev cX11_delete : ByteArray := prog_1_method_9_code
def yX11_delete : MethodName := ⟨RX11, "delete", "(I)Z"⟩
abbrev cX11_flush : ByteArray := prog_1_method_10_code
def yX11_flush : MethodName := ⟨RX11, "flush", "()I"⟩
abbrev cX11_due : ByteArray := prog_1_method_11_code
def yX11_due : MethodName := ⟨RX11, "due", "()I"⟩
abbrev cX11_merge : ByteArray := prog_1_method_12_code
def yX11_merge : MethodName := ⟨RX11, "merge", "()I"⟩
abbrev cX11_step : ByteArray := prog_1_method_13_code
def yX11_step : MethodName := ⟨RX11, "step", "()I"⟩
abbrev cX11_giveUp : ByteArray := prog_1_method_14_code
def yX11_giveUp : MethodName := ⟨RX11, "giveUp", "()I"⟩
abbrev cX11_prepare : ByteArray := prog_1_method_15_code
def yX11_prepare : MethodName := ⟨RX11, "prepare", "()I"⟩
abbrev cX11_finish : ByteArray := prog_1_method_16_code
def yX11_finish : MethodName := ⟨RX11, "finish", "()I"⟩
abbrev cX11_drop : ByteArray := prog_1_method_17_code
def yX11_drop : MethodName := ⟨RX11, "drop", "()V"⟩
abbrev cX11_crashAt : ByteArray := prog_1_method_18_code
def yX11_crashAt : MethodName := ⟨RX11, "crashAt", "(I)V"⟩
abbrev cX11_open : ByteArray := prog_1_method_19_code
def yX11_open : MethodName := ⟨RX11, "open", "()I"⟩
abbrev cX11_isDown : ByteArray := prog_1_method_20_code
def yX11_isDown : MethodName := ⟨RX11, "isDown", "()Z"⟩
abbrev cX11_files : ByteArray := prog_1_method_21_code
def yX11_files : MethodName := ⟨RX11, "files", "()I"⟩
abbrev cX11_writes : ByteArray := prog_1_method_22_code
def yX11_writes : MethodName := ⟨RX11, "writes", "()I"⟩
abbrev cX11_segments : ByteArray := prog_1_method_23_code
def yX11_segments : MethodName := ⟨RX11, "segments", "()I"⟩
abbrev cX11_segmentAt : ByteArray := prog_1_method_24_code
def yX11_segmentAt : MethodName := ⟨RX11, "segmentAt", "(I)I"⟩
abbrev cX11_live : ByteArray := prog_1_method_25_code
def yX11_live : MethodName := ⟨RX11, "live", "(I)I"⟩
abbrev cX11_keyAt : ByteArray := prog_1_method_26_code
def yX11_keyAt : MethodName := ⟨RX11, "keyAt", "(II)I"⟩
abbrev cX11_look : ByteArray := prog_1_method_33_code
def yX11_look : MethodName := ⟨RX11, "look", "(Z)I"⟩
abbrev cX11_shut : ByteArray := prog_1_method_34_code
def yX11_shut : MethodName := ⟨RX11, "shut", "(I)I"⟩
abbrev cX11_documents : ByteArray := prog_1_method_35_code
def yX11_documents : MethodName := ⟨RX11, "documents", "(I)I"⟩
abbrev cX11_term : ByteArray := prog_1_method_36_code
def yX11_term : MethodName := ⟨RX11, "term", "(I)I"⟩
abbrev cX11_phrase : ByteArray := prog_1_method_37_code
def yX11_phrase : MethodName := ⟨RX11, "phrase", "(II)I"⟩
abbrev cX11_near : ByteArray := prog_1_method_38_code
def yX11_near : MethodName := ⟨RX11, "near", "(IIZ)I"⟩
abbrev cX11_prefix : ByteArray := prog_1_method_39_code
def yX11_prefix : MethodName := ⟨RX11, "prefix", "(I)I"⟩
abbrev cX11_wild : ByteArray := prog_1_method_40_code
def yX11_wild : MethodName := ⟨RX11, "wild", "(I)I"⟩
abbrev cX11_fuzzy : ByteArray := prog_1_method_41_code
def yX11_fuzzy : MethodName := ⟨RX11, "fuzzy", "(II)I"⟩
abbrev cX11_least : ByteArray := prog_1_method_42_code
def yX11_least : MethodName := ⟨RX11, "least", "(II)I"⟩
abbrev cX11_but : ByteArray := prog_1_method_43_code
def yX11_but : MethodName := ⟨RX11, "but", "()I"⟩
abbrev cX11_query : ByteArray := prog_1_method_44_code
def yX11_query : MethodName := ⟨RX11, "query", "()I"⟩
abbrev cX11_find : ByteArray := prog_1_method_47_code
def yX11_find : MethodName := ⟨RX11, "find", "(III)I"⟩
abbrev cX11_hitAt : ByteArray := prog_1_method_48_code
def yX11_hitAt : MethodName := ⟨RX11, "hitAt", "(I)I"⟩
abbrev cX11_rankAt : ByteArray := prog_1_method_49_code
def yX11_rankAt : MethodName := ⟨RX11, "rankAt", "(I)I"⟩
abbrev cX11_skipped : ByteArray := prog_1_method_50_code
def yX11_skipped : MethodName := ⟨RX11, "skipped", "()I"⟩
abbrev cX11_cached : ByteArray := prog_1_method_51_code
def yX11_cached : MethodName := ⟨RX11, "cached", "()I"⟩
abbrev cX11_rankByScan : ByteArray := prog_1_method_52_code
def yX11_rankByScan : MethodName := ⟨RX11, "rankByScan", "(III)I"⟩
abbrev cX11_matches : ByteArray := prog_1_method_53_code
def yX11_matches : MethodName := ⟨RX11, "matches", "(II)I"⟩
abbrev cX11_matchesByScan : ByteArray := prog_1_method_54_code
def yX11_matchesByScan : MethodName := ⟨RX11, "matchesByScan", "(II)I"⟩
abbrev cX11_facet : ByteArray := prog_1_method_55_code
def yX11_facet : MethodName := ⟨RX11, "facet", "(III)I"⟩
abbrev cX11_sortedAt : ByteArray := prog_1_method_56_code
def yX11_sortedAt : MethodName := ⟨RX11, "sortedAt", "(IIZI)I"⟩
abbrev cX11_passages : ByteArray := prog_1_method_57_code
def yX11_passages : MethodName := ⟨RX11, "passages", "(IIII)I"⟩
abbrev cX11_checkField : ByteArray := prog_1_method_59_code
def yX11_checkField : MethodName := ⟨RX11, "checkField", "(I)V"⟩
abbrev cX11_checkKey : ByteArray := prog_1_method_60_code
def yX11_checkKey : MethodName := ⟨RX11, "checkKey", "(I)V"⟩
abbrev cX11_checkUp : ByteArray := prog_1_method_61_code
def yX11_checkUp : MethodName := ⟨RX11, "checkUp", "()V"⟩
abbrev cX11_checkLeaf : ByteArray := prog_1_method_62_code
def yX11_checkLeaf : MethodName := ⟨RX11, "checkLeaf", "(Z)V"⟩
abbrev cX11_checkParts : ByteArray := prog_1_method_63_code
def yX11_checkParts : MethodName := ⟨RX11, "checkParts", "(I)V"⟩
abbrev cX11_checkHit : ByteArray := prog_1_method_64_code
def yX11_checkHit : MethodName := ⟨RX11, "checkHit", "(I)V"⟩
abbrev cX11_holdingAt : ByteArray := prog_1_method_65_code
def yX11_holdingAt : MethodName := ⟨RX11, "holdingAt", "(I)LSearchMill$Holding;"⟩
abbrev cX11_snapshotOf : ByteArray := prog_1_method_68_code
def yX11_snapshotOf : MethodName := ⟨RX11, "snapshotOf", "(I)LSearchMill$View;"⟩
abbrev cX11_queryOf : ByteArray := prog_1_method_69_code
def yX11_queryOf : MethodName := ⟨RX11, "queryOf", "(I)LSearchMill$Query;"⟩
abbrev cX11_bufferPlaceOf : ByteArray := prog_1_method_70_code
def yX11_bufferPlaceOf : MethodName := ⟨RX11, "bufferPlaceOf", "(I)I"⟩
abbrev cX11_dropKey : ByteArray := prog_1_method_71_code
def yX11_dropKey : MethodName := ⟨RX11, "dropKey", "(I)Z"⟩
abbrev cX11_doWrite : ByteArray := prog_1_method_72_code
def yX11_doWrite : MethodName := ⟨RX11, "doWrite", "()Z"⟩
abbrev cX11_goDown : ByteArray := prog_1_method_73_code
def yX11_goDown : MethodName := ⟨RX11, "goDown", "()V"⟩
abbrev cX11_committed : ByteArray := prog_1_method_74_code
def yX11_committed : MethodName := ⟨RX11, "committed", "()LSearchMill$View;"⟩
abbrev cX11_flushBuffer : ByteArray := prog_1_method_75_code
def yX11_flushBuffer : MethodName := ⟨RX11, "flushBuffer", "()I"⟩
abbrev cX11_newSegment : ByteArray := prog_1_method_76_code
def yX11_newSegment : MethodName := ⟨RX11, "newSegment", "(Ljava/util/ArrayList;)LSearchMill$Segment;"⟩
abbrev cX11_endMerge : ByteArray := prog_1_method_77_code
def yX11_endMerge : MethodName := ⟨RX11, "endMerge", "(LSearchMill$View;)V"⟩
abbrev cX11_fileCount : ByteArray := prog_1_method_78_code
def yX11_fileCount : MethodName := ⟨RX11, "fileCount", "()I"⟩
abbrev cX11_sortedPlace : ByteArray := prog_1_method_80_code
def yX11_sortedPlace : MethodName := ⟨RX11, "sortedPlace", "(Ljava/util/ArrayList;IZ)I"⟩
def RX12 : String := "SearchMillModel"
def TX12 : u_T := fun k => match k with
  | _ => ("", "", "", false)
def tyX12 : Nat → FieldType := fun k => match k with
  | _ => .int
abbrev wsX120 : List Cond := u_ws RX12 TX12 0
theorem nmX12 : ∀ a, a < 0 → ∀ b, b < 0 → a ≠ b → (TX12 a).2.1 ≠ (TX12 b).2.1 := by decide +kernel
theorem tyX12_ok : ∀ k, k < 0 → parseFieldDescriptor (TX12 k).2.2.1 = some (tyX12 k) := by decide +kernel
def RJx145de : String := "java/io/Serializable"
def TJx145de : u_T := fun k => match k with
  | _ => ("", "", "", false)
def tyJx145de : Nat → FieldType := fun k => match k with
  | _ => .int
abbrev wsJx145de0 : List Cond := u_ws RJx145de TJx145de 0
theorem nmJx145de : ∀ a, a < 0 → ∀ b, b < 0 → a ≠ b → (TJx145de a).2.1 ≠ (TJx145de b).2.1 := by decide +kernel
theorem tyJx145de_ok : ∀ k, k < 0 → parseFieldDescriptor (TJx145de k).2.2.1 = some (tyJx145de k) := by decide +kernel
def RJ5 : String := "java/lang/AbstractStringBuilder"
def TJ5 : u_T := fun k => match k with
  | _ => ("", "", "", false)
def tyJ5 : Nat → FieldType := fun k => match k with
  | _ => .int
abbrev wsJ50 : List Cond := u_ws RJ5 TJ5 0
theorem nmJ5 : ∀ a, a < 0 → ∀ b, b < 0 → a ≠ b → (TJ5 a).2.1 ≠ (TJ5 b).2.1 := by decide +kernel
theorem tyJ5_ok : ∀ k, k < 0 → parseFieldDescriptor (TJ5 k).2.2.1 = some (tyJ5 k) := by decide +kernel
abbrev cJ5_init_d00df : ByteArray := prog_16_method_2_code
def yJ5_init_d00df : MethodName := ⟨RJ5, "<init>", "(I)V"⟩
abbrev cJ5_length_8abf5 : ByteArray := prog_16_method_6_code
def yJ5_length_8abf5 : MethodName := ⟨RJ5, "length", "()I"⟩
abbrev cJ5_ensureCapacityInternal_d00df : ByteArray := prog_16_method_9_code
def yJ5_ensureCapacityInternal_d00df : MethodName := ⟨RJ5, "ensureCapacityInternal", "(I)V"⟩
abbrev cJ5_newCapacity_0f7a4 : ByteArray := prog_16_method_10_code
def yJ5_newCapacity_0f7a4 : MethodName := ⟨RJ5, "newCapacity", "(I)I"⟩
abbrev cJ5_inflate_da8c8 : ByteArray := prog_16_method_11_code
def yJ5_inflate_da8c8 : MethodName := ⟨RJ5, "inflate", "()V"⟩
abbrev cJ5_append_cf1ce : ByteArray := prog_16_method_22_code
def yJ5_append_cf1ce : MethodName := ⟨RJ5, "append", "(Ljava/lang/String;)Ljava/lang/AbstractStringBuilder;"⟩
abbrev cJ5_appendNull_278bc : ByteArray := prog_16_method_26_code
def yJ5_appendNull_278bc : MethodName := ⟨RJ5, "appendNull", "()Ljava/lang/AbstractStringBuilder;"⟩
abbrev cJ5_append_c97b9 : ByteArray := prog_16_method_32_code
def yJ5_append_c97b9 : MethodName := ⟨RJ5, "append", "(I)Ljava/lang/AbstractStringBuilder;"⟩
abbrev cJ5_getValue_6d5f1 : ByteArray := prog_16_method_64_code
def yJ5_getValue_6d5f1 : MethodName := ⟨RJ5, "getValue", "()[B"⟩
abbrev cJ5_isLatin1_aae02 : ByteArray := prog_16_method_68_code
def yJ5_isLatin1_aae02 : MethodName := ⟨RJ5, "isLatin1", "()Z"⟩
abbrev cJ5_inflateIfNeededFor_a7421 : ByteArray := prog_16_method_71_code
def yJ5_inflateIfNeededFor_a7421 : MethodName := ⟨RJ5, "inflateIfNeededFor", "(Ljava/lang/String;)V"⟩
abbrev cJ5_putStringAt_47b60 : ByteArray := prog_16_method_73_code
def yJ5_putStringAt_47b60 : MethodName := ⟨RJ5, "putStringAt", "(ILjava/lang/String;)V"⟩
def RJx2cfe8 : String := "java/lang/Appendable"
def TJx2cfe8 : u_T := fun k => match k with
  | _ => ("", "", "", false)
def tyJx2cfe8 : Nat → FieldType := fun k => match k with
  | _ => .int
abbrev wsJx2cfe80 : List Cond := u_ws RJx2cfe8 TJx2cfe8 0
theorem nmJx2cfe8 : ∀ a, a < 0 → ∀ b, b < 0 → a ≠ b → (TJx2cfe8 a).2.1 ≠ (TJx2cfe8 b).2.1 := by decide +kernel
theorem tyJx2cfe8_ok : ∀ k, k < 0 → parseFieldDescriptor (TJx2cfe8 k).2.2.1 = some (tyJx2cfe8 k) := by decide +kernel
def RJx9f9b0 : String := "java/lang/CharSequence"
def TJx9f9b0 : u_T := fun k => match k with
  | _ => ("", "", "", false)
def tyJx9f9b0 : Nat → FieldType := fun k => match k with
  | _ => .int
abbrev wsJx9f9b00 : List Cond := u_ws RJx9f9b0 TJx9f9b0 0
theorem nmJx9f9b0 : ∀ a, a < 0 → ∀ b, b < 0 → a ≠ b → (TJx9f9b0 a).2.1 ≠ (TJx9f9b0 b).2.1 := by decide +kernel
theorem tyJx9f9b0_ok : ∀ k, k < 0 → parseFieldDescriptor (TJx9f9b0 k).2.2.1 = some (tyJx9f9b0 k) := by decide +kernel
def RJx8e188 : String := "java/lang/Cloneable"
def TJx8e188 : u_T := fun k => match k with
  | _ => ("", "", "", false)
def tyJx8e188 : Nat → FieldType := fun k => match k with
  | _ => .int
abbrev wsJx8e1880 : List Cond := u_ws RJx8e188 TJx8e188 0
theorem nmJx8e188 : ∀ a, a < 0 → ∀ b, b < 0 → a ≠ b → (TJx8e188 a).2.1 ≠ (TJx8e188 b).2.1 := by decide +kernel
theorem tyJx8e188_ok : ∀ k, k < 0 → parseFieldDescriptor (TJx8e188 k).2.2.1 = some (tyJx8e188 k) := by decide +kernel
def RJxb160c : String := "java/lang/Comparable"
def TJxb160c : u_T := fun k => match k with
  | _ => ("", "", "", false)
def tyJxb160c : Nat → FieldType := fun k => match k with
  | _ => .int
abbrev wsJxb160c0 : List Cond := u_ws RJxb160c TJxb160c 0
theorem nmJxb160c : ∀ a, a < 0 → ∀ b, b < 0 → a ≠ b → (TJxb160c a).2.1 ≠ (TJxb160c b).2.1 := by decide +kernel
theorem tyJxb160c_ok : ∀ k, k < 0 → parseFieldDescriptor (TJxb160c k).2.2.1 = some (tyJxb160c k) := by decide +kernel
def RJ6 : String := "java/lang/Integer"
def TJ6 : u_T := fun k => match k with
  | _ => ("", "", "", false)
def tyJ6 : Nat → FieldType := fun k => match k with
  | _ => .int
abbrev wsJ60 : List Cond := u_ws RJ6 TJ6 0
theorem nmJ6 : ∀ a, a < 0 → ∀ b, b < 0 → a ≠ b → (TJ6 a).2.1 ≠ (TJ6 b).2.1 := by decide +kernel
theorem tyJ6_ok : ∀ k, k < 0 → parseFieldDescriptor (TJ6 k).2.2.1 = some (tyJ6 k) := by decide +kernel
abbrev cJ6_getChars_ba4f3 : ByteArray := prog_25_method_12_code
def yJ6_getChars_ba4f3 : MethodName := ⟨RJ6, "getChars", "(II[B)I"⟩
abbrev cJ6_stringSize_0f7a4 : ByteArray := prog_25_method_13_code
def yJ6_stringSize_0f7a4 : MethodName := ⟨RJ6, "stringSize", "(I)I"⟩
abbrev cJ6_bitCount_0f7a4 : ByteArray := prog_25_method_49_code
def yJ6_bitCount_0f7a4 : MethodName := ⟨RJ6, "bitCount", "(I)I"⟩
def RJxab1ab : String := "java/lang/Iterable"
def TJxab1ab : u_T := fun k => match k with
  | _ => ("", "", "", false)
def tyJxab1ab : Nat → FieldType := fun k => match k with
  | _ => .int
abbrev wsJxab1ab0 : List Cond := u_ws RJxab1ab TJxab1ab 0
theorem nmJxab1ab : ∀ a, a < 0 → ∀ b, b < 0 → a ≠ b → (TJxab1ab a).2.1 ≠ (TJxab1ab b).2.1 := by decide +kernel
theorem tyJxab1ab_ok : ∀ k, k < 0 → parseFieldDescriptor (TJxab1ab k).2.2.1 = some (tyJxab1ab k) := by decide +kernel
def RJ9 : String := "java/lang/Math"
def TJ9 : u_T := fun k => match k with
  | _ => ("", "", "", false)
def tyJ9 : Nat → FieldType := fun k => match k with
  | _ => .int
abbrev wsJ90 : List Cond := u_ws RJ9 TJ9 0
theorem nmJ9 : ∀ a, a < 0 → ∀ b, b < 0 → a ≠ b → (TJ9 a).2.1 ≠ (TJ9 b).2.1 := by decide +kernel
theorem tyJ9_ok : ∀ k, k < 0 → parseFieldDescriptor (TJ9 k).2.2.1 = some (tyJ9 k) := by decide +kernel
abbrev cJ9_abs_0f7a4 : ByteArray := prog_27_method_59_code
def yJ9_abs_0f7a4 : MethodName := ⟨RJ9, "abs", "(I)I"⟩
abbrev cJ9_max_7cf53 : ByteArray := prog_27_method_65_code
def yJ9_max_7cf53 : MethodName := ⟨RJ9, "max", "(II)I"⟩
abbrev cJ9_min_7cf53 : ByteArray := prog_27_method_69_code
def yJ9_min_7cf53 : MethodName := ⟨RJ9, "min", "(II)I"⟩
def RJxd2413 : String := "java/lang/Number"
def TJxd2413 : u_T := fun k => match k with
  | _ => ("", "", "", false)
def tyJxd2413 : Nat → FieldType := fun k => match k with
  | _ => .int
abbrev wsJxd24130 : List Cond := u_ws RJxd2413 TJxd2413 0
theorem nmJxd2413 : ∀ a, a < 0 → ∀ b, b < 0 → a ≠ b → (TJxd2413 a).2.1 ≠ (TJxd2413 b).2.1 := by decide +kernel
theorem tyJxd2413_ok : ∀ k, k < 0 → parseFieldDescriptor (TJxd2413 k).2.2.1 = some (tyJxd2413 k) := by decide +kernel
def RJ0 : String := "java/lang/String"
def TJ0 : u_T := fun k => match k with
  | 0 => ("java/lang/String", "value", "[B", true)
  | 1 => ("java/lang/String", "coder", "B", true)
  | 2 => ("java/lang/String", "hash", "I", false)
  | _ => ("java/lang/String", "hashIsZero", "Z", false)
def tyJ0 : Nat → FieldType := fun k => match k with
  | 0 => .array .byte
  | 1 => .byte
  | 2 => .int
  | _ => .boolean
abbrev wsJ00 : List Cond := u_ws RJ0 TJ0 4
theorem nmJ0 : ∀ a, a < 4 → ∀ b, b < 4 → a ≠ b → (TJ0 a).2.1 ≠ (TJ0 b).2.1 := by decide +kernel
theorem tyJ0_ok : ∀ k, k < 4 → parseFieldDescriptor (TJ0 k).2.2.1 = some (tyJ0 k) := by decide +kernel
abbrev cJ0_init_81219 : ByteArray := prog_30_method_53_code
def yJ0_init_81219 : MethodName := ⟨RJ0, "<init>", "(Ljava/lang/StringBuilder;)V"⟩
abbrev cJ0_length_8abf5 : ByteArray := prog_30_method_54_code
def yJ0_length_8abf5 : MethodName := ⟨RJ0, "length", "()I"⟩
abbrev cJ0_getBytes_840e7 : ByteArray := prog_30_method_147_code
def yJ0_getBytes_840e7 : MethodName := ⟨RJ0, "getBytes", "([BIB)V"⟩
abbrev cJ0_init_db425 : ByteArray := prog_30_method_150_code
def yJ0_init_db425 : MethodName := ⟨RJ0, "<init>", "(Ljava/lang/AbstractStringBuilder;Ljava/lang/Void;)V"⟩
abbrev cJ0_coder_7d493 : ByteArray := prog_30_method_152_code
def yJ0_coder_7d493 : MethodName := ⟨RJ0, "coder", "()B"⟩
abbrev cJ0_checkBoundsOffCount_cabcc : ByteArray := prog_30_method_157_code
def yJ0_checkBoundsOffCount_cabcc : MethodName := ⟨RJ0, "checkBoundsOffCount", "(III)I"⟩
abbrev cJ0_checkBoundsBeginEnd_23922 : ByteArray := prog_30_method_158_code
def yJ0_checkBoundsBeginEnd_23922 : MethodName := ⟨RJ0, "checkBoundsBeginEnd", "(III)V"⟩
def RJ4 : String := "java/lang/StringBuilder"
def TJ4 : u_T := fun k => match k with
  | 0 => ("java/lang/AbstractStringBuilder", "value", "[B", false)
  | 1 => ("java/lang/AbstractStringBuilder", "coder", "B", false)
  | 2 => ("java/lang/AbstractStringBuilder", "maybeLatin1", "Z", false)
  | _ => ("java/lang/AbstractStringBuilder", "count", "I", false)
def tyJ4 : Nat → FieldType := fun k => match k with
  | 0 => .array .byte
  | 1 => .byte
  | 2 => .boolean
  | _ => .int
abbrev wsJ40 : List Cond := u_ws RJ4 TJ4 4
theorem nmJ4 : ∀ a, a < 4 → ∀ b, b < 4 → a ≠ b → (TJ4 a).2.1 ≠ (TJ4 b).2.1 := by decide +kernel
theorem tyJ4_ok : ∀ k, k < 4 → parseFieldDescriptor (TJ4 k).2.2.1 = some (tyJ4 k) := by decide +kernel
abbrev cJ4_init_da8c8 : ByteArray := prog_31_method_1_code
def yJ4_init_da8c8 : MethodName := ⟨RJ4, "<init>", "()V"⟩
abbrev cJ4_append_15ec4 : ByteArray := prog_31_method_7_code
def yJ4_append_15ec4 : MethodName := ⟨RJ4, "append", "(Ljava/lang/String;)Ljava/lang/StringBuilder;"⟩
abbrev cJ4_append_bf812 : ByteArray := prog_31_method_15_code
def yJ4_append_bf812 : MethodName := ⟨RJ4, "append", "(I)Ljava/lang/StringBuilder;"⟩
abbrev cJ4_toString_0e30d : ByteArray := prog_31_method_42_code
def yJ4_toString_0e30d : MethodName := ⟨RJ4, "toString", "()Ljava/lang/String;"⟩
abbrev cJ4_length_8abf5 : ByteArray := prog_31_method_93_code
def yJ4_length_8abf5 : MethodName := ⟨RJ4, "length", "()I"⟩
def RJ1 : String := "java/lang/StringLatin1"
def TJ1 : u_T := fun k => match k with
  | _ => ("", "", "", false)
def tyJ1 : Nat → FieldType := fun k => match k with
  | _ => .int
abbrev wsJ10 : List Cond := u_ws RJ1 TJ1 0
theorem nmJ1 : ∀ a, a < 0 → ∀ b, b < 0 → a ≠ b → (TJ1 a).2.1 ≠ (TJ1 b).2.1 := by decide +kernel
theorem tyJ1_ok : ∀ k, k < 0 → parseFieldDescriptor (TJ1 k).2.2.1 = some (tyJ1 k) := by decide +kernel
abbrev cJ1_inflate_0e8fd : ByteArray := prog_32_method_50_code
def yJ1_inflate_0e8fd : MethodName := ⟨RJ1, "inflate", "([BI[BII)V"⟩
def RJ2 : String := "java/lang/StringUTF16"
def TJ2 : u_T := fun k => match k with
  | _ => ("", "", "", false)
def tyJ2 : Nat → FieldType := fun k => match k with
  | _ => .int
abbrev wsJ20 : List Cond := u_ws RJ2 TJ2 0
theorem nmJ2 : ∀ a, a < 0 → ∀ b, b < 0 → a ≠ b → (TJ2 a).2.1 ≠ (TJ2 b).2.1 := by decide +kernel
theorem tyJ2_ok : ∀ k, k < 0 → parseFieldDescriptor (TJ2 k).2.2.1 = some (tyJ2 k) := by decide +kernel
abbrev cJ2_newBytesFor_77867 : ByteArray := prog_33_method_2_code
def yJ2_newBytesFor_77867 : MethodName := ⟨RJ2, "newBytesFor", "(I)[B"⟩
abbrev cJ2_newBytesLength_0f7a4 : ByteArray := prog_33_method_3_code
def yJ2_newBytesLength_0f7a4 : MethodName := ⟨RJ2, "newBytesLength", "(I)I"⟩
abbrev cJ2_putChar_b72d1 : ByteArray := prog_33_method_4_code
def yJ2_putChar_b72d1 : MethodName := ⟨RJ2, "putChar", "([BII)V"⟩
abbrev cJ2_getChar_3b067 : ByteArray := prog_33_method_5_code
def yJ2_getChar_3b067 : MethodName := ⟨RJ2, "getChar", "([BI)C"⟩
abbrev cJ2_length_9d52b : ByteArray := prog_33_method_6_code
def yJ2_length_9d52b : MethodName := ⟨RJ2, "length", "([B)I"⟩
abbrev cJ2_coderFromArrayLen_85cad : ByteArray := prog_33_method_15_code
def yJ2_coderFromArrayLen_85cad : MethodName := ⟨RJ2, "coderFromArrayLen", "([BI)B"⟩
abbrev cJ2_compress_39247 : ByteArray := prog_33_method_17_code
def yJ2_compress_39247 : MethodName := ⟨RJ2, "compress", "([BII)[B"⟩
abbrev cJ2_compress_5af95 : ByteArray := prog_33_method_22_code
def yJ2_compress_5af95 : MethodName := ⟨RJ2, "compress", "([BI[BII)I"⟩
abbrev cJ2_getChars_46870 : ByteArray := prog_33_method_77_code
def yJ2_getChars_46870 : MethodName := ⟨RJ2, "getChars", "(III[B)I"⟩
abbrev cJ2_putCharsAt_cd4e5 : ByteArray := prog_33_method_81_code
def yJ2_putCharsAt_cd4e5 : MethodName := ⟨RJ2, "putCharsAt", "([BICCCC)I"⟩
abbrev cJ2_inflate_0e8fd : ByteArray := prog_33_method_86_code
def yJ2_inflate_0e8fd : MethodName := ⟨RJ2, "inflate", "([BI[BII)V"⟩
abbrev cJ2_getChars_ba4f3 : ByteArray := prog_33_method_89_code
def yJ2_getChars_ba4f3 : MethodName := ⟨RJ2, "getChars", "(II[B)I"⟩
abbrev cJ2_checkBoundsBeginEnd_d044e : ByteArray := prog_33_method_93_code
def yJ2_checkBoundsBeginEnd_d044e : MethodName := ⟨RJ2, "checkBoundsBeginEnd", "(II[B)V"⟩
abbrev cJ2_checkBoundsOffCount_d044e : ByteArray := prog_33_method_94_code
def yJ2_checkBoundsOffCount_d044e : MethodName := ⟨RJ2, "checkBoundsOffCount", "(II[B)V"⟩
def RJ10 : String := "java/lang/System"
def TJ10 : u_T := fun k => match k with
  | _ => ("", "", "", false)
def tyJ10 : Nat → FieldType := fun k => match k with
  | _ => .int
abbrev wsJ100 : List Cond := u_ws RJ10 TJ10 0
theorem nmJ10 : ∀ a, a < 0 → ∀ b, b < 0 → a ≠ b → (TJ10 a).2.1 ≠ (TJ10 b).2.1 := by decide +kernel
theorem tyJ10_ok : ∀ k, k < 0 → parseFieldDescriptor (TJ10 k).2.2.1 = some (tyJ10 k) := by decide +kernel
def RJxfd54e : String := "java/lang/constant/Constable"
def TJxfd54e : u_T := fun k => match k with
  | _ => ("", "", "", false)
def tyJxfd54e : Nat → FieldType := fun k => match k with
  | _ => .int
abbrev wsJxfd54e0 : List Cond := u_ws RJxfd54e TJxfd54e 0
theorem nmJxfd54e : ∀ a, a < 0 → ∀ b, b < 0 → a ≠ b → (TJxfd54e a).2.1 ≠ (TJxfd54e b).2.1 := by decide +kernel
theorem tyJxfd54e_ok : ∀ k, k < 0 → parseFieldDescriptor (TJxfd54e k).2.2.1 = some (tyJxfd54e k) := by decide +kernel
def RJx3cf43 : String := "java/lang/constant/ConstantDesc"
def TJx3cf43 : u_T := fun k => match k with
  | _ => ("", "", "", false)
def tyJx3cf43 : Nat → FieldType := fun k => match k with
  | _ => .int
abbrev wsJx3cf430 : List Cond := u_ws RJx3cf43 TJx3cf43 0
theorem nmJx3cf43 : ∀ a, a < 0 → ∀ b, b < 0 → a ≠ b → (TJx3cf43 a).2.1 ≠ (TJx3cf43 b).2.1 := by decide +kernel
theorem tyJx3cf43_ok : ∀ k, k < 0 → parseFieldDescriptor (TJx3cf43 k).2.2.1 = some (tyJx3cf43 k) := by decide +kernel
def RJxa1e45 : String := "java/util/AbstractCollection"
def TJxa1e45 : u_T := fun k => match k with
  | _ => ("", "", "", false)
def tyJxa1e45 : Nat → FieldType := fun k => match k with
  | _ => .int
abbrev wsJxa1e450 : List Cond := u_ws RJxa1e45 TJxa1e45 0
theorem nmJxa1e45 : ∀ a, a < 0 → ∀ b, b < 0 → a ≠ b → (TJxa1e45 a).2.1 ≠ (TJxa1e45 b).2.1 := by decide +kernel
theorem tyJxa1e45_ok : ∀ k, k < 0 → parseFieldDescriptor (TJxa1e45 k).2.2.1 = some (tyJxa1e45 k) := by decide +kernel
abbrev cJxa1e45_init_da8c8 : ByteArray := prog_38_method_1_code
def yJxa1e45_init_da8c8 : MethodName := ⟨RJxa1e45, "<init>", "()V"⟩
def RJxc12de : String := "java/util/AbstractList"
def TJxc12de : u_T := fun k => match k with
  | _ => ("", "", "", false)
def tyJxc12de : Nat → FieldType := fun k => match k with
  | _ => .int
abbrev wsJxc12de0 : List Cond := u_ws RJxc12de TJxc12de 0
theorem nmJxc12de : ∀ a, a < 0 → ∀ b, b < 0 → a ≠ b → (TJxc12de a).2.1 ≠ (TJxc12de b).2.1 := by decide +kernel
theorem tyJxc12de_ok : ∀ k, k < 0 → parseFieldDescriptor (TJxc12de k).2.2.1 = some (tyJxc12de k) := by decide +kernel
abbrev cJxc12de_init_da8c8 : ByteArray := prog_39_method_1_code
def yJxc12de_init_da8c8 : MethodName := ⟨RJxc12de, "<init>", "()V"⟩
def RJx4a65c : String := "java/util/ArrayList"
def TJx4a65c : u_T := fun k => match k with
  | 0 => ("java/util/AbstractList", "modCount", "I", false)
  | 1 => ("java/util/ArrayList", "elementData", "[Ljava/lang/Object;", false)
  | _ => ("java/util/ArrayList", "size", "I", false)
def tyJx4a65c : Nat → FieldType := fun k => match k with
  | 0 => .int
  | 1 => .array (.object "java/lang/Object")
  | _ => .int
abbrev wsJx4a65c0 : List Cond := u_ws RJx4a65c TJx4a65c 3
theorem nmJx4a65c : ∀ a, a < 3 → ∀ b, b < 3 → a ≠ b → (TJx4a65c a).2.1 ≠ (TJx4a65c b).2.1 := by decide +kernel
theorem tyJx4a65c_ok : ∀ k, k < 3 → parseFieldDescriptor (TJx4a65c k).2.2.1 = some (tyJx4a65c k) := by decide +kernel
abbrev cJx4a65c_init_da8c8 : ByteArray := prog_40_method_2_code
def yJx4a65c_init_da8c8 : MethodName := ⟨RJx4a65c, "<init>", "()V"⟩
abbrev cJx4a65c_grow_92f84 : ByteArray := prog_40_method_6_code
def yJx4a65c_grow_92f84 : MethodName := ⟨RJx4a65c, "grow", "(I)[Ljava/lang/Object;"⟩
abbrev cJx4a65c_grow_d5877 : ByteArray := prog_40_method_7_code
def yJx4a65c_grow_d5877 : MethodName := ⟨RJx4a65c, "grow", "()[Ljava/lang/Object;"⟩
abbrev cJx4a65c_size_8abf5 : ByteArray := prog_40_method_8_code
def yJx4a65c_size_8abf5 : MethodName := ⟨RJx4a65c, "size", "()I"⟩
abbrev cJx4a65c_isEmpty_aae02 : ByteArray := prog_40_method_9_code
def yJx4a65c_isEmpty_aae02 : MethodName := ⟨RJx4a65c, "isEmpty", "()Z"⟩
abbrev cJx4a65c_elementData_915e3 : ByteArray := prog_40_method_18_code
def yJx4a65c_elementData_915e3 : MethodName := ⟨RJx4a65c, "elementData", "(I)Ljava/lang/Object;"⟩
abbrev cJx4a65c_get_915e3 : ByteArray := prog_40_method_20_code
def yJx4a65c_get_915e3 : MethodName := ⟨RJx4a65c, "get", "(I)Ljava/lang/Object;"⟩
abbrev cJx4a65c_add_72be8 : ByteArray := prog_40_method_24_code
def yJx4a65c_add_72be8 : MethodName := ⟨RJx4a65c, "add", "(Ljava/lang/Object;[Ljava/lang/Object;I)V"⟩
abbrev cJx4a65c_add_9ea2d : ByteArray := prog_40_method_25_code
def yJx4a65c_add_9ea2d : MethodName := ⟨RJx4a65c, "add", "(Ljava/lang/Object;)Z"⟩
abbrev cJx4a65c_add_7a177 : ByteArray := prog_40_method_26_code
def yJx4a65c_add_7a177 : MethodName := ⟨RJx4a65c, "add", "(ILjava/lang/Object;)V"⟩
abbrev cJx4a65c_remove_915e3 : ByteArray := prog_40_method_29_code
def yJx4a65c_remove_915e3 : MethodName := ⟨RJx4a65c, "remove", "(I)Ljava/lang/Object;"⟩
abbrev cJx4a65c_fastRemove_b59b0 : ByteArray := prog_40_method_39_code
def yJx4a65c_fastRemove_b59b0 : MethodName := ⟨RJx4a65c, "fastRemove", "([Ljava/lang/Object;I)V"⟩
abbrev cJx4a65c_clear_da8c8 : ByteArray := prog_40_method_40_code
def yJx4a65c_clear_da8c8 : MethodName := ⟨RJx4a65c, "clear", "()V"⟩
abbrev cJx4a65c_rangeCheckForAdd_d00df : ByteArray := prog_40_method_45_code
def yJx4a65c_rangeCheckForAdd_d00df : MethodName := ⟨RJx4a65c, "rangeCheckForAdd", "(I)V"⟩
abbrev cJx4a65c_outOfBoundsMsg_b52d3 : ByteArray := prog_40_method_46_code
def yJx4a65c_outOfBoundsMsg_b52d3 : MethodName := ⟨RJx4a65c, "outOfBoundsMsg", "(I)Ljava/lang/String;"⟩
def RJ7 : String := "java/util/Arrays"
def TJ7 : u_T := fun k => match k with
  | _ => ("", "", "", false)
def tyJ7 : Nat → FieldType := fun k => match k with
  | _ => .int
abbrev wsJ70 : List Cond := u_ws RJ7 TJ7 0
theorem nmJ7 : ∀ a, a < 0 → ∀ b, b < 0 → a ≠ b → (TJ7 a).2.1 ≠ (TJ7 b).2.1 := by decide +kernel
theorem tyJ7_ok : ∀ k, k < 0 → parseFieldDescriptor (TJ7 k).2.2.1 = some (tyJ7 k) := by decide +kernel
abbrev cJ7_fill_53178 : ByteArray := prog_41_method_103_code
def yJ7_fill_53178 : MethodName := ⟨RJ7, "fill", "([II)V"⟩
abbrev cJ7_copyOf_1904c : ByteArray := prog_41_method_119_code
def yJ7_copyOf_1904c : MethodName := ⟨RJ7, "copyOf", "([Ljava/lang/Object;I)[Ljava/lang/Object;"⟩
abbrev cJ7_copyOf_6403c : ByteArray := prog_41_method_120_code
def yJ7_copyOf_6403c : MethodName := ⟨RJ7, "copyOf", "([Ljava/lang/Object;ILjava/lang/Class;)[Ljava/lang/Object;"⟩
abbrev cJ7_copyOf_9075b : ByteArray := prog_41_method_121_code
def yJ7_copyOf_9075b : MethodName := ⟨RJ7, "copyOf", "([BI)[B"⟩
abbrev cJ7_copyOf_59c91 : ByteArray := prog_41_method_123_code
def yJ7_copyOf_59c91 : MethodName := ⟨RJ7, "copyOf", "([II)[I"⟩
abbrev cJ7_copyOf_c38d5 : ByteArray := prog_41_method_124_code
def yJ7_copyOf_c38d5 : MethodName := ⟨RJ7, "copyOf", "([JI)[J"⟩
abbrev cJ7_checkLength_df160 : ByteArray := prog_41_method_131_code
def yJ7_checkLength_df160 : MethodName := ⟨RJ7, "checkLength", "(II)V"⟩
abbrev cJ7_copyOfRange_39247 : ByteArray := prog_41_method_132_code
def yJ7_copyOfRange_39247 : MethodName := ⟨RJ7, "copyOfRange", "([BII)[B"⟩
abbrev cJ7_copyOfRangeByte_39247 : ByteArray := prog_41_method_133_code
def yJ7_copyOfRangeByte_39247 : MethodName := ⟨RJ7, "copyOfRangeByte", "([BII)[B"⟩
def RJx5ef63 : String := "java/util/Collection"
def TJx5ef63 : u_T := fun k => match k with
  | _ => ("", "", "", false)
def tyJx5ef63 : Nat → FieldType := fun k => match k with
  | _ => .int
abbrev wsJx5ef630 : List Cond := u_ws RJx5ef63 TJx5ef63 0
theorem nmJx5ef63 : ∀ a, a < 0 → ∀ b, b < 0 → a ≠ b → (TJx5ef63 a).2.1 ≠ (TJx5ef63 b).2.1 := by decide +kernel
theorem tyJx5ef63_ok : ∀ k, k < 0 → parseFieldDescriptor (TJx5ef63 k).2.2.1 = some (tyJx5ef63 k) := by decide +kernel
def RJxbd725 : String := "java/util/List"
def TJxbd725 : u_T := fun k => match k with
  | _ => ("", "", "", false)
def tyJxbd725 : Nat → FieldType := fun k => match k with
  | _ => .int
abbrev wsJxbd7250 : List Cond := u_ws RJxbd725 TJxbd725 0
theorem nmJxbd725 : ∀ a, a < 0 → ∀ b, b < 0 → a ≠ b → (TJxbd725 a).2.1 ≠ (TJxbd725 b).2.1 := by decide +kernel
theorem tyJxbd725_ok : ∀ k, k < 0 → parseFieldDescriptor (TJxbd725 k).2.2.1 = some (tyJxbd725 k) := by decide +kernel
def RJ15 : String := "java/util/Objects"
def TJ15 : u_T := fun k => match k with
  | _ => ("", "", "", false)
def tyJ15 : Nat → FieldType := fun k => match k with
  | _ => .int
abbrev wsJ150 : List Cond := u_ws RJ15 TJ15 0
theorem nmJ15 : ∀ a, a < 0 → ∀ b, b < 0 → a ≠ b → (TJ15 a).2.1 ≠ (TJ15 b).2.1 := by decide +kernel
theorem tyJ15_ok : ∀ k, k < 0 → parseFieldDescriptor (TJ15 k).2.2.1 = some (tyJ15 k) := by decide +kernel
abbrev cJ15_checkIndex_7cf53 : ByteArray := prog_44_method_17_code
def yJ15_checkIndex_7cf53 : MethodName := ⟨RJ15, "checkIndex", "(II)I"⟩
def RJxf0a74 : String := "java/util/RandomAccess"
def TJxf0a74 : u_T := fun k => match k with
  | _ => ("", "", "", false)
def tyJxf0a74 : Nat → FieldType := fun k => match k with
  | _ => .int
abbrev wsJxf0a740 : List Cond := u_ws RJxf0a74 TJxf0a74 0
theorem nmJxf0a74 : ∀ a, a < 0 → ∀ b, b < 0 → a ≠ b → (TJxf0a74 a).2.1 ≠ (TJxf0a74 b).2.1 := by decide +kernel
theorem tyJxf0a74_ok : ∀ k, k < 0 → parseFieldDescriptor (TJxf0a74 k).2.2.1 = some (tyJxf0a74 k) := by decide +kernel
def RJxa66e6 : String := "java/util/SequencedCollection"
def TJxa66e6 : u_T := fun k => match k with
  | _ => ("", "", "", false)
def tyJxa66e6 : Nat → FieldType := fun k => match k with
  | _ => .int
abbrev wsJxa66e60 : List Cond := u_ws RJxa66e6 TJxa66e6 0
theorem nmJxa66e6 : ∀ a, a < 0 → ∀ b, b < 0 → a ≠ b → (TJxa66e6 a).2.1 ≠ (TJxa66e6 b).2.1 := by decide +kernel
theorem tyJxa66e6_ok : ∀ k, k < 0 → parseFieldDescriptor (TJxa66e6 k).2.2.1 = some (tyJxa66e6 k) := by decide +kernel
def RJ8 : String := "jdk/internal/util/ArraysSupport"
def TJ8 : u_T := fun k => match k with
  | _ => ("", "", "", false)
def tyJ8 : Nat → FieldType := fun k => match k with
  | _ => .int
abbrev wsJ80 : List Cond := u_ws RJ8 TJ8 0
theorem nmJ8 : ∀ a, a < 0 → ∀ b, b < 0 → a ≠ b → (TJ8 a).2.1 ≠ (TJ8 b).2.1 := by decide +kernel
theorem tyJ8_ok : ∀ k, k < 0 → parseFieldDescriptor (TJ8 k).2.2.1 = some (tyJ8 k) := by decide +kernel
abbrev cJ8_newLength_cabcc : ByteArray := prog_47_method_27_code
def yJ8_newLength_cabcc : MethodName := ⟨RJ8, "newLength", "(III)I"⟩
abbrev cJ8_hugeLength_7cf53 : ByteArray := prog_47_method_28_code
def yJ8_hugeLength_7cf53 : MethodName := ⟨RJ8, "hugeLength", "(II)I"⟩
def RJ3 : String := "jdk/internal/util/Preconditions"
def TJ3 : u_T := fun k => match k with
  | _ => ("", "", "", false)
def tyJ3 : Nat → FieldType := fun k => match k with
  | _ => .int
abbrev wsJ30 : List Cond := u_ws RJ3 TJ3 0
theorem nmJ3 : ∀ a, a < 0 → ∀ b, b < 0 → a ≠ b → (TJ3 a).2.1 ≠ (TJ3 b).2.1 := by decide +kernel
theorem tyJ3_ok : ∀ k, k < 0 → parseFieldDescriptor (TJ3 k).2.2.1 = some (tyJ3 k) := by decide +kernel
abbrev cJ3_checkIndex_8e157 : ByteArray := prog_48_method_11_code
def yJ3_checkIndex_8e157 : MethodName := ⟨RJ3, "checkIndex", "(IILjava/util/function/BiFunction;)I"⟩
abbrev cJ3_checkFromToIndex_8c36e : ByteArray := prog_48_method_12_code
def yJ3_checkFromToIndex_8c36e : MethodName := ⟨RJ3, "checkFromToIndex", "(IIILjava/util/function/BiFunction;)I"⟩
abbrev cJ3_checkFromIndexSize_8c36e : ByteArray := prog_48_method_13_code
def yJ3_checkFromIndexSize_8c36e : MethodName := ⟨RJ3, "checkFromIndexSize", "(IIILjava/util/function/BiFunction;)I"⟩
def RL : String := "SearchMillLaw"
abbrev cL_from : ByteArray := method_2_code
def yL_from : MethodName := ⟨RL, "from", "([III)I"⟩
abbrev cL_word : ByteArray := method_3_code
def yL_word : MethodName := ⟨RL, "word", "(JII)I"⟩
abbrev cL_has : ByteArray := method_4_code
def yL_has : MethodName := ⟨RL, "has", "(JIII)Z"⟩
abbrev cL_count : ByteArray := method_5_code
def yL_count : MethodName := ⟨RL, "count", "(JII)I"⟩
abbrev cL_record : ByteArray := method_6_code
def yL_record : MethodName := ⟨RL, "record", "([JII)I"⟩
abbrev cL_leafCount : ByteArray := method_7_code
def yL_leafCount : MethodName := ⟨RL, "leafCount", "(JI)I"⟩
abbrev cL_strength : ByteArray := method_8_code
def yL_strength : MethodName := ⟨RL, "strength", "(I)I"⟩
abbrev cL_rarity : ByteArray := method_9_code
def yL_rarity : MethodName := ⟨RL, "rarity", "([J[J[I[III)I"⟩
abbrev cL_gains : ByteArray := method_10_code
def yL_gains : MethodName := ⟨RL, "gains", "([J[J[I[I[I)V"⟩
abbrev cL_gives : ByteArray := method_11_code
def yL_gives : MethodName := ⟨RL, "gives", "(JI[I)I"⟩
abbrev cL_rank : ByteArray := method_12_code
def yL_rank : MethodName := ⟨RL, "rank", "(JI[I)I"⟩
abbrev cL_bound : ByteArray := method_13_code
def yL_bound : MethodName := ⟨RL, "bound", "([J[JIIII[I)I"⟩
abbrev cL_find : ByteArray := method_14_code
def yL_find : MethodName := ⟨RL, "find", "([J[J[I[I[I[I[III)V"⟩
abbrev cL_writes : ByteArray := method_15_code
def yL_writes : MethodName := ⟨RL, "writes", "([I[I[I[I)Z"⟩
abbrev cL_flushed : ByteArray := method_16_code
def yL_flushed : MethodName := ⟨RL, "flushed", "([J[J[J[I[I[I[I[I[I[I[I)I"⟩
abbrev cL_tier : ByteArray := method_17_code
def yL_tier : MethodName := ⟨RL, "tier", "(I)I"⟩
abbrev cL_due : ByteArray := method_18_code
def yL_due : MethodName := ⟨RL, "due", "([I[I[I)I"⟩
abbrev cL_names : ByteArray := method_19_code
def yL_names : MethodName := ⟨RL, "names", "([I[I[I[I)V"⟩
abbrev cL_isIn : ByteArray := method_20_code
def yL_isIn : MethodName := ⟨RL, "isIn", "([II)Z"⟩
abbrev cL_files : ByteArray := method_21_code
def yL_files : MethodName := ⟨RL, "files", "([I[I[I[I[I[I[I)I"⟩
abbrev cL_ones : ByteArray := method_22_code
def yL_ones : MethodName := ⟨RL, "ones", "(I)I"⟩
abbrev cL_added : ByteArray := method_23_code
def yL_added : MethodName := ⟨RL, "added", "(LSearchMill;I)I"⟩
abbrev cL_deleted : ByteArray := method_24_code
def yL_deleted : MethodName := ⟨RL, "deleted", "(LSearchMill;I)I"⟩
abbrev cL_did : ByteArray := method_25_code
def yL_did : MethodName := ⟨RL, "did", "(LSearchMill;I)I"⟩
abbrev cL_looked : ByteArray := method_26_code
def yL_looked : MethodName := ⟨RL, "looked", "(LSearchMill;Z)I"⟩
abbrev cL_types : ByteArray := method_27_code
def yL_types : MethodName := ⟨RL, "types", "(LSearchMill;I)V"⟩
abbrev cL_isReady : ByteArray := method_28_code
def yL_isReady : MethodName := ⟨RL, "isReady", "(LSearchMill;)Z"⟩
abbrev cL_tokens : ByteArray := method_29_code
def yL_tokens : MethodName := ⟨RL, "tokens", "(JI)I"⟩
abbrev cL_isFound : ByteArray := method_30_code
def yL_isFound : MethodName := ⟨RL, "isFound", "(LSearchMill;[J[J[I[I[I[I[II)Z"⟩
abbrev cL_isPlain : ByteArray := method_31_code
def yL_isPlain : MethodName := ⟨RL, "isPlain", "(LSearchMill;[J[J[I[II)Z"⟩
abbrev cL_isIndex : ByteArray := method_32_code
def yL_isIndex : MethodName := ⟨RL, "isIndex", "(LSearchMill;[J[J[I[I[I[I[I[I[I[I)Z"⟩
abbrev cL_isAdded : ByteArray := method_33_code
def yL_isAdded : MethodName := ⟨RL, "isAdded", "(LSearchMill;[J[J[J[I[I[I[III)Z"⟩
abbrev cL_deletes : ByteArray := method_34_code
def yL_deletes : MethodName := ⟨RL, "deletes", "([J[J[J[I[I[I[II)I"⟩
abbrev cL_isMerged : ByteArray := method_35_code
def yL_isMerged : MethodName := ⟨RL, "isMerged", "(LSearchMill;[J[I[I[I[I[I[I[I[I[II)Z"⟩
abbrev cL_isCommitted : ByteArray := method_36_code
def yL_isCommitted : MethodName := ⟨RL, "isCommitted", "(LSearchMill;[J[J[J[I[I[I[I[I[I[I[I[I[II)Z"⟩
abbrev cL_copy : ByteArray := method_37_code
def yL_copy : MethodName := ⟨RL, "copy", "([I)[I"⟩
abbrev cL_opens : ByteArray := method_38_code
def yL_opens : MethodName := ⟨RL, "opens", "(LSearchMill;[I[I[I[I[I)Z"⟩
abbrev cL_looks : ByteArray := method_39_code
def yL_looks : MethodName := ⟨RL, "looks", "(LSearchMill;[I[I[I[I[II)Z"⟩
abbrev cL_holds : ByteArray := method_40_code
def yL_holds : MethodName := ⟨RL, "holds", "([I)Z"⟩
abbrev cL_isHeld : ByteArray := method_41_code
def yL_isHeld : MethodName := ⟨RL, "isHeld", "([I)Z"⟩
abbrev cL_law : ByteArray := code
def yL_law : MethodName := ⟨RL, "law", "([I)Z"⟩
abbrev vwCl : List vw_C := [(RJ0, TJ0, 4), (RJ4, TJ4, 4), (RJx4a65c, TJx4a65c, 3), (RX0, TX0, 5), (RX1, TX1, 14), (RX2, TX2, 2), (RX3, TX3, 9), (RX4, TX4, 11), (RX5, TX5, 10), (RX6, TX6, 5), (RX7, TX7, 7), (RX8, TX8, 4), (RX9, TX9, 5), (RX10, TX10, 2), (RX11, TX11, 19)]
