/-! the class: its words, its world (a pool of objects and rows), the judgement cG and its rules -/
def cW0 : List Cond := [Cond.code yX9_init cX9_init 1 none, Cond.methodLink RX9 3 objectInit, Cond.instanceMethod objectInit, Cond.code objectInit ⟨#[0xb1]⟩ 1 none, Cond.arrayClass .int, Cond.fieldLink RX9 9 "SearchMill$Text" "signs" "[I", Cond.fieldLink RX9 15 "SearchMill$Text" "signCount" "I", Cond.arrayClass .long, Cond.fieldLink RX9 19 "SearchMill$Text" "codes" "[J", Cond.fieldLink RX9 23 "SearchMill$Text" "places" "[I", Cond.fieldLink RX9 26 "SearchMill$Text" "count" "I", Cond.code yX0_init cX0_init 1 none, Cond.methodLink RX0 3 objectInit, Cond.fieldLink RX0 9 "SearchMill$Document" "key" "I", Cond.fieldLink RX0 15 "SearchMill$Document" "category" "I", Cond.fieldLink RX0 18 "SearchMill$Document" "number" "I", Cond.classLink RX0 21 RX9, Cond.instantiable RX9 5, Cond.initialized RX9, Cond.fieldLink RX0 24 "SearchMill$Document" "firstText" "LSearchMill$Text;", Cond.fieldLink RX0 28 "SearchMill$Document" "secondText" "LSearchMill$Text;", Cond.instanceMethod yX9_init, Cond.code yX0_textOf cX0_textOf 2 (some (.object "SearchMill$Text")), Cond.code yX0_putText cX0_putText 3 none, Cond.code yX1_init cX1_init 2 none, Cond.methodLink RX1 3 objectInit, Cond.fieldLink RX1 9 "SearchMill$Finder" "held" "I", Cond.fieldLink RX1 15 "SearchMill$Finder" "hitKeys" "[I", Cond.fieldLink RX1 19 "SearchMill$Finder" "hitRanks" "[I", Cond.fieldLink RX1 22 "SearchMill$Finder" "skippedBlocks" "I", Cond.fieldLink RX1 25 "SearchMill$Finder" "takenMatches" "I", Cond.fieldLink RX1 28 "SearchMill$Finder" "cacheSize" "I", Cond.fieldLink RX1 31 "SearchMill$Finder" "cacheUses" "I", Cond.fieldLink RX1 34 "SearchMill$Finder" "cacheQueries" "[I", Cond.fieldLink RX1 37 "SearchMill$Finder" "cacheSegments" "[I", Cond.fieldLink RX1 40 "SearchMill$Finder" "cacheTimes" "[I", Cond.classLink RX1 43 "[[I", Cond.fieldLink RX1 45 "SearchMill$Finder" "cacheMatches" "[[I", Cond.fieldLink RX1 48 "SearchMill$Finder" "starts" "[I", Cond.fieldLink RX1 51 "SearchMill$Finder" "spots" "[I", Cond.fieldLink RX1 54 "SearchMill$Finder" "reader" "LSearchMill$Reader;", Cond.code yX1_forget cX1_forget 1 none, Cond.code yJx4a65c_size_8abf5 cJx4a65c_size_8abf5 1 (some .int), Cond.fieldLink RJx4a65c 48 "java/util/ArrayList" "size" "I", Cond.code yJ3_checkIndex_8e157 cJ3_checkIndex_8e157 3 (some .int), Cond.code yJ15_checkIndex_7cf53 cJ15_checkIndex_7cf53 2 (some .int), Cond.methodLink RJ15 105 yJ3_checkIndex_8e157, Cond.static yJ3_checkIndex_8e157, Cond.initialized RJ3, Cond.code yJx4a65c_elementData_915e3 cJx4a65c_elementData_915e3 2 (some (.object "java/lang/Object")), Cond.fieldLink RJx4a65c 9 "java/util/ArrayList" "elementData" "[Ljava/lang/Object;", Cond.code yJx4a65c_get_915e3 cJx4a65c_get_915e3 2 (some (.object "java/lang/Object")), Cond.methodLink RJx4a65c 118 yJ15_checkIndex_7cf53, Cond.static yJ15_checkIndex_7cf53, Cond.initialized RJ15, Cond.methodLink RJx4a65c 123 yJx4a65c_elementData_915e3, Cond.instanceMethod yJx4a65c_elementData_915e3, Cond.selects RJx4a65c yJx4a65c_elementData_915e3 yJx4a65c_elementData_915e3, Cond.initialized RJx4a65c, Cond.code yX2_liveCount cX2_liveCount 3 (some .int), Cond.fieldLink RX2 21 "SearchMill$Holding" "isDead" "[Z", Cond.fieldLink RX10 12 "SearchMill$View" "holdings" "Ljava/util/ArrayList;", Cond.classLink RX10 30 "SearchMill$Holding", Cond.methodLink RX10 22 yJx4a65c_size_8abf5, Cond.instanceMethod yJx4a65c_size_8abf5, Cond.selects RJx4a65c yJx4a65c_size_8abf5 yJx4a65c_size_8abf5, Cond.methodLink RX10 26 yJx4a65c_get_915e3, Cond.instanceMethod yJx4a65c_get_915e3, Cond.selects RJx4a65c yJx4a65c_get_915e3 yJx4a65c_get_915e3, Cond.methodLink RX10 74 yX2_liveCount, Cond.instanceMethod yX2_liveCount, Cond.selects RX2 yX2_liveCount yX2_liveCount, Cond.initialized RX2, Cond.code yX10_liveCount cX10_liveCount 3 (some .int), Cond.code yX4_tokenCount cX4_tokenCount 1 (some .int), Cond.fieldLink RX4 22 "SearchMill$Node" "tokens" "[J", Cond.code yX4_tokenAt cX4_tokenAt 2 (some .long), Cond.code yX10_size cX10_size 1 (some .int), Cond.code yX10_at cX10_at 2 (some (.object "SearchMill$Holding")), Cond.code yX8_wordsOf cX8_wordsOf 2 (some (.object "java/util/ArrayList")), Cond.fieldLink RX8 16 "SearchMill$Segment" "firstWords" "Ljava/util/ArrayList;", Cond.fieldLink RX8 19 "SearchMill$Segment" "secondWords" "Ljava/util/ArrayList;", Cond.classLink RX8 67 "SearchMill$Postings", Cond.fieldLink RX8 79 "SearchMill$Postings" "word" "J", Cond.methodLink RX8 26 yJx4a65c_size_8abf5, Cond.methodLink RX8 35 yJx4a65c_get_915e3, Cond.code yX8_placeOf cX8_placeOf 6 (some .int), Cond.methodLink RX8 31 yX8_wordsOf, Cond.instanceMethod yX8_wordsOf, Cond.selects RX8 yX8_wordsOf yX8_wordsOf, Cond.initialized RX8, Cond.methodLink RX8 75 yX8_placeOf, Cond.static yX8_placeOf, Cond.code yX8_postingsOf cX8_postingsOf 6 (some (.object "SearchMill$Postings")), Cond.code yJ7_fill_53178 cJ7_fill_53178 4 none, Cond.code yX5_nextBits cX5_nextBits 6 (some .int), Cond.fieldLink RX5 32 "SearchMill$Postings" "readBit" "I", Cond.fieldLink RX5 9 "SearchMill$Postings" "bytes" "[B", Cond.code yX5_nextNumber cX5_nextNumber 1 (some .int), Cond.fieldLink RX5 35 "SearchMill$Postings" "readNumbers" "I", Cond.fieldLink RX5 38 "SearchMill$Postings" "readWidth" "I", Cond.methodLink RX5 77 yX5_nextBits, Cond.instanceMethod yX5_nextBits, Cond.selects RX5 yX5_nextBits yX5_nextBits, Cond.initialized RX5, Cond.code yX5_spread cX5_spread 8 none, Cond.fieldLink RX5 19 "SearchMill$Postings" "documentCount" "I", Cond.methodLink RX5 73 yX5_nextNumber, Cond.instanceMethod yX5_nextNumber, Cond.selects RX5 yX5_nextNumber yX5_nextNumber, Cond.code yX2_isLive cX2_isLive 2 (some .boolean), Cond.code yX2_liveIn cX2_liveIn 4 (some .int), Cond.methodLink RX2 28 yX2_isLive, Cond.instanceMethod yX2_isLive, Cond.selects RX2 yX2_isLive yX2_isLive, Cond.fieldLink RX7 82 "SearchMill$Holding" "segment" "LSearchMill$Segment;", Cond.fieldLink RX7 23 "SearchMill$Reader" "rows" "[[I", Cond.methodLink RX7 77 yX10_size, Cond.instanceMethod yX10_size, Cond.selects RX10 yX10_size yX10_size, Cond.initialized RX10, Cond.methodLink RX7 78 yX10_at, Cond.instanceMethod yX10_at, Cond.selects RX10 yX10_at yX10_at, Cond.methodLink RX7 88 yX8_postingsOf, Cond.instanceMethod yX8_postingsOf, Cond.selects RX8 yX8_postingsOf yX8_postingsOf, Cond.methodLink RX7 94 yJ7_fill_53178, Cond.static yJ7_fill_53178, Cond.initialized RJ7, Cond.methodLink RX7 100 yX5_spread, Cond.instanceMethod yX5_spread, Cond.selects RX5 yX5_spread yX5_spread, Cond.methodLink RX7 106 yX2_liveIn, Cond.instanceMethod yX2_liveIn, Cond.selects RX2 yX2_liveIn yX2_liveIn, Cond.code yX7_readCount cX7_readCount 9 (some .int), Cond.code yX7_rarityOf cX7_rarityOf 4 (some .int), Cond.methodLink RX7 215 Lib.Math.max.name, Cond.static Lib.Math.max.name, Cond.initialized "java/lang/Math", Cond.code Lib.Math.max.name Lib.Math.max.code 2 (some .int), Cond.fieldLink RX7 41 "SearchMill$Query" "leaves" "Ljava/util/ArrayList;", Cond.fieldLink RX7 29 "SearchMill$Reader" "rarities" "[I", Cond.classLink RX7 56 "SearchMill$Node", Cond.fieldLink RX7 61 "SearchMill$Node" "field" "I", Cond.methodLink RX7 35 yX10_liveCount, Cond.instanceMethod yX10_liveCount, Cond.selects RX10 yX10_liveCount yX10_liveCount, Cond.methodLink RX7 47 yJx4a65c_size_8abf5, Cond.methodLink RX7 52 yJx4a65c_get_915e3, Cond.methodLink RX7 58 yX4_tokenCount, Cond.instanceMethod yX4_tokenCount, Cond.selects RX4 yX4_tokenCount yX4_tokenCount, Cond.initialized RX4, Cond.methodLink RX7 65 yX4_tokenAt, Cond.instanceMethod yX4_tokenAt, Cond.selects RX4 yX4_tokenAt yX4_tokenAt, Cond.methodLink RX7 69 yX7_readCount, Cond.instanceMethod yX7_readCount]
def cW1 : List Cond := [Cond.selects RX7 yX7_readCount yX7_readCount, Cond.initialized RX7, Cond.methodLink RX7 73 yX7_rarityOf, Cond.static yX7_rarityOf, Cond.code yX7_readRarities cX7_readRarities 7 none, Cond.code yX4_isCounted cX4_isCounted 1 (some .boolean), Cond.fieldLink RX4 40 "SearchMill$Node" "kind" "I", Cond.code yX8_size cX8_size 1 (some .int), Cond.fieldLink RX8 10 "SearchMill$Segment" "documents" "Ljava/util/ArrayList;", Cond.code yX4_hasNeighbour cX4_hasNeighbour 4 (some .boolean), Cond.fieldLink RX4 46 "SearchMill$Node" "limit" "I", Cond.fieldLink RX4 9 "SearchMill$Node" "isOrdered" "Z", Cond.code yX4_placeFrom cX4_placeFrom 3 (some .int), Cond.methodLink RX4 57 Lib.Math.max.name, Cond.code yX4_isCountedAt cX4_isCountedAt 6 (some .boolean), Cond.fieldLink RX4 26 "SearchMill$Node" "gaps" "[I", Cond.methodLink RX4 98 yX4_hasNeighbour, Cond.instanceMethod yX4_hasNeighbour, Cond.selects RX4 yX4_hasNeighbour yX4_hasNeighbour, Cond.methodLink RX4 102 yX4_placeFrom, Cond.static yX4_placeFrom, Cond.code yX4_countedPlaces cX4_countedPlaces 4 (some .int), Cond.methodLink RX4 94 yX4_isCountedAt, Cond.instanceMethod yX4_isCountedAt, Cond.selects RX4 yX4_isCountedAt yX4_isCountedAt, Cond.fieldLink RX7 26 "SearchMill$Reader" "places" "[I", Cond.methodLink RX7 128 yX8_size, Cond.instanceMethod yX8_size, Cond.selects RX8 yX8_size yX8_size, Cond.methodLink RX7 129 yX4_countedPlaces, Cond.instanceMethod yX4_countedPlaces, Cond.selects RX4 yX4_countedPlaces yX4_countedPlaces, Cond.code yX7_readCounted cX7_readCounted 7 none, Cond.code yX9_digitAt cX9_digitAt 3 (some .int), Cond.fieldLink RX9 50 "SearchMill$Text" "POWERS" "[J", Cond.constantLong RX9 53 (37), Cond.code yX9_lengthOf cX9_lengthOf 3 (some .int), Cond.methodLink RX9 55 yX9_digitAt, Cond.static yX9_digitAt, Cond.code yX4_isEdited cX4_isEdited 10 (some .boolean), Cond.fieldLink RX4 37 "SearchMill$Node" "costs" "[I", Cond.methodLink RX4 115 Lib.Math.abs.name, Cond.static Lib.Math.abs.name, Cond.code Lib.Math.abs.name Lib.Math.abs.code 1 (some .int), Cond.fieldLink RX4 33 "SearchMill$Node" "word" "J", Cond.methodLink RX4 63 Lib.Math.min.name, Cond.static Lib.Math.min.name, Cond.code Lib.Math.min.name Lib.Math.min.code 2 (some .int), Cond.methodLink RX4 78 yX9_digitAt, Cond.code yX4_withEmpty cX4_withEmpty 4 (some .int), Cond.fieldLink RX4 30 "SearchMill$Node" "pattern" "[I", Cond.code yX4_isLikePattern cX4_isLikePattern 9 (some .boolean), Cond.methodLink RX4 112 yX4_withEmpty, Cond.instanceMethod yX4_withEmpty, Cond.selects RX4 yX4_withEmpty yX4_withEmpty, Cond.methodLink RX4 74 yX9_lengthOf, Cond.static yX9_lengthOf, Cond.methodLink RX4 105 yX4_isEdited, Cond.instanceMethod yX4_isEdited, Cond.selects RX4 yX4_isEdited yX4_isEdited, Cond.methodLink RX4 109 yX4_isLikePattern, Cond.instanceMethod yX4_isLikePattern, Cond.selects RX4 yX4_isLikePattern yX4_isLikePattern, Cond.code yX4_isTold cX4_isTold 4 (some .boolean), Cond.classLink RX7 101 "SearchMill$Postings", Cond.fieldLink RX7 136 "SearchMill$Postings" "word" "J", Cond.methodLink RX7 132 yX8_wordsOf, Cond.methodLink RX7 140 yX4_isTold, Cond.instanceMethod yX4_isTold, Cond.selects RX4 yX4_isTold yX4_isTold, Cond.code yX7_readTold cX7_readTold 5 none, Cond.fieldLink RX7 17 "SearchMill$Reader" "marks" "[[I", Cond.fieldLink RX7 20 "SearchMill$Reader" "firsts" "[[I", Cond.methodLink RX7 122 arraycopyName, Cond.native arraycopyName, Cond.static arraycopyName, Cond.initialized "java/lang/System", Cond.methodLink RX7 110 yX4_isCounted, Cond.instanceMethod yX4_isCounted, Cond.selects RX4 yX4_isCounted yX4_isCounted, Cond.methodLink RX7 114 yX7_readCounted, Cond.instanceMethod yX7_readCounted, Cond.selects RX7 yX7_readCounted yX7_readCounted, Cond.methodLink RX7 118 yX7_readTold, Cond.static yX7_readTold, Cond.code yX7_readSegment cX7_readSegment 5 none, Cond.code yX1_freeEntry cX1_freeEntry 3 (some .int), Cond.code yX7_markAt cX7_markAt 3 (some .int), Cond.code yJ6_bitCount_0f7a4 cJ6_bitCount_0f7a4 1 (some .int), Cond.constant RJ6 265 (1431655765), Cond.constant RJ6 266 (858993459), Cond.constant RJ6 267 (252645135), Cond.code yX7_giveOf cX7_giveOf 5 (some .int), Cond.fieldLink RX7 9 "SearchMill$Reader" "weights" "[I", Cond.code yX4_isLeaf cX4_isLeaf 1 (some .boolean), Cond.code yX6_joined cX6_joined 6 (some .int), Cond.fieldLink RX6 40 "SearchMill$Node" "partCount" "I", Cond.fieldLink RX6 29 "SearchMill$Query" "values" "[I", Cond.fieldLink RX6 65 "SearchMill$Node" "kind" "I", Cond.fieldLink RX6 68 "SearchMill$Node" "limit" "I", Cond.fieldLink RX6 12 "SearchMill$Query" "nodes" "Ljava/util/ArrayList;", Cond.classLink RX6 41 "SearchMill$Node", Cond.methodLink RX6 43 Lib.Math.max.name, Cond.methodLink RX6 32 yJx4a65c_size_8abf5, Cond.methodLink RX6 49 yJx4a65c_get_915e3, Cond.methodLink RX6 57 yX4_isLeaf, Cond.instanceMethod yX4_isLeaf, Cond.selects RX4 yX4_isLeaf yX4_isLeaf, Cond.methodLink RX6 61 yX6_joined, Cond.instanceMethod yX6_joined, Cond.selects RX6 yX6_joined yX6_joined, Cond.initialized RX6, Cond.code yX6_valueOf cX6_valueOf 6 (some .int), Cond.fieldLink RX7 32 "SearchMill$Reader" "gives" "[I", Cond.methodLink RX7 200 yX7_markAt, Cond.instanceMethod yX7_markAt, Cond.selects RX7 yX7_markAt yX7_markAt, Cond.methodLink RX7 203 yJ6_bitCount_0f7a4, Cond.static yJ6_bitCount_0f7a4, Cond.initialized RJ6, Cond.methodLink RX7 208 yX7_giveOf, Cond.instanceMethod yX7_giveOf, Cond.selects RX7 yX7_giveOf yX7_giveOf, Cond.methodLink RX7 212 yX6_valueOf, Cond.instanceMethod yX6_valueOf, Cond.selects RX6 yX6_valueOf yX6_valueOf, Cond.code yX7_valueAt cX7_valueAt 5 (some .int), Cond.fieldLink RX1 132 "SearchMill$Segment" "number" "I", Cond.methodLink RX1 135 yX1_freeEntry, Cond.instanceMethod yX1_freeEntry, Cond.selects RX1 yX1_freeEntry yX1_freeEntry, Cond.initialized RX1, Cond.methodLink RX1 92 yX8_size, Cond.methodLink RX1 124 yX7_valueAt, Cond.instanceMethod yX7_valueAt, Cond.selects RX7 yX7_valueAt yX7_valueAt, Cond.code yX1_entryOf cX1_entryOf 6 (some .int), Cond.fieldLink RX7 220 "SearchMill$Node" "isAside" "Z", Cond.code yX7_boundOf cX7_boundOf 8 (some .int), Cond.code yX1_hold cX1_hold 5 none, Cond.fieldLink RX1 74 "SearchMill$Holding" "segment" "LSearchMill$Segment;", Cond.methodLink RX1 95 Lib.Math.min.name, Cond.fieldLink RX1 109 "SearchMill$Segment" "documents" "Ljava/util/ArrayList;", Cond.classLink RX1 119 "SearchMill$Document", Cond.fieldLink RX1 121 "SearchMill$Document" "key" "I", Cond.methodLink RX1 101 yX7_boundOf, Cond.instanceMethod yX7_boundOf, Cond.selects RX7 yX7_boundOf yX7_boundOf, Cond.methodLink RX1 105 yX2_isLive, Cond.methodLink RX1 113 yJx4a65c_get_915e3, Cond.methodLink RX1 128 yX1_hold, Cond.instanceMethod yX1_hold, Cond.selects RX1 yX1_hold yX1_hold, Cond.code yX1_searchBlocks cX1_searchBlocks 9 none, Cond.methodLink RX1 58 yX7_readRarities, Cond.instanceMethod yX7_readRarities, Cond.selects RX7 yX7_readRarities yX7_readRarities, Cond.methodLink RX1 64 yX10_size, Cond.methodLink RX1 70 yX10_at, Cond.methodLink RX1 80 yX7_readSegment]
def cW2 : List Cond := [Cond.instanceMethod yX7_readSegment, Cond.selects RX7 yX7_readSegment yX7_readSegment, Cond.methodLink RX1 84 yX1_entryOf, Cond.instanceMethod yX1_entryOf, Cond.selects RX1 yX1_entryOf yX1_entryOf, Cond.methodLink RX1 88 yX1_searchBlocks, Cond.instanceMethod yX1_searchBlocks, Cond.selects RX1 yX1_searchBlocks yX1_searchBlocks, Cond.code yX1_search cX1_search 8 (some .int), Cond.code yX9_placesOf cX9_placesOf 5 (some .int), Cond.methodLink RX7 173 yX9_placesOf, Cond.instanceMethod yX9_placesOf, Cond.selects RX9 yX9_placesOf yX9_placesOf, Cond.code yX7_scanCounted cX7_scanCounted 4 (some .int), Cond.code yX9_codeAt cX9_codeAt 2 (some .long), Cond.code yX9_placeAt cX9_placeAt 2 (some .int), Cond.fieldLink RX7 186 "SearchMill$Text" "count" "I", Cond.methodLink RX7 189 yX9_codeAt, Cond.instanceMethod yX9_codeAt, Cond.selects RX9 yX9_codeAt yX9_codeAt, Cond.methodLink RX7 192 yX9_placeAt, Cond.instanceMethod yX9_placeAt, Cond.selects RX9 yX9_placeAt yX9_placeAt, Cond.code yX7_scanTold cX7_scanTold 4 (some .int), Cond.methodLink RX7 169 yX0_textOf, Cond.instanceMethod yX0_textOf, Cond.selects RX0 yX0_textOf yX0_textOf, Cond.initialized RX0, Cond.methodLink RX7 179 yX7_scanCounted, Cond.instanceMethod yX7_scanCounted, Cond.selects RX7 yX7_scanCounted yX7_scanCounted, Cond.methodLink RX7 183 yX7_scanTold, Cond.static yX7_scanTold, Cond.code yX7_scanDocument cX7_scanDocument 6 none, Cond.fieldLink RX1 155 "SearchMill$Query" "leaves" "Ljava/util/ArrayList;", Cond.classLink RX1 161 "SearchMill$Node", Cond.fieldLink RX1 166 "SearchMill$Node" "isAside" "Z", Cond.fieldLink RX1 170 "SearchMill$Node" "field" "I", Cond.methodLink RX1 149 yJ7_fill_53178, Cond.methodLink RX1 160 yJx4a65c_size_8abf5, Cond.methodLink RX1 163 yX7_markAt, Cond.code yX1_readSpots cX1_readSpots 7 (some .int), Cond.code yX1_areSpotsIn cX1_areSpotsIn 5 (some .boolean), Cond.code yX1_isCovered cX1_isCovered 6 (some .boolean), Cond.methodLink RX1 173 yX1_areSpotsIn, Cond.static yX1_areSpotsIn, Cond.methodLink RX1 145 yX1_isCovered, Cond.static yX1_isCovered, Cond.methodLink RX1 138 yX7_scanDocument, Cond.instanceMethod yX7_scanDocument, Cond.selects RX7 yX7_scanDocument yX7_scanDocument, Cond.methodLink RX1 142 yX1_readSpots, Cond.instanceMethod yX1_readSpots, Cond.selects RX1 yX1_readSpots yX1_readSpots, Cond.code yX1_readPassages cX1_readPassages 6 (some .int), Cond.code yX2_init cX2_init 2 none, Cond.methodLink RX2 3 objectInit, Cond.fieldLink RX2 9 "SearchMill$Holding" "segment" "LSearchMill$Segment;", Cond.arrayClass .boolean, Cond.methodLink RX2 15 yX8_size, Cond.code yX2_copy cX2_copy 3 (some (.object "SearchMill$Holding")), Cond.classLink RX2 10 RX2, Cond.instantiable RX2 2, Cond.methodLink RX2 25 yX2_init, Cond.instanceMethod yX2_init, Cond.code yX2_hasDead cX2_hasDead 1 (some .boolean), Cond.methodLink RX2 32 yX2_liveCount, Cond.code yX2_isAlike cX2_isAlike 3 (some .boolean), Cond.fieldLink RX2 35 "SearchMill$Segment" "documents" "Ljava/util/ArrayList;", Cond.classLink RX2 45 "SearchMill$Document", Cond.fieldLink RX2 47 "SearchMill$Document" "key" "I", Cond.methodLink RX2 39 yJx4a65c_get_915e3, Cond.code yX2_liveAt cX2_liveAt 3 (some .int), Cond.methodLink RX2 51 yX2_liveAt, Cond.instanceMethod yX2_liveAt, Cond.selects RX2 yX2_liveAt yX2_liveAt, Cond.code yX2_kill cX2_kill 3 (some .boolean), Cond.code yJ8_hugeLength_7cf53 cJ8_hugeLength_7cf53 3 (some .int), Cond.constant RJ8 200 (2147483639), Cond.code yJ8_newLength_cabcc cJ8_newLength_cabcc 4 (some .int), Cond.methodLink RJ8 194 Lib.Math.max.name, Cond.methodLink RJ8 201 yJ8_hugeLength_7cf53, Cond.static yJ8_hugeLength_7cf53, Cond.initialized RJ8, Cond.code yJ7_copyOf_6403c cJ7_copyOf_6403c 4 (some (.array (.object "java/lang/Object"))), Cond.classLink RJ7 110 "[Ljava/lang/Object;", Cond.classLink RJ7 2 "java/lang/Object", Cond.methodLink RJ7 304 Lib.Math.min.name, Cond.methodLink RJ7 150 arraycopyName, Cond.code yJ7_copyOf_1904c cJ7_copyOf_1904c 2 (some (.array (.object "java/lang/Object"))), Cond.methodLink RJ7 86 ⟨"java/lang/Object", "getClass", "()Ljava/lang/Class;"⟩, Cond.selects "[Ljava/lang/Object;" ⟨"java/lang/Object", "getClass", "()Ljava/lang/Class;"⟩ ⟨"java/lang/Object", "getClass", "()Ljava/lang/Class;"⟩, Cond.instanceMethod ⟨"java/lang/Object", "getClass", "()Ljava/lang/Class;"⟩, Cond.native ⟨"java/lang/Object", "getClass", "()Ljava/lang/Class;"⟩, Cond.methodLink RJ7 300 yJ7_copyOf_6403c, Cond.static yJ7_copyOf_6403c, Cond.fieldLink RJx4a65c 39 "java/util/ArrayList" "DEFAULTCAPACITY_EMPTY_ELEMENTDATA" "[Ljava/lang/Object;", Cond.methodLink RJx4a65c 79 Lib.Math.max.name, Cond.classLink RJx4a65c 7 "java/lang/Object", Cond.methodLink RJx4a65c 73 yJ8_newLength_cabcc, Cond.static yJ8_newLength_cabcc, Cond.methodLink RJx4a65c 66 yJ7_copyOf_1904c, Cond.static yJ7_copyOf_1904c, Cond.code yJx4a65c_grow_92f84 cJx4a65c_grow_92f84 4 (some (.array (.object "java/lang/Object"))), Cond.methodLink RJx4a65c 69 yJx4a65c_grow_92f84, Cond.instanceMethod yJx4a65c_grow_92f84, Cond.selects RJx4a65c yJx4a65c_grow_92f84 yJx4a65c_grow_92f84, Cond.code yJx4a65c_grow_d5877 cJx4a65c_grow_d5877 1 (some (.array (.object "java/lang/Object"))), Cond.methodLink RJx4a65c 129 yJx4a65c_grow_d5877, Cond.instanceMethod yJx4a65c_grow_d5877, Cond.selects RJx4a65c yJx4a65c_grow_d5877 yJx4a65c_grow_d5877, Cond.code yJx4a65c_add_72be8 cJx4a65c_add_72be8 4 none, Cond.fieldLink RJx4a65c 63 "java/util/ArrayList" "modCount" "I", Cond.sameField "java/util/ArrayList" "java/util/AbstractList" "modCount" "I", Cond.methodLink RJx4a65c 131 yJx4a65c_add_72be8, Cond.instanceMethod yJx4a65c_add_72be8, Cond.selects RJx4a65c yJx4a65c_add_72be8 yJx4a65c_add_72be8, Cond.code yJx4a65c_add_9ea2d cJx4a65c_add_9ea2d 2 (some .boolean), Cond.methodLink RX2 55 yJx4a65c_add_9ea2d, Cond.instanceMethod yJx4a65c_add_9ea2d, Cond.selects RJx4a65c yJx4a65c_add_9ea2d yJx4a65c_add_9ea2d, Cond.code yX2_gather cX2_gather 5 none, Cond.methodLink RX3 3 objectInit, Cond.classLink RX3 9 RX9, Cond.fieldLink RX3 12 "SearchMill$Language" "pad" "LSearchMill$Text;", Cond.fieldLink RX3 18 "SearchMill$Language" "readWords" "[J", Cond.fieldLink RX3 22 "SearchMill$Language" "readCount" "I", Cond.fieldLink RX3 26 "SearchMill$Language" "stops" "[J", Cond.fieldLink RX3 29 "SearchMill$Language" "stopCount" "I", Cond.fieldLink RX3 32 "SearchMill$Language" "pairFirsts" "[J", Cond.fieldLink RX3 35 "SearchMill$Language" "pairSeconds" "[J", Cond.fieldLink RX3 38 "SearchMill$Language" "pairCount" "I", Cond.fieldLink RX3 41 "SearchMill$Language" "isFixed" "Z", Cond.code yX3_init cX3_init 1 none, Cond.code yX3_takePad cX3_takePad 2 (some (.object "SearchMill$Text")), Cond.code yX9_signOf cX9_signOf 2 (some .int), Cond.code yX9_digitOf cX9_digitOf 1 (some .int), Cond.code yX9_withDigit cX9_withDigit 4 (some .long), Cond.code yX3_readWordsOf cX3_readWordsOf 5 none, Cond.fieldLink RX3 80 "SearchMill$Text" "signCount" "I", Cond.methodLink RX3 83 yX9_signOf, Cond.instanceMethod yX9_signOf, Cond.selects RX9 yX9_signOf yX9_signOf, Cond.methodLink RX3 87 yX9_digitOf, Cond.static yX9_digitOf, Cond.methodLink RX3 90 yX9_withDigit, Cond.static yX9_withDigit, Cond.code yX3_readPad cX3_readPad 1 (some .int), Cond.methodLink RX3 45 yX3_readWordsOf, Cond.instanceMethod yX3_readWordsOf, Cond.selects RX3 yX3_readWordsOf yX3_readWordsOf, Cond.initialized RX3, Cond.code yX3_wordAt cX3_wordAt 2 (some .long), Cond.code yX9_isEnding cX9_isEnding 6 (some .boolean), Cond.methodLink RX9 70 yX9_digitOf, Cond.code yX9_cutTo cX9_cutTo 3 (some .long), Cond.code yX9_stemOf cX9_stemOf 3 (some .long), Cond.methodLink RX9 59 yX9_lengthOf, Cond.methodLink RX9 62 yX9_isEnding, Cond.static yX9_isEnding]
def cW3 : List Cond := [Cond.methodLink RX9 66 yX9_cutTo, Cond.static yX9_cutTo, Cond.code yX3_isStop cX3_isStop 4 (some .boolean), Cond.code yJ7_copyOf_c38d5 cJ7_copyOf_c38d5 3 (some (.array .long)), Cond.methodLink RJ7 319 ⟨"[J", "clone", "()Ljava/lang/Object;"⟩, Cond.sameMethod "[J" "java/lang/Object" "clone" "()Ljava/lang/Object;", Cond.native ⟨"java/lang/Object", "clone", "()Ljava/lang/Object;"⟩, Cond.instanceMethod ⟨"java/lang/Object", "clone", "()Ljava/lang/Object;"⟩, Cond.selects "[J" ⟨"[J", "clone", "()Ljava/lang/Object;"⟩ ⟨"java/lang/Object", "clone", "()Ljava/lang/Object;"⟩, Cond.classLink RJ7 320 "[J", Cond.code yJ7_copyOf_59c91 cJ7_copyOf_59c91 3 (some (.array .int)), Cond.methodLink RJ7 316 ⟨"[I", "clone", "()Ljava/lang/Object;"⟩, Cond.sameMethod "[I" "java/lang/Object" "clone" "()Ljava/lang/Object;", Cond.selects "[I" ⟨"[I", "clone", "()Ljava/lang/Object;"⟩ ⟨"java/lang/Object", "clone", "()Ljava/lang/Object;"⟩, Cond.classLink RJ7 317 "[I", Cond.methodLink RX9 29 yJ7_copyOf_c38d5, Cond.static yJ7_copyOf_c38d5, Cond.methodLink RX9 35 yJ7_copyOf_59c91, Cond.static yJ7_copyOf_59c91, Cond.code yX9_putToken cX9_putToken 4 none, Cond.methodLink RX3 76 yX9_placesOf, Cond.methodLink RX3 68 yX9_putToken, Cond.instanceMethod yX9_putToken, Cond.selects RX9 yX9_putToken yX9_putToken, Cond.code yX3_putSynonyms cX3_putSynonyms 6 none, Cond.fieldLink RX3 53 "SearchMill$Text" "count" "I", Cond.methodLink RX3 56 yX3_wordAt, Cond.instanceMethod yX3_wordAt, Cond.selects RX3 yX3_wordAt yX3_wordAt, Cond.methodLink RX3 60 yX9_stemOf, Cond.static yX9_stemOf, Cond.methodLink RX3 64 yX3_isStop, Cond.instanceMethod yX3_isStop, Cond.selects RX3 yX3_isStop yX3_isStop, Cond.methodLink RX3 72 yX3_putSynonyms, Cond.instanceMethod yX3_putSynonyms, Cond.selects RX3 yX3_putSynonyms yX3_putSynonyms, Cond.code yX3_tokenise cX3_tokenise 6 none, Cond.methodLink RX3 49 yX3_tokenise, Cond.instanceMethod yX3_tokenise, Cond.selects RX3 yX3_tokenise yX3_tokenise, Cond.code yX3_readPadTokens cX3_readPadTokens 1 (some .int), Cond.code yX3_putStop cX3_putStop 3 (some .int), Cond.code yX3_putPair cX3_putPair 1 (some .int), Cond.code yX4_init cX4_init 4 none, Cond.methodLink RX4 3 objectInit, Cond.fieldLink RX4 15 "SearchMill$Node" "partCount" "I", Cond.fieldLink RX4 19 "SearchMill$Node" "isAside" "Z", Cond.fieldLink RX4 43 "SearchMill$Node" "field" "I", Cond.classLink RX4 10 RX4, Cond.instantiable RX4 11, Cond.fieldLink RX4 52 "SearchMill$Text" "count" "I", Cond.methodLink RX4 49 yX4_init, Cond.instanceMethod yX4_init, Cond.methodLink RX4 66 yX9_codeAt, Cond.methodLink RX4 70 yX9_placeAt, Cond.code yX4_ofTokens cX4_ofTokens 7 (some (.object "SearchMill$Node")), Cond.code yX4_ofPrefix cX4_ofPrefix 6 (some (.object "SearchMill$Node")), Cond.code yX4_patternOf cX4_patternOf 1 (some .int), Cond.methodLink RX4 91 yX9_digitOf, Cond.fieldLink RX4 82 "SearchMill$Text" "signCount" "I", Cond.methodLink RX4 85 yX9_signOf, Cond.methodLink RX4 88 yX4_patternOf, Cond.static yX4_patternOf, Cond.code yX4_ofPattern cX4_ofPattern 5 (some (.object "SearchMill$Node")), Cond.code yX4_ofEdits cX4_ofEdits 5 (some (.object "SearchMill$Node")), Cond.code yX4_ofParts cX4_ofParts 4 (some (.object "SearchMill$Node")), Cond.code yX4_isPattern cX4_isPattern 2 (some .boolean), Cond.code yX5_init cX5_init 3 none, Cond.methodLink RX5 3 objectInit, Cond.arrayClass .byte, Cond.fieldLink RX5 15 "SearchMill$Postings" "bitCount" "I", Cond.fieldLink RX5 22 "SearchMill$Postings" "lastDocument" "I", Cond.fieldLink RX5 25 "SearchMill$Postings" "waiting" "[I", Cond.fieldLink RX5 29 "SearchMill$Postings" "waitingCount" "I", Cond.fieldLink RX5 41 "SearchMill$Postings" "word" "J", Cond.code yJ7_copyOf_9075b cJ7_copyOf_9075b 3 (some (.array .byte)), Cond.methodLink RJ7 310 ⟨"[B", "clone", "()Ljava/lang/Object;"⟩, Cond.sameMethod "[B" "java/lang/Object" "clone" "()Ljava/lang/Object;", Cond.selects "[B" ⟨"[B", "clone", "()Ljava/lang/Object;"⟩ ⟨"java/lang/Object", "clone", "()Ljava/lang/Object;"⟩, Cond.classLink RJ7 311 "[B", Cond.code yX5_putBits cX5_putBits 5 none, Cond.methodLink RX5 67 yJ7_copyOf_9075b, Cond.static yJ7_copyOf_9075b, Cond.methodLink RX5 63 yX5_putBits, Cond.instanceMethod yX5_putBits, Cond.selects RX5 yX5_putBits yX5_putBits, Cond.code yX5_close cX5_close 4 none, Cond.methodLink RX5 60 yX5_close, Cond.instanceMethod yX5_close, Cond.selects RX5 yX5_close yX5_close, Cond.code yX5_putNumber cX5_putNumber 2 none, Cond.methodLink RX5 51 yX5_putNumber, Cond.instanceMethod yX5_putNumber, Cond.selects RX5 yX5_putNumber yX5_putNumber, Cond.methodLink RX5 55 yJ6_bitCount_0f7a4, Cond.code yX5_putDocument cX5_putDocument 5 none, Cond.code yJxa1e45_init_da8c8 cJxa1e45_init_da8c8 1 none, Cond.methodLink RJxa1e45 1 objectInit, Cond.code yJxc12de_init_da8c8 cJxc12de_init_da8c8 1 none, Cond.fieldLink RJxc12de 7 "java/util/AbstractList" "modCount" "I", Cond.methodLink RJxc12de 1 yJxa1e45_init_da8c8, Cond.instanceMethod yJxa1e45_init_da8c8, Cond.initialized RJxa1e45, Cond.code yJx4a65c_init_da8c8 cJx4a65c_init_da8c8 1 none, Cond.methodLink RJx4a65c 1 yJxc12de_init_da8c8, Cond.instanceMethod yJxc12de_init_da8c8, Cond.initialized RJxc12de, Cond.methodLink RX6 3 objectInit, Cond.classLink RX6 9 RJx4a65c, Cond.instantiable RJx4a65c 3, Cond.fieldLink RX6 18 "SearchMill$Query" "leaves" "Ljava/util/ArrayList;", Cond.fieldLink RX6 21 "SearchMill$Query" "starts" "[I", Cond.fieldLink RX6 25 "SearchMill$Query" "partCount" "I", Cond.methodLink RX6 11 yJx4a65c_init_da8c8, Cond.instanceMethod yJx4a65c_init_da8c8, Cond.code yX6_init cX6_init 1 none, Cond.methodLink RX6 36 yJx4a65c_add_9ea2d, Cond.code yX6_putLeaf cX6_putLeaf 2 (some .int), Cond.code yX6_putGroup cX6_putGroup 2 (some .int), Cond.fieldLink RX6 53 "SearchMill$Node" "isAside" "Z", Cond.code yX6_setLastAside cX6_setLastAside 2 none, Cond.code yX7_init cX7_init 1 none, Cond.methodLink RX7 3 objectInit, Cond.classLink RX7 15 "[[I", Cond.classLink RX7 48 RJx4a65c, Cond.fieldLink RX7 157 "SearchMill$Segment" "documents" "Ljava/util/ArrayList;", Cond.classLink RX7 160 "SearchMill$Document", Cond.methodLink RX7 144 yJx4a65c_init_da8c8, Cond.methodLink RX7 145 yX7_readSegment, Cond.methodLink RX7 149 yX2_isLive, Cond.methodLink RX7 153 yX7_valueAt, Cond.methodLink RX7 162 yJx4a65c_add_9ea2d, Cond.code yX7_matched cX7_matched 7 (some (.object "java/util/ArrayList")), Cond.code yX7_scanCount cX7_scanCount 8 (some .int), Cond.methodLink RX7 166 yX7_scanCount, Cond.static yX7_scanCount, Cond.code yX7_scanRarities cX7_scanRarities 7 none, Cond.methodLink RX7 196 yX7_scanDocument, Cond.code yX7_scannedCount cX7_scannedCount 7 (some .int), Cond.methodLink RX8 1 objectInit, Cond.classLink RX8 7 RJx4a65c, Cond.fieldLink RX8 22 "SearchMill$Segment" "number" "I", Cond.methodLink RX8 9 yJx4a65c_init_da8c8, Cond.code yX8_init cX8_init 2 none, Cond.code yX8_tier cX8_tier 3 (some .int), Cond.methodLink RX8 30 yX8_size, Cond.code yX9_isFirst cX9_isFirst 3 (some .boolean), Cond.methodLink RX9 38 yX9_codeAt, Cond.methodLink RX9 42 yX9_placesOf, Cond.methodLink RX9 46 yX9_placeAt, Cond.code yJx4a65c_rangeCheckForAdd_d00df cJx4a65c_rangeCheckForAdd_d00df 2 none, Cond.methodLink RJx4a65c 112 arraycopyName, Cond.methodLink RJx4a65c 135 yJx4a65c_rangeCheckForAdd_d00df, Cond.instanceMethod yJx4a65c_rangeCheckForAdd_d00df, Cond.selects RJx4a65c yJx4a65c_rangeCheckForAdd_d00df yJx4a65c_rangeCheckForAdd_d00df, Cond.code yJx4a65c_add_7a177 cJx4a65c_add_7a177 5 none, Cond.classLink RX8 67 RX5, Cond.instantiable RX5 10, Cond.methodLink RX8 83 yX5_init]
def cW4 : List Cond := [Cond.instanceMethod yX5_init, Cond.methodLink RX8 86 yJx4a65c_add_7a177, Cond.instanceMethod yJx4a65c_add_7a177, Cond.selects RJx4a65c yJx4a65c_add_7a177 yJx4a65c_add_7a177, Cond.code yX8_ownPostings cX8_ownPostings 5 (some (.object "SearchMill$Postings")), Cond.classLink RX8 39 "SearchMill$Document", Cond.fieldLink RX8 45 "SearchMill$Text" "count" "I", Cond.methodLink RX8 41 yX0_textOf, Cond.methodLink RX8 50 yX9_isFirst, Cond.instanceMethod yX9_isFirst, Cond.selects RX9 yX9_isFirst yX9_isFirst, Cond.methodLink RX8 54 yX9_codeAt, Cond.methodLink RX8 58 yX8_ownPostings, Cond.static yX8_ownPostings, Cond.methodLink RX8 62 yX9_placesOf, Cond.methodLink RX8 66 yX5_putDocument, Cond.instanceMethod yX5_putDocument, Cond.selects RX5 yX5_putDocument yX5_putDocument, Cond.methodLink RX8 72 yX5_close, Cond.code yX8_readTexts cX8_readTexts 8 none, Cond.code yX9_putSign cX9_putSign 2 (some .int), Cond.code yX10_init cX10_init 2 none, Cond.methodLink RX10 3 objectInit, Cond.classLink RX10 9 RJx4a65c, Cond.fieldLink RX10 18 "SearchMill$View" "number" "I", Cond.methodLink RX10 11 yJx4a65c_init_da8c8, Cond.methodLink RX10 32 yJx4a65c_add_7a177, Cond.code yX10_put cX10_put 3 none, Cond.fieldLink RX10 36 "SearchMill$Holding" "segment" "LSearchMill$Segment;", Cond.code yX10_placeOf cX10_placeOf 3 (some .int), Cond.code yJx4a65c_fastRemove_b59b0 cJx4a65c_fastRemove_b59b0 4 none, Cond.code yJx4a65c_remove_915e3 cJx4a65c_remove_915e3 4 (some (.object "java/lang/Object")), Cond.methodLink RJx4a65c 144 yJx4a65c_fastRemove_b59b0, Cond.instanceMethod yJx4a65c_fastRemove_b59b0, Cond.selects RJx4a65c yJx4a65c_fastRemove_b59b0 yJx4a65c_fastRemove_b59b0, Cond.methodLink RX10 51 Lib.Math.min.name, Cond.methodLink RX10 40 yX10_placeOf, Cond.instanceMethod yX10_placeOf, Cond.selects RX10 yX10_placeOf yX10_placeOf, Cond.methodLink RX10 44 yX2_gather, Cond.instanceMethod yX2_gather, Cond.selects RX2 yX2_gather yX2_gather, Cond.methodLink RX10 48 yJx4a65c_remove_915e3, Cond.instanceMethod yJx4a65c_remove_915e3, Cond.selects RJx4a65c yJx4a65c_remove_915e3 yJx4a65c_remove_915e3, Cond.code yX10_takeOut cX10_takeOut 8 (some .int), Cond.classLink RX10 13 RX10, Cond.instantiable RX10 2, Cond.methodLink RX10 60 Lib.Math.max.name, Cond.methodLink RX10 57 yX10_init, Cond.instanceMethod yX10_init, Cond.methodLink RX10 63 yX2_copy, Cond.instanceMethod yX2_copy, Cond.selects RX2 yX2_copy yX2_copy, Cond.methodLink RX10 67 yJx4a65c_add_9ea2d, Cond.code yX10_copyOf cX10_copyOf 5 (some (.object "SearchMill$View")), Cond.methodLink RX10 70 yX10_at, Cond.code yX10_holdingOf cX10_holdingOf 2 (some (.object "SearchMill$Holding")), Cond.fieldLink RX10 81 "SearchMill$Segment" "documents" "Ljava/util/ArrayList;", Cond.classLink RX10 86 "SearchMill$Document", Cond.methodLink RX10 77 yX2_liveAt, Cond.code yX10_liveDocument cX10_liveDocument 4 (some (.object "SearchMill$Document")), Cond.methodLink RX10 88 yX2_kill, Cond.instanceMethod yX2_kill, Cond.selects RX2 yX2_kill yX2_kill, Cond.code yX10_kill cX10_kill 3 (some .boolean), Cond.methodLink RX10 92 yX8_tier, Cond.instanceMethod yX8_tier, Cond.selects RX8 yX8_tier yX8_tier, Cond.code yX10_duePlace cX10_duePlace 3 (some .int), Cond.methodLink RX10 95 yX10_holdingOf, Cond.instanceMethod yX10_holdingOf, Cond.selects RX10 yX10_holdingOf yX10_holdingOf, Cond.methodLink RX10 99 yX2_hasDead, Cond.instanceMethod yX2_hasDead, Cond.selects RX2 yX2_hasDead yX2_hasDead, Cond.methodLink RX10 103 yX2_isAlike, Cond.instanceMethod yX2_isAlike, Cond.selects RX2 yX2_isAlike yX2_isAlike, Cond.code yX10_changedSince cX10_changedSince 6 (some .int), Cond.fieldLink RX10 107 "SearchMill$Segment" "number" "I", Cond.code yX10_newFiles cX10_newFiles 5 (some .int), Cond.code yX10_deletionFiles cX10_deletionFiles 6 (some .int), Cond.methodLink RX11 1 objectInit, Cond.classLink RX11 7 RX3, Cond.instantiable RX3 9, Cond.fieldLink RX11 10 "SearchMill" "language" "LSearchMill$Language;", Cond.classLink RX11 16 RX0, Cond.instantiable RX0 5, Cond.fieldLink RX11 19 "SearchMill" "draft" "LSearchMill$Document;", Cond.classLink RX11 23 RJx4a65c, Cond.fieldLink RX11 26 "SearchMill" "buffer" "Ljava/util/ArrayList;", Cond.classLink RX11 30 RX10, Cond.fieldLink RX11 35 "SearchMill" "index" "LSearchMill$View;", Cond.fieldLink RX11 39 "SearchMill" "sources" "LSearchMill$View;", Cond.fieldLink RX11 42 "SearchMill" "copied" "I", Cond.fieldLink RX11 46 "SearchMill" "commit" "LSearchMill$View;", Cond.fieldLink RX11 49 "SearchMill" "prepared" "LSearchMill$View;", Cond.fieldLink RX11 52 "SearchMill" "snapshots" "Ljava/util/ArrayList;", Cond.fieldLink RX11 55 "SearchMill" "opened" "I", Cond.classLink RX11 58 RX6, Cond.instantiable RX6 5, Cond.fieldLink RX11 61 "SearchMill" "parts" "LSearchMill$Query;", Cond.fieldLink RX11 65 "SearchMill" "queries" "Ljava/util/ArrayList;", Cond.classLink RX11 68 RX7, Cond.instantiable RX7 7, Cond.fieldLink RX11 71 "SearchMill" "reader" "LSearchMill$Reader;", Cond.classLink RX11 75 RX1, Cond.instantiable RX1 14, Cond.fieldLink RX11 80 "SearchMill" "finder" "LSearchMill$Finder;", Cond.fieldLink RX11 84 "SearchMill" "made" "I", Cond.fieldLink RX11 87 "SearchMill" "finished" "I", Cond.fieldLink RX11 90 "SearchMill" "written" "I", Cond.fieldLink RX11 93 "SearchMill" "crashIn" "I", Cond.fieldLink RX11 96 "SearchMill" "isOff" "Z", Cond.instanceMethod yX3_init, Cond.instanceMethod yX0_init, Cond.methodLink RX11 25 yJx4a65c_init_da8c8, Cond.methodLink RX11 32 yX10_init, Cond.instanceMethod yX6_init, Cond.instanceMethod yX7_init, Cond.methodLink RX11 77 yX1_init, Cond.instanceMethod yX1_init, Cond.code yX11_init cX11_init 1 none, Cond.code yX11_type cX11_type 2 (some .int), Cond.classLink RX11 100 "java/lang/IllegalArgumentException", Cond.initialized "java/lang/IllegalArgumentException", Cond.classLink RX11 116 "java/lang/IllegalStateException", Cond.initialized "java/lang/IllegalStateException", Cond.fieldLink RX11 107 "SearchMill$Language" "pad" "LSearchMill$Text;", Cond.fieldLink RX11 111 "SearchMill$Text" "signCount" "I", Cond.methodLink RX11 121 yX9_putSign, Cond.instanceMethod yX9_putSign, Cond.selects RX9 yX9_putSign yX9_putSign, Cond.fieldLink RX11 133 "SearchMill$Language" "stopCount" "I", Cond.fieldLink RX11 136 "SearchMill$Language" "isFixed" "Z", Cond.methodLink RX11 129 yX3_readPad, Cond.instanceMethod yX3_readPad, Cond.selects RX3 yX3_readPad yX3_readPad, Cond.methodLink RX11 141 yX3_putStop, Cond.instanceMethod yX3_putStop, Cond.selects RX3 yX3_putStop yX3_putStop, Cond.code yX11_stop cX11_stop 1 (some .int), Cond.fieldLink RX11 144 "SearchMill$Language" "pairCount" "I", Cond.methodLink RX11 149 yX3_putPair, Cond.instanceMethod yX3_putPair, Cond.selects RX3 yX3_putPair yX3_putPair, Cond.code yX11_synonym cX11_synonym 1 (some .int), Cond.code yX11_checkField cX11_checkField 1 none, Cond.classLink RX11 269 "java/lang/IndexOutOfBoundsException", Cond.initialized "java/lang/IndexOutOfBoundsException", Cond.fieldLink RX11 163 "SearchMill$Text" "count" "I", Cond.methodLink RX11 152 yX11_checkField, Cond.static yX11_checkField, Cond.initialized RX11, Cond.methodLink RX11 125 yX3_takePad, Cond.instanceMethod yX3_takePad, Cond.selects RX3 yX3_takePad yX3_takePad, Cond.methodLink RX11 155 yX3_tokenise, Cond.methodLink RX11 159 yX0_putText]
def cW5 : List Cond := [Cond.instanceMethod yX0_putText, Cond.selects RX0 yX0_putText yX0_putText, Cond.code yX11_text cX11_text 3 (some .int), Cond.code yX11_columns cX11_columns 3 none, Cond.fieldLink RX11 168 "SearchMill$Document" "category" "I", Cond.fieldLink RX11 171 "SearchMill$Document" "number" "I", Cond.code yX11_checkKey cX11_checkKey 1 none, Cond.code yX11_checkUp cX11_checkUp 1 none, Cond.classLink RX11 16 "SearchMill$Document", Cond.fieldLink RX11 193 "SearchMill$Document" "key" "I", Cond.methodLink RX11 180 yJx4a65c_size_8abf5, Cond.methodLink RX11 277 yJx4a65c_get_915e3, Cond.code yX11_bufferPlaceOf cX11_bufferPlaceOf 3 (some .int), Cond.methodLink RX11 183 yX11_bufferPlaceOf, Cond.instanceMethod yX11_bufferPlaceOf, Cond.selects RX11 yX11_bufferPlaceOf yX11_bufferPlaceOf, Cond.methodLink RX11 321 yJx4a65c_remove_915e3, Cond.methodLink RX11 493 yX10_kill, Cond.instanceMethod yX10_kill, Cond.selects RX10 yX10_kill yX10_kill, Cond.code yX11_dropKey cX11_dropKey 3 (some .boolean), Cond.methodLink RX11 174 yX11_checkKey, Cond.static yX11_checkKey, Cond.methodLink RX11 177 yX11_checkUp, Cond.instanceMethod yX11_checkUp, Cond.selects RX11 yX11_checkUp yX11_checkUp, Cond.methodLink RX11 189 yX11_dropKey, Cond.instanceMethod yX11_dropKey, Cond.selects RX11 yX11_dropKey yX11_dropKey, Cond.methodLink RX11 196 yX0_textOf, Cond.methodLink RX11 200 yJx4a65c_add_9ea2d, Cond.code yX11_add cX11_add 2 (some .int), Cond.code yX11_delete cX11_delete 2 (some .boolean), Cond.code yJx4a65c_isEmpty_aae02 cJx4a65c_isEmpty_aae02 1 (some .boolean), Cond.code yJx4a65c_clear_da8c8 cJx4a65c_clear_da8c8 4 none, Cond.methodLink RX11 499 yJx4a65c_clear_da8c8, Cond.instanceMethod yJx4a65c_clear_da8c8, Cond.selects RJx4a65c yJx4a65c_clear_da8c8 yJx4a65c_clear_da8c8, Cond.methodLink RX11 502 yX1_forget, Cond.instanceMethod yX1_forget, Cond.selects RX1 yX1_forget yX1_forget, Cond.code yX11_goDown cX11_goDown 1 none, Cond.methodLink RX11 496 yX11_goDown, Cond.instanceMethod yX11_goDown, Cond.selects RX11 yX11_goDown yX11_goDown, Cond.code yX11_doWrite cX11_doWrite 1 (some .boolean), Cond.classLink RX11 265 RX8, Cond.instantiable RX8 4, Cond.fieldLink RX11 274 "SearchMill$Segment" "documents" "Ljava/util/ArrayList;", Cond.methodLink RX11 519 yX8_init, Cond.instanceMethod yX8_init, Cond.code yX11_newSegment cX11_newSegment 4 (some (.object "SearchMill$Segment")), Cond.classLink RX11 259 RX2, Cond.fieldLink RX11 264 "SearchMill$Segment" "number" "I", Cond.methodLink RX11 227 yX11_doWrite, Cond.instanceMethod yX11_doWrite, Cond.selects RX11 yX11_doWrite yX11_doWrite, Cond.methodLink RX11 505 yX11_newSegment, Cond.instanceMethod yX11_newSegment, Cond.selects RX11 yX11_newSegment yX11_newSegment, Cond.methodLink RX11 509 yX8_readTexts, Cond.instanceMethod yX8_readTexts, Cond.selects RX8 yX8_readTexts yX8_readTexts, Cond.methodLink RX11 240 yX10_size, Cond.methodLink RX11 512 yX2_init, Cond.methodLink RX11 515 yX10_put, Cond.instanceMethod yX10_put, Cond.selects RX10 yX10_put yX10_put, Cond.code yX11_flushBuffer cX11_flushBuffer 3 (some .int), Cond.methodLink RX11 206 yJx4a65c_isEmpty_aae02, Cond.instanceMethod yJx4a65c_isEmpty_aae02, Cond.selects RJx4a65c yJx4a65c_isEmpty_aae02 yJx4a65c_isEmpty_aae02, Cond.methodLink RX11 210 yX11_flushBuffer, Cond.instanceMethod yX11_flushBuffer, Cond.selects RX11 yX11_flushBuffer yX11_flushBuffer, Cond.code yX11_flush cX11_flush 1 (some .int), Cond.methodLink RX11 213 yX10_duePlace, Cond.instanceMethod yX10_duePlace, Cond.selects RX10 yX10_duePlace yX10_duePlace, Cond.code yX11_due cX11_due 1 (some .int), Cond.methodLink RX11 218 yX10_copyOf, Cond.instanceMethod yX10_copyOf, Cond.selects RX10 yX10_copyOf yX10_copyOf, Cond.methodLink RX11 222 yX10_liveCount, Cond.code yX11_merge cX11_merge 2 (some .int), Cond.methodLink RX11 520 yX10_takeOut, Cond.instanceMethod yX10_takeOut, Cond.selects RX10 yX10_takeOut yX10_takeOut, Cond.methodLink RX11 524 yX2_kill, Cond.code yX11_endMerge cX11_endMerge 8 none, Cond.methodLink RX11 230 yX11_endMerge, Cond.instanceMethod yX11_endMerge, Cond.selects RX11 yX11_endMerge yX11_endMerge, Cond.code yX11_step cX11_step 3 (some .int), Cond.code yX11_giveUp cX11_giveUp 2 (some .int), Cond.methodLink RX11 236 yX10_changedSince, Cond.instanceMethod yX10_changedSince, Cond.selects RX10 yX10_changedSince yX10_changedSince, Cond.code yX11_prepare cX11_prepare 3 (some .int), Cond.code yX11_finish cX11_finish 2 (some .int), Cond.code yX11_drop cX11_drop 1 none, Cond.code yX11_crashAt cX11_crashAt 2 none, Cond.code yX11_committed cX11_committed 2 (some (.object "SearchMill$View")), Cond.methodLink RX11 247 yX11_committed, Cond.instanceMethod yX11_committed, Cond.selects RX11 yX11_committed yX11_committed, Cond.code yX11_open cX11_open 1 (some .int), Cond.code yX11_isDown cX11_isDown 1 (some .boolean), Cond.classLink RX11 30 "SearchMill$View", Cond.methodLink RX11 525 yX10_newFiles, Cond.instanceMethod yX10_newFiles, Cond.selects RX10 yX10_newFiles yX10_newFiles, Cond.methodLink RX11 529 yX10_deletionFiles, Cond.instanceMethod yX10_deletionFiles, Cond.selects RX10 yX10_deletionFiles yX10_deletionFiles, Cond.code yX11_fileCount cX11_fileCount 4 (some .int), Cond.methodLink RX11 251 yX11_fileCount, Cond.instanceMethod yX11_fileCount, Cond.selects RX11 yX11_fileCount yX11_fileCount, Cond.code yX11_files cX11_files 1 (some .int), Cond.code yX11_writes cX11_writes 1 (some .int), Cond.code yX11_segments cX11_segments 1 (some .int), Cond.methodLink RX11 478 yX10_at, Cond.code yX11_holdingAt cX11_holdingAt 3 (some (.object "SearchMill$Holding")), Cond.fieldLink RX11 258 "SearchMill$Holding" "segment" "LSearchMill$Segment;", Cond.methodLink RX11 254 yX11_holdingAt, Cond.instanceMethod yX11_holdingAt, Cond.selects RX11 yX11_holdingAt yX11_holdingAt, Cond.code yX11_segmentAt cX11_segmentAt 2 (some .int), Cond.methodLink RX11 267 yX2_liveCount, Cond.code yX11_live cX11_live 2 (some .int), Cond.methodLink RX11 268 yX8_size, Cond.code yX11_keyAt cX11_keyAt 4 (some .int), Cond.fieldLink RX11 316 "SearchMill$View" "number" "I", Cond.code yX11_look cX11_look 3 (some .int), Cond.code yX11_snapshotOf cX11_snapshotOf 3 (some (.object "SearchMill$View")), Cond.methodLink RX11 317 yX11_snapshotOf, Cond.instanceMethod yX11_snapshotOf, Cond.selects RX11 yX11_snapshotOf yX11_snapshotOf, Cond.code yX11_shut cX11_shut 4 (some .int), Cond.code yX11_documents cX11_documents 2 (some .int), Cond.code yX11_checkLeaf cX11_checkLeaf 2 none, Cond.fieldLink RX11 385 "SearchMill$Query" "partCount" "I", Cond.fieldLink RX11 466 "SearchMill$Query" "leaves" "Ljava/util/ArrayList;", Cond.methodLink RX11 324 yX3_readPadTokens, Cond.instanceMethod yX3_readPadTokens, Cond.selects RX3 yX3_readPadTokens yX3_readPadTokens, Cond.methodLink RX11 327 yX11_checkLeaf, Cond.instanceMethod yX11_checkLeaf, Cond.selects RX11 yX11_checkLeaf yX11_checkLeaf, Cond.methodLink RX11 333 yX4_ofTokens, Cond.static yX4_ofTokens, Cond.methodLink RX11 337 yX6_putLeaf, Cond.instanceMethod yX6_putLeaf, Cond.selects RX6 yX6_putLeaf yX6_putLeaf, Cond.code yX11_term cX11_term 2 (some .int), Cond.code yX11_phrase cX11_phrase 4 (some .int), Cond.fieldLink RX11 345 "SearchMill$Node" "isOrdered" "Z", Cond.code yX11_near cX11_near 5 (some .int), Cond.methodLink RX11 348 yX3_wordAt]
def cW6 : List Cond := [Cond.methodLink RX11 352 yX4_ofPrefix, Cond.static yX4_ofPrefix, Cond.code yX11_prefix cX11_prefix 2 (some .int), Cond.methodLink RX11 356 yX4_isPattern, Cond.static yX4_isPattern, Cond.methodLink RX11 360 yX4_ofPattern, Cond.static yX4_ofPattern, Cond.code yX11_wild cX11_wild 2 (some .int), Cond.methodLink RX11 366 yX4_ofEdits, Cond.static yX4_ofEdits, Cond.code yX11_fuzzy cX11_fuzzy 3 (some .int), Cond.code yX11_checkParts cX11_checkParts 2 none, Cond.methodLink RX11 372 yX11_checkParts, Cond.instanceMethod yX11_checkParts, Cond.selects RX11 yX11_checkParts yX11_checkParts, Cond.methodLink RX11 375 yX4_ofParts, Cond.static yX4_ofParts, Cond.methodLink RX11 379 yX6_putGroup, Cond.instanceMethod yX6_putGroup, Cond.selects RX6 yX6_putGroup yX6_putGroup, Cond.code yX11_least cX11_least 3 (some .int), Cond.methodLink RX11 382 yX6_setLastAside, Cond.instanceMethod yX6_setLastAside, Cond.selects RX6 yX6_setLastAside yX6_setLastAside, Cond.code yX11_but cX11_but 1 (some .int), Cond.code yX11_query cX11_query 1 (some .int), Cond.classLink RX11 58 "SearchMill$Query", Cond.code yX11_queryOf cX11_queryOf 2 (some (.object "SearchMill$Query")), Cond.methodLink RX11 396 yX11_queryOf, Cond.instanceMethod yX11_queryOf, Cond.selects RX11 yX11_queryOf yX11_queryOf, Cond.methodLink RX11 402 yX1_search, Cond.instanceMethod yX1_search, Cond.selects RX1 yX1_search yX1_search, Cond.code yX11_find cX11_find 6 (some .int), Cond.code yX11_checkHit cX11_checkHit 2 none, Cond.fieldLink RX11 473 "SearchMill$Finder" "held" "I", Cond.code yX11_hitAt cX11_hitAt 2 (some .int), Cond.fieldLink RX11 409 "SearchMill$Finder" "hitKeys" "[I", Cond.methodLink RX11 406 yX11_checkHit, Cond.instanceMethod yX11_checkHit, Cond.selects RX11 yX11_checkHit yX11_checkHit, Cond.code yX11_rankAt cX11_rankAt 2 (some .int), Cond.fieldLink RX11 412 "SearchMill$Finder" "hitRanks" "[I", Cond.code yX11_skipped cX11_skipped 1 (some .int), Cond.fieldLink RX11 415 "SearchMill$Finder" "skippedBlocks" "I", Cond.code yX11_cached cX11_cached 1 (some .int), Cond.fieldLink RX11 418 "SearchMill$Finder" "takenMatches" "I", Cond.methodLink RX11 421 yX10_liveDocument, Cond.instanceMethod yX10_liveDocument, Cond.selects RX10 yX10_liveDocument yX10_liveDocument, Cond.methodLink RX11 425 yX7_scanRarities, Cond.instanceMethod yX7_scanRarities, Cond.selects RX7 yX7_scanRarities yX7_scanRarities, Cond.methodLink RX11 429 yX7_scanDocument, Cond.methodLink RX11 433 yX7_valueAt, Cond.code yX11_rankByScan cX11_rankByScan 7 (some .int), Cond.methodLink RX11 437 yX7_matched, Cond.instanceMethod yX7_matched, Cond.selects RX7 yX7_matched yX7_matched, Cond.code yX11_matches cX11_matches 5 (some .int), Cond.methodLink RX11 441 yX7_scannedCount, Cond.instanceMethod yX7_scannedCount, Cond.selects RX7 yX7_scannedCount yX7_scannedCount, Cond.code yX11_matchesByScan cX11_matchesByScan 5 (some .int), Cond.code yX11_facet cX11_facet 9 (some .int), Cond.code yX11_sortedPlace cX11_sortedPlace 8 (some .int), Cond.methodLink RX11 447 yX11_sortedPlace, Cond.static yX11_sortedPlace, Cond.code yX11_sortedAt cX11_sortedAt 9 (some .int), Cond.methodLink RX11 453 yX1_readPassages, Cond.instanceMethod yX1_readPassages, Cond.selects RX1 yX1_readPassages yX1_readPassages, Cond.code yX11_passages cX11_passages 7 (some .int), Cond.code yL_from cL_from 4 (some .int), Cond.constant RL 7 (231547), Cond.constant RL 8 (2147483647), Cond.code yL_word cL_word 4 (some .int), Cond.constantLong RL 9 (15), Cond.code yL_has cL_has 7 (some .boolean), Cond.methodLink RL 11 yL_word, Cond.static yL_word, Cond.initialized RL, Cond.code yL_count cL_count 6 (some .int), Cond.methodLink RL 17 yL_has, Cond.static yL_has, Cond.code yL_record cL_record 3 (some .int), Cond.constantLong RL 21 (63), Cond.code yL_leafCount cL_leafCount 6 (some .int), Cond.methodLink RL 23 yL_count, Cond.static yL_count, Cond.code yL_strength cL_strength 1 (some .int), Cond.code yL_rarity cL_rarity 12 (some .int), Cond.methodLink RL 26 yL_record, Cond.static yL_record, Cond.code yL_gains cL_gains 8 none, Cond.methodLink RL 30 yL_rarity, Cond.static yL_rarity, Cond.code yL_gives cL_gives 5 (some .int), Cond.methodLink RL 34 yL_leafCount, Cond.static yL_leafCount, Cond.methodLink RL 38 yL_strength, Cond.static yL_strength, Cond.code yL_rank cL_rank 7 (some .int), Cond.methodLink RL 42 yL_gives, Cond.static yL_gives, Cond.code yL_bound cL_bound 15 (some .int), Cond.methodLink RL 46 yL_gains, Cond.static yL_gains, Cond.methodLink RL 50 yL_bound, Cond.static yL_bound, Cond.methodLink RL 54 yL_rank, Cond.static yL_rank, Cond.code yL_find cL_find 21 none, Cond.code yL_writes cL_writes 4 (some .boolean), Cond.code yL_flushed cL_flushed 13 (some .int), Cond.methodLink RL 57 yL_writes, Cond.static yL_writes, Cond.code yL_tier cL_tier 1 (some .int), Cond.code yL_due cL_due 5 (some .int), Cond.methodLink RL 61 yL_tier, Cond.static yL_tier, Cond.code yL_names cL_names 5 none, Cond.code yL_isIn cL_isIn 4 (some .boolean), Cond.code yL_files cL_files 13 (some .int), Cond.methodLink RL 64 yL_isIn, Cond.static yL_isIn, Cond.code yL_ones cL_ones 3 (some .int), Cond.classLink RL 73 "java/lang/IllegalStateException", Cond.methodLink RL 68 yX11_add, Cond.instanceMethod yX11_add, Cond.selects RX11 yX11_add yX11_add, Cond.codeWith yL_added cL_added 3 (some .int) [(0, 5, 6, 73)], Cond.methodLink RL 75 yX11_delete, Cond.instanceMethod yX11_delete, Cond.selects RX11 yX11_delete yX11_delete, Cond.codeWith yL_deleted cL_deleted 3 (some .int) [(0, 13, 14, 73)], Cond.methodLink RL 79 yX11_flush, Cond.instanceMethod yX11_flush, Cond.selects RX11 yX11_flush yX11_flush, Cond.methodLink RL 83 yX11_merge, Cond.instanceMethod yX11_merge, Cond.selects RX11 yX11_merge yX11_merge, Cond.methodLink RL 86 yX11_step, Cond.instanceMethod yX11_step, Cond.selects RX11 yX11_step yX11_step, Cond.methodLink RL 89 yX11_giveUp, Cond.instanceMethod yX11_giveUp, Cond.selects RX11 yX11_giveUp yX11_giveUp, Cond.methodLink RL 92 yX11_prepare, Cond.instanceMethod yX11_prepare, Cond.selects RX11 yX11_prepare yX11_prepare, Cond.methodLink RL 95 yX11_finish, Cond.instanceMethod yX11_finish, Cond.selects RX11 yX11_finish yX11_finish, Cond.methodLink RL 98 yX11_open, Cond.instanceMethod yX11_open, Cond.selects RX11 yX11_open yX11_open, Cond.methodLink RL 101 yX11_files, Cond.instanceMethod yX11_files]
def cW7 : List Cond := [Cond.selects RX11 yX11_files yX11_files, Cond.methodLink RL 104 yX11_due, Cond.instanceMethod yX11_due, Cond.selects RX11 yX11_due yX11_due, Cond.methodLink RL 107 yX11_segments, Cond.instanceMethod yX11_segments, Cond.selects RX11 yX11_segments yX11_segments, Cond.codeWith yL_did cL_did 3 (some .int) [(0, 114, 115, 73)], Cond.methodLink RL 110 yX11_look, Cond.instanceMethod yX11_look, Cond.selects RX11 yX11_look yX11_look, Cond.codeWith yL_looked cL_looked 3 (some .int) [(0, 5, 6, 73)], Cond.code yL_types cL_types 2 none, Cond.methodLink RL 114 yX11_type, Cond.instanceMethod yX11_type, Cond.selects RX11 yX11_type yX11_type, Cond.methodLink RL 118 yL_types, Cond.static yL_types, Cond.methodLink RL 122 yX11_stop, Cond.instanceMethod yX11_stop, Cond.selects RX11 yX11_stop yX11_stop, Cond.methodLink RL 125 yX11_synonym, Cond.instanceMethod yX11_synonym, Cond.selects RX11 yX11_synonym yX11_synonym, Cond.methodLink RL 128 yX11_term, Cond.instanceMethod yX11_term, Cond.selects RX11 yX11_term yX11_term, Cond.methodLink RL 131 yX11_query, Cond.instanceMethod yX11_query, Cond.selects RX11 yX11_query yX11_query, Cond.methodLink RL 134 yX11_phrase, Cond.instanceMethod yX11_phrase, Cond.selects RX11 yX11_phrase yX11_phrase, Cond.methodLink RL 138 yX11_near, Cond.instanceMethod yX11_near, Cond.selects RX11 yX11_near yX11_near, Cond.methodLink RL 142 yX11_prefix, Cond.instanceMethod yX11_prefix, Cond.selects RX11 yX11_prefix yX11_prefix, Cond.methodLink RL 145 yX11_wild, Cond.instanceMethod yX11_wild, Cond.selects RX11 yX11_wild yX11_wild, Cond.methodLink RL 148 yX11_fuzzy, Cond.instanceMethod yX11_fuzzy, Cond.selects RX11 yX11_fuzzy yX11_fuzzy, Cond.methodLink RL 151 yX11_least, Cond.instanceMethod yX11_least, Cond.selects RX11 yX11_least yX11_least, Cond.methodLink RL 154 yX11_but, Cond.instanceMethod yX11_but, Cond.selects RX11 yX11_but yX11_but, Cond.code yL_isReady cL_isReady 2 (some .boolean), Cond.code yL_tokens cL_tokens 6 (some .int), Cond.methodLink RL 157 yL_find, Cond.static yL_find, Cond.methodLink RL 161 yX11_find, Cond.instanceMethod yX11_find, Cond.selects RX11 yX11_find yX11_find, Cond.methodLink RL 164 yX11_skipped, Cond.instanceMethod yX11_skipped, Cond.selects RX11 yX11_skipped yX11_skipped, Cond.methodLink RL 167 yX11_cached, Cond.instanceMethod yX11_cached, Cond.selects RX11 yX11_cached yX11_cached, Cond.methodLink RL 170 yX11_hitAt, Cond.instanceMethod yX11_hitAt, Cond.selects RX11 yX11_hitAt yX11_hitAt, Cond.methodLink RL 173 yX11_rankAt, Cond.instanceMethod yX11_rankAt, Cond.selects RX11 yX11_rankAt yX11_rankAt, Cond.code yL_isFound cL_isFound 13 (some .boolean), Cond.methodLink RL 176 yX11_documents, Cond.instanceMethod yX11_documents, Cond.selects RX11 yX11_documents yX11_documents, Cond.methodLink RL 179 yX11_matches, Cond.instanceMethod yX11_matches, Cond.selects RX11 yX11_matches yX11_matches, Cond.methodLink RL 182 yX11_matchesByScan, Cond.instanceMethod yX11_matchesByScan, Cond.selects RX11 yX11_matchesByScan yX11_matchesByScan, Cond.methodLink RL 185 yX11_facet, Cond.instanceMethod yX11_facet, Cond.selects RX11 yX11_facet yX11_facet, Cond.methodLink RL 188 yX11_rankByScan, Cond.instanceMethod yX11_rankByScan, Cond.selects RX11 yX11_rankByScan yX11_rankByScan, Cond.methodLink RL 191 yX11_sortedAt, Cond.instanceMethod yX11_sortedAt, Cond.selects RX11 yX11_sortedAt yX11_sortedAt, Cond.methodLink RL 195 yX11_passages, Cond.instanceMethod yX11_passages, Cond.selects RX11 yX11_passages yX11_passages, Cond.code yL_isPlain cL_isPlain 24 (some .boolean), Cond.methodLink RL 199 yX11_isDown, Cond.instanceMethod yX11_isDown, Cond.selects RX11 yX11_isDown yX11_isDown, Cond.methodLink RL 203 yX11_writes, Cond.instanceMethod yX11_writes, Cond.selects RX11 yX11_writes yX11_writes, Cond.methodLink RL 205 yL_did, Cond.static yL_did, Cond.methodLink RL 209 yL_due, Cond.static yL_due, Cond.methodLink RL 212 yL_files, Cond.static yL_files, Cond.methodLink RL 215 yX11_segmentAt, Cond.instanceMethod yX11_segmentAt, Cond.selects RX11 yX11_segmentAt yX11_segmentAt, Cond.methodLink RL 218 yX11_live, Cond.instanceMethod yX11_live, Cond.selects RX11 yX11_live yX11_live, Cond.methodLink RL 221 yL_ones, Cond.static yL_ones, Cond.methodLink RL 224 yX11_keyAt, Cond.instanceMethod yX11_keyAt, Cond.selects RX11 yX11_keyAt yX11_keyAt, Cond.code yL_isIndex cL_isIndex 14 (some .boolean), Cond.code yL_deletes cL_deletes 13 (some .int), Cond.constant RL 227 (65535), Cond.methodLink RL 228 yX11_text, Cond.instanceMethod yX11_text, Cond.selects RX11 yX11_text yX11_text, Cond.methodLink RL 231 yL_tokens, Cond.static yL_tokens, Cond.methodLink RL 234 yX11_columns, Cond.instanceMethod yX11_columns, Cond.selects RX11 yX11_columns yX11_columns, Cond.methodLink RL 238 yL_added, Cond.static yL_added, Cond.methodLink RL 241 yL_deletes, Cond.static yL_deletes, Cond.code yL_isAdded cL_isAdded 18 (some .boolean), Cond.code yL_isMerged cL_isMerged 16 (some .boolean), Cond.code yL_copy cL_copy 3 (some (.array .int)), Cond.methodLink RL 245 yL_flushed, Cond.static yL_flushed, Cond.methodLink RL 249 yL_names, Cond.static yL_names, Cond.methodLink RL 253 yX11_drop, Cond.instanceMethod yX11_drop, Cond.selects RX11 yX11_drop yX11_drop, Cond.methodLink RL 256 yL_copy, Cond.static yL_copy, Cond.code yL_isCommitted cL_isCommitted 17 (some .boolean), Cond.code yL_opens cL_opens 7 (some .boolean), Cond.methodLink RL 260 yL_looked, Cond.static yL_looked, Cond.code yL_looks cL_looks 9 (some .boolean), Cond.classLink RL 69 RX11, Cond.instantiable RX11 19, Cond.constant RL 269 (10000000), Cond.methodLink RL 264 yX11_init, Cond.instanceMethod yX11_init, Cond.methodLink RL 265 yL_isReady, Cond.static yL_isReady, Cond.methodLink RL 270 yL_from, Cond.static yL_from, Cond.methodLink RL 274 yL_isAdded, Cond.static yL_isAdded, Cond.methodLink RL 278 yL_deleted]
def cW8 : List Cond := [Cond.static yL_deleted, Cond.methodLink RL 281 yL_isMerged, Cond.static yL_isMerged, Cond.methodLink RL 285 yL_isCommitted, Cond.static yL_isCommitted, Cond.methodLink RL 289 yX11_crashAt, Cond.instanceMethod yX11_crashAt, Cond.selects RX11 yX11_crashAt yX11_crashAt, Cond.methodLink RL 293 yL_opens, Cond.static yL_opens, Cond.methodLink RL 297 yL_looks, Cond.static yL_looks, Cond.methodLink RL 301 yX11_shut, Cond.instanceMethod yX11_shut, Cond.selects RX11 yX11_shut yX11_shut, Cond.methodLink RL 304 yL_isFound, Cond.static yL_isFound, Cond.methodLink RL 308 yL_isPlain, Cond.static yL_isPlain, Cond.methodLink RL 312 yL_isIndex, Cond.static yL_isIndex, Cond.code yL_holds cL_holds 24 (some .boolean), Cond.classLink RL 320 "java/lang/IndexOutOfBoundsException", Cond.methodLink RL 316 yL_holds, Cond.static yL_holds, Cond.codeWith yL_isHeld cL_isHeld 2 (some .boolean) [(0, 4, 5, 320), (0, 4, 8, 322), (0, 4, 11, 73)], Cond.methodLink RL 324 yL_isHeld, Cond.static yL_isHeld]
def cWl : List Cond := wsX00 ++ wsX10 ++ wsX20 ++ wsX30 ++ wsX40 ++ wsX50 ++ wsX60 ++ wsX70 ++ wsX80 ++ wsX90 ++ wsX100 ++ wsX110 ++ wsJx4a65c0
def cWx : List Cond := (vx_atS RX11 104 "java/lang/IllegalArgumentException" ["java/lang/RuntimeException", "java/lang/Exception"]).filter goodWord ++ (vx_atS RX11 120 "java/lang/IllegalStateException" ["java/lang/RuntimeException", "java/lang/Exception"]).filter goodWord ++ (vx_atS RX11 273 "java/lang/IndexOutOfBoundsException" ["java/lang/RuntimeException", "java/lang/Exception"]).filter goodWord
def cWs : List Cond := cW0 ++ (cW1 ++ (cW2 ++ (cW3 ++ (cW4 ++ (cW5 ++ (cW6 ++ (cW7 ++ (cW8 ++ (cWl ++ (cWx))))))))))
theorem cWs_cW0 : ∀ w ∈ cW0, w ∈ cWs := fun _ h => List.mem_append_left _ h
theorem cWs_cW1 : ∀ w ∈ cW1, w ∈ cWs := fun _ h => List.mem_append_right _ (List.mem_append_left _ h)
theorem cWs_cW2 : ∀ w ∈ cW2, w ∈ cWs := fun _ h => List.mem_append_right _ (List.mem_append_right _ (List.mem_append_left _ h))
theorem cWs_cW3 : ∀ w ∈ cW3, w ∈ cWs := fun _ h => List.mem_append_right _ (List.mem_append_right _ (List.mem_append_right _ (List.mem_append_left _ h)))
theorem cWs_cW4 : ∀ w ∈ cW4, w ∈ cWs := fun _ h => List.mem_append_right _ (List.mem_append_right _ (List.mem_append_right _ (List.mem_append_right _ (List.mem_append_left _ h))))
theorem cWs_cW5 : ∀ w ∈ cW5, w ∈ cWs := fun _ h => List.mem_append_right _ (List.mem_append_right _ (List.mem_append_right _ (List.mem_append_right _ (List.mem_append_right _ (List.mem_append_left _ h)))))
theorem cWs_cW6 : ∀ w ∈ cW6, w ∈ cWs := fun _ h => List.mem_append_right _ (List.mem_append_right _ (List.mem_append_right _ (List.mem_append_right _ (List.mem_append_right _ (List.mem_append_right _ (List.mem_append_left _ h))))))
theorem cWs_cW7 : ∀ w ∈ cW7, w ∈ cWs := fun _ h => List.mem_append_right _ (List.mem_append_right _ (List.mem_append_right _ (List.mem_append_right _ (List.mem_append_right _ (List.mem_append_right _ (List.mem_append_right _ (List.mem_append_left _ h)))))))
theorem cWs_cW8 : ∀ w ∈ cW8, w ∈ cWs := fun _ h => List.mem_append_right _ (List.mem_append_right _ (List.mem_append_right _ (List.mem_append_right _ (List.mem_append_right _ (List.mem_append_right _ (List.mem_append_right _ (List.mem_append_right _ (List.mem_append_left _ h))))))))
theorem cWs_cWl : ∀ w ∈ cWl, w ∈ cWs := fun _ h => List.mem_append_right _ (List.mem_append_right _ (List.mem_append_right _ (List.mem_append_right _ (List.mem_append_right _ (List.mem_append_right _ (List.mem_append_right _ (List.mem_append_right _ (List.mem_append_right _ (List.mem_append_left _ h)))))))))
theorem cWs_cWx : ∀ w ∈ cWx, w ∈ cWs := fun _ h => List.mem_append_right _ (List.mem_append_right _ (List.mem_append_right _ (List.mem_append_right _ (List.mem_append_right _ (List.mem_append_right _ (List.mem_append_right _ (List.mem_append_right _ (List.mem_append_right _ (List.mem_append_right _ (h))))))))))
set_option maxRecDepth 20000 in
theorem cWs_good : GoodIn cWs cWs := goodIn_sub (fun _ h => h) (by decide +kernel)
theorem cWs_i0 {w : Cond} (i : Nat) (h : cW0[i]? = some w) : w ∈ cWs := cWs_cW0 _ (List.mem_of_getElem? h)
theorem cWs_i1 {w : Cond} (i : Nat) (h : cW1[i]? = some w) : w ∈ cWs := cWs_cW1 _ (List.mem_of_getElem? h)
theorem cWs_i2 {w : Cond} (i : Nat) (h : cW2[i]? = some w) : w ∈ cWs := cWs_cW2 _ (List.mem_of_getElem? h)
theorem cWs_i3 {w : Cond} (i : Nat) (h : cW3[i]? = some w) : w ∈ cWs := cWs_cW3 _ (List.mem_of_getElem? h)
theorem cWs_i4 {w : Cond} (i : Nat) (h : cW4[i]? = some w) : w ∈ cWs := cWs_cW4 _ (List.mem_of_getElem? h)
theorem cWs_i5 {w : Cond} (i : Nat) (h : cW5[i]? = some w) : w ∈ cWs := cWs_cW5 _ (List.mem_of_getElem? h)
theorem cWs_i6 {w : Cond} (i : Nat) (h : cW6[i]? = some w) : w ∈ cWs := cWs_cW6 _ (List.mem_of_getElem? h)
theorem cWs_i7 {w : Cond} (i : Nat) (h : cW7[i]? = some w) : w ∈ cWs := cWs_cW7 _ (List.mem_of_getElem? h)
theorem cWs_i8 {w : Cond} (i : Nat) (h : cW8[i]? = some w) : w ∈ cWs := cWs_cW8 _ (List.mem_of_getElem? h)
theorem cWs_wsX00 : ∀ w ∈ wsX00, w ∈ cWs := fun _ h => cWs_cWl _ (List.mem_append_left _ (List.mem_append_left _ (List.mem_append_left _ (List.mem_append_left _ (List.mem_append_left _ (List.mem_append_left _ (List.mem_append_left _ (List.mem_append_left _ (List.mem_append_left _ (List.mem_append_left _ (List.mem_append_left _ (List.mem_append_left _ (h)))))))))))))
theorem cWs_wsX10 : ∀ w ∈ wsX10, w ∈ cWs := fun _ h => cWs_cWl _ (List.mem_append_left _ (List.mem_append_left _ (List.mem_append_left _ (List.mem_append_left _ (List.mem_append_left _ (List.mem_append_left _ (List.mem_append_left _ (List.mem_append_left _ (List.mem_append_left _ (List.mem_append_left _ (List.mem_append_left _ (List.mem_append_right _ h))))))))))))
theorem cWs_wsX20 : ∀ w ∈ wsX20, w ∈ cWs := fun _ h => cWs_cWl _ (List.mem_append_left _ (List.mem_append_left _ (List.mem_append_left _ (List.mem_append_left _ (List.mem_append_left _ (List.mem_append_left _ (List.mem_append_left _ (List.mem_append_left _ (List.mem_append_left _ (List.mem_append_left _ (List.mem_append_right _ h)))))))))))
theorem cWs_wsX30 : ∀ w ∈ wsX30, w ∈ cWs := fun _ h => cWs_cWl _ (List.mem_append_left _ (List.mem_append_left _ (List.mem_append_left _ (List.mem_append_left _ (List.mem_append_left _ (List.mem_append_left _ (List.mem_append_left _ (List.mem_append_left _ (List.mem_append_left _ (List.mem_append_right _ h))))))))))
theorem cWs_wsX40 : ∀ w ∈ wsX40, w ∈ cWs := fun _ h => cWs_cWl _ (List.mem_append_left _ (List.mem_append_left _ (List.mem_append_left _ (List.mem_append_left _ (List.mem_append_left _ (List.mem_append_left _ (List.mem_append_left _ (List.mem_append_left _ (List.mem_append_right _ h)))))))))
theorem cWs_wsX50 : ∀ w ∈ wsX50, w ∈ cWs := fun _ h => cWs_cWl _ (List.mem_append_left _ (List.mem_append_left _ (List.mem_append_left _ (List.mem_append_left _ (List.mem_append_left _ (List.mem_append_left _ (List.mem_append_left _ (List.mem_append_right _ h))))))))
theorem cWs_wsX60 : ∀ w ∈ wsX60, w ∈ cWs := fun _ h => cWs_cWl _ (List.mem_append_left _ (List.mem_append_left _ (List.mem_append_left _ (List.mem_append_left _ (List.mem_append_left _ (List.mem_append_left _ (List.mem_append_right _ h)))))))
theorem cWs_wsX70 : ∀ w ∈ wsX70, w ∈ cWs := fun _ h => cWs_cWl _ (List.mem_append_left _ (List.mem_append_left _ (List.mem_append_left _ (List.mem_append_left _ (List.mem_append_left _ (List.mem_append_right _ h))))))
theorem cWs_wsX80 : ∀ w ∈ wsX80, w ∈ cWs := fun _ h => cWs_cWl _ (List.mem_append_left _ (List.mem_append_left _ (List.mem_append_left _ (List.mem_append_left _ (List.mem_append_right _ h)))))
theorem cWs_wsX90 : ∀ w ∈ wsX90, w ∈ cWs := fun _ h => cWs_cWl _ (List.mem_append_left _ (List.mem_append_left _ (List.mem_append_left _ (List.mem_append_right _ h))))
theorem cWs_wsX100 : ∀ w ∈ wsX100, w ∈ cWs := fun _ h => cWs_cWl _ (List.mem_append_left _ (List.mem_append_left _ (List.mem_append_right _ h)))
theorem cWs_wsX110 : ∀ w ∈ wsX110, w ∈ cWs := fun _ h => cWs_cWl _ (List.mem_append_left _ (List.mem_append_right _ h))
theorem cWs_wsJx4a65c0 : ∀ w ∈ wsJx4a65c0, w ∈ cWs := fun _ h => cWs_cWl _ (List.mem_append_right _ h)
def cStr : List (Nat × String) := [(102, "the sign is out of range"), (118, "the pad is full"), (139, "no stop word can be told now"), (147, "no synonym can be told now"), (166, "the category or the number is out of range"), (187, "the buffer is full"), (204, "no more segments can be made"), (216, "no merge can be begun now"), (225, "no merge is under way"), (234, "no commit can be prepared now"), (241, "no commit is prepared"), (243, "the number of writes is out of range"), (245, "the machine is not DOWN"), (271, "there is no such document"), (314, "too many snapshots are open"), (341, "the slop is out of range"), (343, "the distance is out of range"), (364, "the number of edits is out of range"), (370, "the number of parts is out of range"), (388, "no query can be made now"), (400, "the number of hits is out of range"), (445, "the category is out of range"), (451, "there are not so many"), (460, "there is no such field"), (462, "there is no such key"), (464, "the machine is DOWN"), (469, "no such leaf can be put now"), (471, "there are fewer parts"), (476, "there are not so many hits"), (481, "there is no such place"), (489, "there is no such snapshot"), (491, "there is no such query")]
def kF : List (List Nat) := [[0, 0, 0, 1, 1], [1, 0, 1, 1, 0, 0, 0, 0, 1, 1, 1, 1, 1, 1], [1, 1], [1, 1, 0, 1, 0, 1, 1, 0, 0], [0, 0, 0, 0, 0, 0, 1, 1, 1, 2, 1], [2, 1, 0, 0, 0, 1, 0, 0, 0, 0], [1, 1, 1, 0, 1], [1, 1, 1, 1, 1, 1, 1], [0, 1, 1, 1], [1, 0, 1, 1, 0], [0, 1], [1, 1, 1, 1, 1, 0, 1, 1, 1, 0, 1, 1, 1, 1, 0, 0, 0, 0, 0], [0, 1, 0]]
set_option maxRecDepth 20000 in
theorem cl_X9_9 : Cond.fieldLink RX9 9 RX9 (TX9 0).2.1 (TX9 0).2.2.1 ∈ cWs := cWs_i0 5 rfl
set_option maxRecDepth 20000 in
theorem cl_X9_15 : Cond.fieldLink RX9 15 RX9 (TX9 1).2.1 (TX9 1).2.2.1 ∈ cWs := cWs_i0 6 rfl
set_option maxRecDepth 20000 in
theorem cl_X9_19 : Cond.fieldLink RX9 19 RX9 (TX9 2).2.1 (TX9 2).2.2.1 ∈ cWs := cWs_i0 8 rfl
set_option maxRecDepth 20000 in
theorem cl_X9_23 : Cond.fieldLink RX9 23 RX9 (TX9 3).2.1 (TX9 3).2.2.1 ∈ cWs := cWs_i0 9 rfl
set_option maxRecDepth 20000 in
theorem cl_X9_26 : Cond.fieldLink RX9 26 RX9 (TX9 4).2.1 (TX9 4).2.2.1 ∈ cWs := cWs_i0 10 rfl
set_option maxRecDepth 20000 in
theorem cl_X0_9 : Cond.fieldLink RX0 9 RX0 (TX0 0).2.1 (TX0 0).2.2.1 ∈ cWs := cWs_i0 13 rfl
set_option maxRecDepth 20000 in
theorem cl_X0_15 : Cond.fieldLink RX0 15 RX0 (TX0 1).2.1 (TX0 1).2.2.1 ∈ cWs := cWs_i0 14 rfl
set_option maxRecDepth 20000 in
theorem cl_X0_18 : Cond.fieldLink RX0 18 RX0 (TX0 2).2.1 (TX0 2).2.2.1 ∈ cWs := cWs_i0 15 rfl
set_option maxRecDepth 20000 in
theorem cl_X0_24 : Cond.fieldLink RX0 24 RX0 (TX0 3).2.1 (TX0 3).2.2.1 ∈ cWs := cWs_i0 19 rfl
set_option maxRecDepth 20000 in
theorem cl_X0_28 : Cond.fieldLink RX0 28 RX0 (TX0 4).2.1 (TX0 4).2.2.1 ∈ cWs := cWs_i0 20 rfl
set_option maxRecDepth 20000 in
theorem cl_X1_9 : Cond.fieldLink RX1 9 RX1 (TX1 1).2.1 (TX1 1).2.2.1 ∈ cWs := cWs_i0 26 rfl
set_option maxRecDepth 20000 in
theorem cl_X1_15 : Cond.fieldLink RX1 15 RX1 (TX1 2).2.1 (TX1 2).2.2.1 ∈ cWs := cWs_i0 27 rfl
set_option maxRecDepth 20000 in
theorem cl_X1_19 : Cond.fieldLink RX1 19 RX1 (TX1 3).2.1 (TX1 3).2.2.1 ∈ cWs := cWs_i0 28 rfl
set_option maxRecDepth 20000 in
theorem cl_X1_22 : Cond.fieldLink RX1 22 RX1 (TX1 4).2.1 (TX1 4).2.2.1 ∈ cWs := cWs_i0 29 rfl
set_option maxRecDepth 20000 in
theorem cl_X1_25 : Cond.fieldLink RX1 25 RX1 (TX1 5).2.1 (TX1 5).2.2.1 ∈ cWs := cWs_i0 30 rfl
set_option maxRecDepth 20000 in
theorem cl_X1_28 : Cond.fieldLink RX1 28 RX1 (TX1 6).2.1 (TX1 6).2.2.1 ∈ cWs := cWs_i0 31 rfl
set_option maxRecDepth 20000 in
theorem cl_X1_31 : Cond.fieldLink RX1 31 RX1 (TX1 7).2.1 (TX1 7).2.2.1 ∈ cWs := cWs_i0 32 rfl
set_option maxRecDepth 20000 in
theorem cl_X1_34 : Cond.fieldLink RX1 34 RX1 (TX1 8).2.1 (TX1 8).2.2.1 ∈ cWs := cWs_i0 33 rfl
set_option maxRecDepth 20000 in
theorem cl_X1_37 : Cond.fieldLink RX1 37 RX1 (TX1 9).2.1 (TX1 9).2.2.1 ∈ cWs := cWs_i0 34 rfl
set_option maxRecDepth 20000 in
theorem cl_X1_40 : Cond.fieldLink RX1 40 RX1 (TX1 10).2.1 (TX1 10).2.2.1 ∈ cWs := cWs_i0 35 rfl
set_option maxRecDepth 20000 in
theorem cl_X1_45 : Cond.fieldLink RX1 45 RX1 (TX1 11).2.1 (TX1 11).2.2.1 ∈ cWs := cWs_i0 37 rfl
set_option maxRecDepth 20000 in
theorem cl_X1_48 : Cond.fieldLink RX1 48 RX1 (TX1 12).2.1 (TX1 12).2.2.1 ∈ cWs := cWs_i0 38 rfl
set_option maxRecDepth 20000 in
theorem cl_X1_51 : Cond.fieldLink RX1 51 RX1 (TX1 13).2.1 (TX1 13).2.2.1 ∈ cWs := cWs_i0 39 rfl
set_option maxRecDepth 20000 in
theorem cl_X1_54 : Cond.fieldLink RX1 54 RX1 (TX1 0).2.1 (TX1 0).2.2.1 ∈ cWs := cWs_i0 40 rfl
set_option maxRecDepth 20000 in
theorem cl_Jx4a65c_48 : Cond.fieldLink RJx4a65c 48 RJx4a65c (TJx4a65c 2).2.1 (TJx4a65c 2).2.2.1 ∈ cWs := cWs_i0 43 rfl
set_option maxRecDepth 20000 in
theorem cl_Jx4a65c_9 : Cond.fieldLink RJx4a65c 9 RJx4a65c (TJx4a65c 1).2.1 (TJx4a65c 1).2.2.1 ∈ cWs := cWs_i0 50 rfl
set_option maxRecDepth 20000 in
theorem cl_X2_21 : Cond.fieldLink RX2 21 RX2 (TX2 1).2.1 (TX2 1).2.2.1 ∈ cWs := cWs_i0 60 rfl
set_option maxRecDepth 20000 in
theorem cl_X10_12 : Cond.fieldLink RX10 12 RX10 (TX10 1).2.1 (TX10 1).2.2.1 ∈ cWs := cWs_i0 61 rfl
set_option maxRecDepth 20000 in
theorem cl_X4_22 : Cond.fieldLink RX4 22 RX4 (TX4 6).2.1 (TX4 6).2.2.1 ∈ cWs := cWs_i0 75 rfl
set_option maxRecDepth 20000 in
theorem cl_X8_16 : Cond.fieldLink RX8 16 RX8 (TX8 2).2.1 (TX8 2).2.2.1 ∈ cWs := cWs_i0 80 rfl
set_option maxRecDepth 20000 in
theorem cl_X8_19 : Cond.fieldLink RX8 19 RX8 (TX8 3).2.1 (TX8 3).2.2.1 ∈ cWs := cWs_i0 81 rfl
set_option maxRecDepth 20000 in
theorem cl_X8_79 : Cond.fieldLink RX8 79 RX5 (TX5 0).2.1 (TX5 0).2.2.1 ∈ cWs := cWs_i0 83 rfl
set_option maxRecDepth 20000 in
theorem cl_X5_32 : Cond.fieldLink RX5 32 RX5 (TX5 7).2.1 (TX5 7).2.2.1 ∈ cWs := cWs_i0 96 rfl
set_option maxRecDepth 20000 in
theorem cl_X5_9 : Cond.fieldLink RX5 9 RX5 (TX5 1).2.1 (TX5 1).2.2.1 ∈ cWs := cWs_i0 97 rfl
set_option maxRecDepth 20000 in
theorem cl_X5_35 : Cond.fieldLink RX5 35 RX5 (TX5 8).2.1 (TX5 8).2.2.1 ∈ cWs := cWs_i0 99 rfl
set_option maxRecDepth 20000 in
theorem cl_X5_38 : Cond.fieldLink RX5 38 RX5 (TX5 9).2.1 (TX5 9).2.2.1 ∈ cWs := cWs_i0 100 rfl
set_option maxRecDepth 20000 in
theorem cl_X5_19 : Cond.fieldLink RX5 19 RX5 (TX5 3).2.1 (TX5 3).2.2.1 ∈ cWs := cWs_i0 106 rfl
set_option maxRecDepth 20000 in
theorem cl_X7_82 : Cond.fieldLink RX7 82 RX2 (TX2 0).2.1 (TX2 0).2.2.1 ∈ cWs := cWs_i0 115 rfl
set_option maxRecDepth 20000 in
theorem cl_X7_23 : Cond.fieldLink RX7 23 RX7 (TX7 3).2.1 (TX7 3).2.2.1 ∈ cWs := cWs_i0 116 rfl
set_option maxRecDepth 20000 in
theorem cl_X7_41 : Cond.fieldLink RX7 41 RX6 (TX6 1).2.1 (TX6 1).2.2.1 ∈ cWs := cWs_i0 142 rfl
set_option maxRecDepth 20000 in
theorem cl_X7_29 : Cond.fieldLink RX7 29 RX7 (TX7 5).2.1 (TX7 5).2.2.1 ∈ cWs := cWs_i0 143 rfl
set_option maxRecDepth 20000 in
theorem cl_X7_61 : Cond.fieldLink RX7 61 RX4 (TX4 1).2.1 (TX4 1).2.2.1 ∈ cWs := cWs_i0 145 rfl
set_option maxRecDepth 20000 in
theorem cl_X4_40 : Cond.fieldLink RX4 40 RX4 (TX4 0).2.1 (TX4 0).2.2.1 ∈ cWs := cWs_i1 6 rfl
set_option maxRecDepth 20000 in
theorem cl_X8_10 : Cond.fieldLink RX8 10 RX8 (TX8 1).2.1 (TX8 1).2.2.1 ∈ cWs := cWs_i1 8 rfl
set_option maxRecDepth 20000 in
theorem cl_X4_46 : Cond.fieldLink RX4 46 RX4 (TX4 2).2.1 (TX4 2).2.2.1 ∈ cWs := cWs_i1 10 rfl
set_option maxRecDepth 20000 in
theorem cl_X4_9 : Cond.fieldLink RX4 9 RX4 (TX4 3).2.1 (TX4 3).2.2.1 ∈ cWs := cWs_i1 11 rfl
set_option maxRecDepth 20000 in
theorem cl_X4_26 : Cond.fieldLink RX4 26 RX4 (TX4 7).2.1 (TX4 7).2.2.1 ∈ cWs := cWs_i1 15 rfl
set_option maxRecDepth 20000 in
theorem cl_X7_26 : Cond.fieldLink RX7 26 RX7 (TX7 4).2.1 (TX7 4).2.2.1 ∈ cWs := cWs_i1 25 rfl
set_option maxRecDepth 20000 in
theorem cl_X4_37 : Cond.fieldLink RX4 37 RX4 (TX4 10).2.1 (TX4 10).2.2.1 ∈ cWs := cWs_i1 40 rfl
set_option maxRecDepth 20000 in
theorem cl_X4_33 : Cond.fieldLink RX4 33 RX4 (TX4 9).2.1 (TX4 9).2.2.1 ∈ cWs := cWs_i1 44 rfl
set_option maxRecDepth 20000 in
theorem cl_X4_30 : Cond.fieldLink RX4 30 RX4 (TX4 8).2.1 (TX4 8).2.2.1 ∈ cWs := cWs_i1 50 rfl
set_option maxRecDepth 20000 in
theorem cl_X7_136 : Cond.fieldLink RX7 136 RX5 (TX5 0).2.1 (TX5 0).2.2.1 ∈ cWs := cWs_i1 65 rfl
set_option maxRecDepth 20000 in
theorem cl_X7_17 : Cond.fieldLink RX7 17 RX7 (TX7 1).2.1 (TX7 1).2.2.1 ∈ cWs := cWs_i1 71 rfl
set_option maxRecDepth 20000 in
theorem cl_X7_20 : Cond.fieldLink RX7 20 RX7 (TX7 2).2.1 (TX7 2).2.2.1 ∈ cWs := cWs_i1 72 rfl
set_option maxRecDepth 20000 in
theorem cl_X7_9 : Cond.fieldLink RX7 9 RX7 (TX7 0).2.1 (TX7 0).2.2.1 ∈ cWs := cWs_i1 93 rfl
set_option maxRecDepth 20000 in
theorem cl_X6_40 : Cond.fieldLink RX6 40 RX4 (TX4 4).2.1 (TX4 4).2.2.1 ∈ cWs := cWs_i1 96 rfl
set_option maxRecDepth 20000 in
theorem cl_X6_29 : Cond.fieldLink RX6 29 RX6 (TX6 4).2.1 (TX6 4).2.2.1 ∈ cWs := cWs_i1 97 rfl
set_option maxRecDepth 20000 in
theorem cl_X6_65 : Cond.fieldLink RX6 65 RX4 (TX4 0).2.1 (TX4 0).2.2.1 ∈ cWs := cWs_i1 98 rfl
set_option maxRecDepth 20000 in
theorem cl_X6_68 : Cond.fieldLink RX6 68 RX4 (TX4 2).2.1 (TX4 2).2.2.1 ∈ cWs := cWs_i1 99 rfl
set_option maxRecDepth 20000 in
theorem cl_X6_12 : Cond.fieldLink RX6 12 RX6 (TX6 0).2.1 (TX6 0).2.2.1 ∈ cWs := cWs_i1 100 rfl
set_option maxRecDepth 20000 in
theorem cl_X7_32 : Cond.fieldLink RX7 32 RX7 (TX7 6).2.1 (TX7 6).2.2.1 ∈ cWs := cWs_i1 113 rfl
set_option maxRecDepth 20000 in
theorem cl_X1_132 : Cond.fieldLink RX1 132 RX8 (TX8 0).2.1 (TX8 0).2.2.1 ∈ cWs := cWs_i1 127 rfl
set_option maxRecDepth 20000 in
theorem cl_X7_220 : Cond.fieldLink RX7 220 RX4 (TX4 5).2.1 (TX4 5).2.2.1 ∈ cWs := cWs_i1 137 rfl
set_option maxRecDepth 20000 in
theorem cl_X1_74 : Cond.fieldLink RX1 74 RX2 (TX2 0).2.1 (TX2 0).2.2.1 ∈ cWs := cWs_i1 140 rfl
set_option maxRecDepth 20000 in
theorem cl_X1_109 : Cond.fieldLink RX1 109 RX8 (TX8 1).2.1 (TX8 1).2.2.1 ∈ cWs := cWs_i1 142 rfl
set_option maxRecDepth 20000 in
theorem cl_X1_121 : Cond.fieldLink RX1 121 RX0 (TX0 0).2.1 (TX0 0).2.2.1 ∈ cWs := cWs_i1 144 rfl
set_option maxRecDepth 20000 in
theorem cl_X7_186 : Cond.fieldLink RX7 186 RX9 (TX9 4).2.1 (TX9 4).2.2.1 ∈ cWs := cWs_i2 16 rfl
set_option maxRecDepth 20000 in
theorem cl_X1_155 : Cond.fieldLink RX1 155 RX6 (TX6 1).2.1 (TX6 1).2.2.1 ∈ cWs := cWs_i2 34 rfl
set_option maxRecDepth 20000 in
theorem cl_X1_166 : Cond.fieldLink RX1 166 RX4 (TX4 5).2.1 (TX4 5).2.2.1 ∈ cWs := cWs_i2 36 rfl
set_option maxRecDepth 20000 in
theorem cl_X1_170 : Cond.fieldLink RX1 170 RX4 (TX4 1).2.1 (TX4 1).2.2.1 ∈ cWs := cWs_i2 37 rfl
set_option maxRecDepth 20000 in
theorem cl_X2_9 : Cond.fieldLink RX2 9 RX2 (TX2 0).2.1 (TX2 0).2.2.1 ∈ cWs := cWs_i2 57 rfl
set_option maxRecDepth 20000 in
theorem cl_X2_35 : Cond.fieldLink RX2 35 RX8 (TX8 1).2.1 (TX8 1).2.2.1 ∈ cWs := cWs_i2 68 rfl
set_option maxRecDepth 20000 in
theorem cl_X2_47 : Cond.fieldLink RX2 47 RX0 (TX0 0).2.1 (TX0 0).2.2.1 ∈ cWs := cWs_i2 70 rfl
set_option maxRecDepth 20000 in
theorem cl_Jx4a65c_63 : Cond.fieldLink RJx4a65c 63 RJx4a65c (TJx4a65c 0).2.1 (TJx4a65c 0).2.2.1 ∈ cWs := cWs_i2 112 rfl
set_option maxRecDepth 20000 in
theorem cl_X3_12 : Cond.fieldLink RX3 12 RX3 (TX3 0).2.1 (TX3 0).2.2.1 ∈ cWs := cWs_i2 124 rfl
set_option maxRecDepth 20000 in
theorem cl_X3_18 : Cond.fieldLink RX3 18 RX3 (TX3 1).2.1 (TX3 1).2.2.1 ∈ cWs := cWs_i2 125 rfl
set_option maxRecDepth 20000 in
theorem cl_X3_22 : Cond.fieldLink RX3 22 RX3 (TX3 2).2.1 (TX3 2).2.2.1 ∈ cWs := cWs_i2 126 rfl
set_option maxRecDepth 20000 in
theorem cl_X3_26 : Cond.fieldLink RX3 26 RX3 (TX3 3).2.1 (TX3 3).2.2.1 ∈ cWs := cWs_i2 127 rfl
set_option maxRecDepth 20000 in
theorem cl_X3_29 : Cond.fieldLink RX3 29 RX3 (TX3 4).2.1 (TX3 4).2.2.1 ∈ cWs := cWs_i2 128 rfl
set_option maxRecDepth 20000 in
theorem cl_X3_32 : Cond.fieldLink RX3 32 RX3 (TX3 5).2.1 (TX3 5).2.2.1 ∈ cWs := cWs_i2 129 rfl
set_option maxRecDepth 20000 in
theorem cl_X3_35 : Cond.fieldLink RX3 35 RX3 (TX3 6).2.1 (TX3 6).2.2.1 ∈ cWs := cWs_i2 130 rfl
set_option maxRecDepth 20000 in
theorem cl_X3_38 : Cond.fieldLink RX3 38 RX3 (TX3 7).2.1 (TX3 7).2.2.1 ∈ cWs := cWs_i2 131 rfl
set_option maxRecDepth 20000 in
theorem cl_X3_41 : Cond.fieldLink RX3 41 RX3 (TX3 8).2.1 (TX3 8).2.2.1 ∈ cWs := cWs_i2 132 rfl
set_option maxRecDepth 20000 in
theorem cl_X3_80 : Cond.fieldLink RX3 80 RX9 (TX9 1).2.1 (TX9 1).2.2.1 ∈ cWs := cWs_i2 139 rfl
set_option maxRecDepth 20000 in
theorem cl_X3_53 : Cond.fieldLink RX3 53 RX9 (TX9 4).2.1 (TX9 4).2.2.1 ∈ cWs := cWs_i3 25 rfl
set_option maxRecDepth 20000 in
theorem cl_X4_15 : Cond.fieldLink RX4 15 RX4 (TX4 4).2.1 (TX4 4).2.2.1 ∈ cWs := cWs_i3 46 rfl
set_option maxRecDepth 20000 in
theorem cl_X4_19 : Cond.fieldLink RX4 19 RX4 (TX4 5).2.1 (TX4 5).2.2.1 ∈ cWs := cWs_i3 47 rfl
set_option maxRecDepth 20000 in
theorem cl_X4_43 : Cond.fieldLink RX4 43 RX4 (TX4 1).2.1 (TX4 1).2.2.1 ∈ cWs := cWs_i3 48 rfl
set_option maxRecDepth 20000 in
theorem cl_X4_52 : Cond.fieldLink RX4 52 RX9 (TX9 4).2.1 (TX9 4).2.2.1 ∈ cWs := cWs_i3 51 rfl
set_option maxRecDepth 20000 in
theorem cl_X4_82 : Cond.fieldLink RX4 82 RX9 (TX9 1).2.1 (TX9 1).2.2.1 ∈ cWs := cWs_i3 60 rfl
set_option maxRecDepth 20000 in
theorem cl_X5_15 : Cond.fieldLink RX5 15 RX5 (TX5 2).2.1 (TX5 2).2.2.1 ∈ cWs := cWs_i3 71 rfl
set_option maxRecDepth 20000 in
theorem cl_X5_22 : Cond.fieldLink RX5 22 RX5 (TX5 4).2.1 (TX5 4).2.2.1 ∈ cWs := cWs_i3 72 rfl
set_option maxRecDepth 20000 in
theorem cl_X5_25 : Cond.fieldLink RX5 25 RX5 (TX5 5).2.1 (TX5 5).2.2.1 ∈ cWs := cWs_i3 73 rfl
set_option maxRecDepth 20000 in
theorem cl_X5_29 : Cond.fieldLink RX5 29 RX5 (TX5 6).2.1 (TX5 6).2.2.1 ∈ cWs := cWs_i3 74 rfl
set_option maxRecDepth 20000 in
theorem cl_X5_41 : Cond.fieldLink RX5 41 RX5 (TX5 0).2.1 (TX5 0).2.2.1 ∈ cWs := cWs_i3 75 rfl
set_option maxRecDepth 20000 in
theorem cl_X6_18 : Cond.fieldLink RX6 18 RX6 (TX6 1).2.1 (TX6 1).2.2.1 ∈ cWs := cWs_i3 111 rfl
set_option maxRecDepth 20000 in
theorem cl_X6_21 : Cond.fieldLink RX6 21 RX6 (TX6 2).2.1 (TX6 2).2.2.1 ∈ cWs := cWs_i3 112 rfl
set_option maxRecDepth 20000 in
theorem cl_X6_25 : Cond.fieldLink RX6 25 RX6 (TX6 3).2.1 (TX6 3).2.2.1 ∈ cWs := cWs_i3 113 rfl
set_option maxRecDepth 20000 in
theorem cl_X6_53 : Cond.fieldLink RX6 53 RX4 (TX4 5).2.1 (TX4 5).2.2.1 ∈ cWs := cWs_i3 120 rfl
set_option maxRecDepth 20000 in
theorem cl_X7_157 : Cond.fieldLink RX7 157 RX8 (TX8 1).2.1 (TX8 1).2.2.1 ∈ cWs := cWs_i3 126 rfl
set_option maxRecDepth 20000 in
theorem cl_X8_22 : Cond.fieldLink RX8 22 RX8 (TX8 0).2.1 (TX8 0).2.2.1 ∈ cWs := cWs_i3 142 rfl
set_option maxRecDepth 20000 in
theorem cl_X8_45 : Cond.fieldLink RX8 45 RX9 (TX9 4).2.1 (TX9 4).2.2.1 ∈ cWs := cWs_i4 6 rfl
set_option maxRecDepth 20000 in
theorem cl_X10_18 : Cond.fieldLink RX10 18 RX10 (TX10 0).2.1 (TX10 0).2.2.1 ∈ cWs := cWs_i4 24 rfl
set_option maxRecDepth 20000 in
theorem cl_X10_36 : Cond.fieldLink RX10 36 RX2 (TX2 0).2.1 (TX2 0).2.2.1 ∈ cWs := cWs_i4 28 rfl
set_option maxRecDepth 20000 in
theorem cl_X10_81 : Cond.fieldLink RX10 81 RX8 (TX8 1).2.1 (TX8 1).2.2.1 ∈ cWs := cWs_i4 58 rfl
set_option maxRecDepth 20000 in
theorem cl_X10_107 : Cond.fieldLink RX10 107 RX8 (TX8 0).2.1 (TX8 0).2.2.1 ∈ cWs := cWs_i4 80 rfl
set_option maxRecDepth 20000 in
theorem cl_X11_10 : Cond.fieldLink RX11 10 RX11 (TX11 0).2.1 (TX11 0).2.2.1 ∈ cWs := cWs_i4 86 rfl
set_option maxRecDepth 20000 in
theorem cl_X11_19 : Cond.fieldLink RX11 19 RX11 (TX11 1).2.1 (TX11 1).2.2.1 ∈ cWs := cWs_i4 89 rfl
set_option maxRecDepth 20000 in
theorem cl_X11_26 : Cond.fieldLink RX11 26 RX11 (TX11 2).2.1 (TX11 2).2.2.1 ∈ cWs := cWs_i4 91 rfl
set_option maxRecDepth 20000 in
theorem cl_X11_35 : Cond.fieldLink RX11 35 RX11 (TX11 3).2.1 (TX11 3).2.2.1 ∈ cWs := cWs_i4 93 rfl
set_option maxRecDepth 20000 in
theorem cl_X11_39 : Cond.fieldLink RX11 39 RX11 (TX11 4).2.1 (TX11 4).2.2.1 ∈ cWs := cWs_i4 94 rfl
set_option maxRecDepth 20000 in
theorem cl_X11_42 : Cond.fieldLink RX11 42 RX11 (TX11 5).2.1 (TX11 5).2.2.1 ∈ cWs := cWs_i4 95 rfl
set_option maxRecDepth 20000 in
theorem cl_X11_46 : Cond.fieldLink RX11 46 RX11 (TX11 6).2.1 (TX11 6).2.2.1 ∈ cWs := cWs_i4 96 rfl
set_option maxRecDepth 20000 in
theorem cl_X11_49 : Cond.fieldLink RX11 49 RX11 (TX11 7).2.1 (TX11 7).2.2.1 ∈ cWs := cWs_i4 97 rfl
set_option maxRecDepth 20000 in
theorem cl_X11_52 : Cond.fieldLink RX11 52 RX11 (TX11 8).2.1 (TX11 8).2.2.1 ∈ cWs := cWs_i4 98 rfl
set_option maxRecDepth 20000 in
theorem cl_X11_55 : Cond.fieldLink RX11 55 RX11 (TX11 9).2.1 (TX11 9).2.2.1 ∈ cWs := cWs_i4 99 rfl
set_option maxRecDepth 20000 in
theorem cl_X11_61 : Cond.fieldLink RX11 61 RX11 (TX11 10).2.1 (TX11 10).2.2.1 ∈ cWs := cWs_i4 102 rfl
set_option maxRecDepth 20000 in
theorem cl_X11_65 : Cond.fieldLink RX11 65 RX11 (TX11 11).2.1 (TX11 11).2.2.1 ∈ cWs := cWs_i4 103 rfl
set_option maxRecDepth 20000 in
theorem cl_X11_71 : Cond.fieldLink RX11 71 RX11 (TX11 12).2.1 (TX11 12).2.2.1 ∈ cWs := cWs_i4 106 rfl
set_option maxRecDepth 20000 in
theorem cl_X11_80 : Cond.fieldLink RX11 80 RX11 (TX11 13).2.1 (TX11 13).2.2.1 ∈ cWs := cWs_i4 109 rfl
set_option maxRecDepth 20000 in
theorem cl_X11_84 : Cond.fieldLink RX11 84 RX11 (TX11 14).2.1 (TX11 14).2.2.1 ∈ cWs := cWs_i4 110 rfl
set_option maxRecDepth 20000 in
theorem cl_X11_87 : Cond.fieldLink RX11 87 RX11 (TX11 15).2.1 (TX11 15).2.2.1 ∈ cWs := cWs_i4 111 rfl
set_option maxRecDepth 20000 in
theorem cl_X11_90 : Cond.fieldLink RX11 90 RX11 (TX11 16).2.1 (TX11 16).2.2.1 ∈ cWs := cWs_i4 112 rfl
set_option maxRecDepth 20000 in
theorem cl_X11_93 : Cond.fieldLink RX11 93 RX11 (TX11 17).2.1 (TX11 17).2.2.1 ∈ cWs := cWs_i4 113 rfl
set_option maxRecDepth 20000 in
theorem cl_X11_96 : Cond.fieldLink RX11 96 RX11 (TX11 18).2.1 (TX11 18).2.2.1 ∈ cWs := cWs_i4 114 rfl
set_option maxRecDepth 20000 in
theorem cl_X11_107 : Cond.fieldLink RX11 107 RX3 (TX3 0).2.1 (TX3 0).2.2.1 ∈ cWs := cWs_i4 129 rfl
set_option maxRecDepth 20000 in
theorem cl_X11_111 : Cond.fieldLink RX11 111 RX9 (TX9 1).2.1 (TX9 1).2.2.1 ∈ cWs := cWs_i4 130 rfl
set_option maxRecDepth 20000 in
theorem cl_X11_133 : Cond.fieldLink RX11 133 RX3 (TX3 4).2.1 (TX3 4).2.2.1 ∈ cWs := cWs_i4 134 rfl
set_option maxRecDepth 20000 in
theorem cl_X11_136 : Cond.fieldLink RX11 136 RX3 (TX3 8).2.1 (TX3 8).2.2.1 ∈ cWs := cWs_i4 135 rfl
set_option maxRecDepth 20000 in
theorem cl_X11_144 : Cond.fieldLink RX11 144 RX3 (TX3 7).2.1 (TX3 7).2.2.1 ∈ cWs := cWs_i4 143 rfl
set_option maxRecDepth 20000 in
theorem cl_X11_163 : Cond.fieldLink RX11 163 RX9 (TX9 4).2.1 (TX9 4).2.2.1 ∈ cWs := cWs_i4 151 rfl
set_option maxRecDepth 20000 in
theorem cl_X11_168 : Cond.fieldLink RX11 168 RX0 (TX0 1).2.1 (TX0 1).2.2.1 ∈ cWs := cWs_i5 4 rfl
set_option maxRecDepth 20000 in
theorem cl_X11_171 : Cond.fieldLink RX11 171 RX0 (TX0 2).2.1 (TX0 2).2.2.1 ∈ cWs := cWs_i5 5 rfl
set_option maxRecDepth 20000 in
theorem cl_X11_193 : Cond.fieldLink RX11 193 RX0 (TX0 0).2.1 (TX0 0).2.2.1 ∈ cWs := cWs_i5 9 rfl
set_option maxRecDepth 20000 in
theorem cl_X11_274 : Cond.fieldLink RX11 274 RX8 (TX8 1).2.1 (TX8 1).2.2.1 ∈ cWs := cWs_i5 48 rfl
set_option maxRecDepth 20000 in
theorem cl_X11_264 : Cond.fieldLink RX11 264 RX8 (TX8 0).2.1 (TX8 0).2.2.1 ∈ cWs := cWs_i5 53 rfl
set_option maxRecDepth 20000 in
theorem cl_X11_258 : Cond.fieldLink RX11 258 RX2 (TX2 0).2.1 (TX2 0).2.2.1 ∈ cWs := cWs_i5 124 rfl
set_option maxRecDepth 20000 in
theorem cl_X11_316 : Cond.fieldLink RX11 316 RX10 (TX10 0).2.1 (TX10 0).2.2.1 ∈ cWs := cWs_i5 133 rfl
set_option maxRecDepth 20000 in
theorem cl_X11_385 : Cond.fieldLink RX11 385 RX6 (TX6 3).2.1 (TX6 3).2.2.1 ∈ cWs := cWs_i5 142 rfl
set_option maxRecDepth 20000 in
theorem cl_X11_466 : Cond.fieldLink RX11 466 RX6 (TX6 1).2.1 (TX6 1).2.2.1 ∈ cWs := cWs_i5 143 rfl
set_option maxRecDepth 20000 in
theorem cl_X11_345 : Cond.fieldLink RX11 345 RX4 (TX4 3).2.1 (TX4 3).2.2.1 ∈ cWs := cWs_i5 157 rfl
set_option maxRecDepth 20000 in
theorem cl_X11_473 : Cond.fieldLink RX11 473 RX1 (TX1 1).2.1 (TX1 1).2.2.1 ∈ cWs := cWs_i6 36 rfl
set_option maxRecDepth 20000 in
theorem cl_X11_409 : Cond.fieldLink RX11 409 RX1 (TX1 2).2.1 (TX1 2).2.2.1 ∈ cWs := cWs_i6 38 rfl
set_option maxRecDepth 20000 in
theorem cl_X11_412 : Cond.fieldLink RX11 412 RX1 (TX1 3).2.1 (TX1 3).2.2.1 ∈ cWs := cWs_i6 43 rfl
set_option maxRecDepth 20000 in
theorem cl_X11_415 : Cond.fieldLink RX11 415 RX1 (TX1 4).2.1 (TX1 4).2.2.1 ∈ cWs := cWs_i6 45 rfl
set_option maxRecDepth 20000 in
theorem cl_X11_418 : Cond.fieldLink RX11 418 RX1 (TX1 5).2.1 (TX1 5).2.2.1 ∈ cWs := cWs_i6 47 rfl
set_option maxRecDepth 20000 in
theorem cl_pow : Cond.fieldLink RX9 50 RX9 "POWERS" "[J" ∈ cWs := cWs_i1 34 rfl
set_option maxRecDepth 20000 in
theorem ck_X9_53 : Cond.constantLong RX9 53 37 ∈ cWs := cWs_i1 35 rfl
set_option maxRecDepth 20000 in
theorem ck_L_9 : Cond.constantLong RL 9 15 ∈ cWs := cWs_i6 78 rfl
set_option maxRecDepth 20000 in
theorem ck_L_21 : Cond.constantLong RL 21 63 ∈ cWs := cWs_i6 87 rfl
abbrev cY : Type := ClassId × ClassId × ClassId × ClassId × ClassId × ClassId
abbrev cTys (Y : cY) : List (ClassId × FieldType) := [(Y.1, .byte), (Y.2.1, .int), (Y.2.2.1, .long), (Y.2.2.2.1, .boolean), (Y.2.2.2.2.1, .object "java/lang/Object"), (Y.2.2.2.2.2, .array .int)]
/-- the pool: addresses, kinds, ints, references and longs of the objects (by 32 times the kind and the field's number, then by address), lengths of the rows, their ints, longs and references (by address, then by place) -/
abbrev cS : Type := List Nat × (Nat → Nat) × (Nat → Nat → Int32) × (Nat → Nat → Option Nat) × (Nat → Nat → Int64) × (Nat → Nat) × (Nat → Nat → Int32) × (Nat → Nat → Int64) × (Nat → Nat → Option Nat)
def cL (S : cS) : List Nat := S.1
def cK (S : cS) : Nat → Nat := S.2.1
def ci (S : cS) : Nat → Nat → Int32 := S.2.2.1
def cr (S : cS) : Nat → Nat → Option Nat := S.2.2.2.1
def cw (S : cS) : Nat → Nat → Int64 := S.2.2.2.2.1
def cn (S : cS) : Nat → Nat := S.2.2.2.2.2.1
def cI (S : cS) : Nat → Nat → Int32 := S.2.2.2.2.2.2.1
def cJ (S : cS) : Nat → Nat → Int64 := S.2.2.2.2.2.2.2.1
def cO (S : cS) : Nat → Nat → Option Nat := S.2.2.2.2.2.2.2.2
def zA {α : Type} (f : Nat → Nat → α) (a : Nat) (x : α) : Nat → Nat → α := fun q b => if b = a then x else f q b
def cSi (S : cS) (q a : Nat) (x : Int32) : cS := (cL S, cK S, mU (ci S) q a x, cr S, cw S, cn S, cI S, cJ S, cO S)
def cSr (S : cS) (q a : Nat) (x : Option Nat) : cS := (cL S, cK S, ci S, mU (cr S) q a x, cw S, cn S, cI S, cJ S, cO S)
def cSw (S : cS) (q a : Nat) (x : Int64) : cS := (cL S, cK S, ci S, cr S, mU (cw S) q a x, cn S, cI S, cJ S, cO S)
def cSI (S : cS) (b k : Nat) (x : Int32) : cS := (cL S, cK S, ci S, cr S, cw S, cn S, mU (cI S) b k x, cJ S, cO S)
def cSJ (S : cS) (b k : Nat) (x : Int64) : cS := (cL S, cK S, ci S, cr S, cw S, cn S, cI S, mU (cJ S) b k x, cO S)
def cSO (S : cS) (b k : Nat) (x : Option Nat) : cS := (cL S, cK S, ci S, cr S, cw S, cn S, cI S, cJ S, mU (cO S) b k x)
def cNew (S : cS) (a k : Nat) : cS := (cL S ++ [a], upR (cK S) a k, zA (ci S) a 0, zA (cr S) a none, zA (cw S) a 0, cn S, cI S, cJ S, cO S)
def cNewA (S : cS) (a k N : Nat) : cS := (cL S ++ [a], upR (cK S) a k, ci S, cr S, cw S, upR (cn S) a N, upR (cI S) a (fun _ => 0), upR (cJ S) a (fun _ => 0), upR (cO S) a (fun _ => none))
def kC (k : Nat) : Nat := if k = 12 then 2 else k + 3
def cV (S : cS) (k j a : Nat) : Value := if (kF.getD k []).getD j 0 = 0 then .int (ci S (32 * k + j) a) else if (kF.getD k []).getD j 0 = 1 then va_rf (cr S (32 * k + j) a) else .long (cw S (32 * k + j) a)
def cF (S : cS) (k a : Nat) : List Value := (List.range (kF.getD k []).length).map (fun j => cV S k j a)
def cE (Y : cY) (S : cS) (a : Nat) : va_E :=
  if cK S a < 13 then .inr (kC (cK S a), cF S (cK S a) a)
  else if cK S a = 13 then .inl (Y.1, cn S a, .inl (cI S a))
  else if cK S a = 14 then .inl (Y.2.1, cn S a, .inl (cI S a))
  else if cK S a = 15 then .inl (Y.2.2.1, cn S a, .inr (.inl (cJ S a)))
  else if cK S a = 16 then .inl (Y.2.2.2.1, cn S a, .inl (cI S a))
  else if cK S a = 17 then .inl (Y.2.2.2.2.1, cn S a, .inr (.inr (.inr (.inr (cO S a)))))
  else .inl (Y.2.2.2.2.2, cn S a, .inr (.inr (.inr (.inr (cO S a)))))
def cWd (Y : cY) (S : cS) : va_W := va_pl (cL S) (cE Y S)
theorem cE_o {Y : cY} {S : cS} {a k : Nat} (h : cK S a = k) (hk : k < 13) : cE Y S a = .inr (kC k, cF S k a) := by
  unfold cE; rw [h, if_pos hk]
theorem cE_B {Y : cY} {S : cS} {a : Nat} (h : cK S a = 13) : cE Y S a = .inl (Y.1, cn S a, .inl (cI S a)) := by
  unfold cE; rw [h]; rfl
theorem cE_I {Y : cY} {S : cS} {a : Nat} (h : cK S a = 14) : cE Y S a = .inl (Y.2.1, cn S a, .inl (cI S a)) := by
  unfold cE; rw [h]; rfl
theorem cE_J {Y : cY} {S : cS} {a : Nat} (h : cK S a = 15) : cE Y S a = .inl (Y.2.2.1, cn S a, .inr (.inl (cJ S a))) := by
  unfold cE; rw [h]; rfl
theorem cE_Z {Y : cY} {S : cS} {a : Nat} (h : cK S a = 16) : cE Y S a = .inl (Y.2.2.2.1, cn S a, .inl (cI S a)) := by
  unfold cE; rw [h]; rfl
theorem cE_O {Y : cY} {S : cS} {a : Nat} (h : cK S a = 17) : cE Y S a = .inl (Y.2.2.2.2.1, cn S a, .inr (.inr (.inr (.inr (cO S a))))) := by
  unfold cE; rw [h]; rfl
theorem cE_A {Y : cY} {S : cS} {a : Nat} (h : cK S a = 18) : cE Y S a = .inl (Y.2.2.2.2.2, cn S a, .inr (.inr (.inr (.inr (cO S a))))) := by
  unfold cE; rw [h]; rfl
theorem cF_k {S : cS} {k a j : Nat} (h : j < (kF.getD k []).length) : (cF S k a)[j]? = some (cV S k j a) := by
  unfold cF; simp at h ⊢; simp [h]
/-- a cell changed: the pool with it -/
theorem cWd_set {A : Nat → Prop} {Y : cY} {S S' : cS} {a q : Nat} {e : va_E} (hD : va_D A (cWd Y S)) (ha : a ∈ cL S) (hq : (cWd Y S)[q]? = some (a, cE Y S a)) (hL : cL S' = cL S) (he : cE Y S' a = e) (ho : ∀ b, b ≠ a → cE Y S' b = cE Y S b) : (cWd Y S).set q (a, e) = cWd Y S' := by
  have h := va_pl_set (X := []) (f := cE Y S) (e := e) hD ha hq
  rw [List.nil_append, List.nil_append] at h
  unfold cWd
  rw [h, hL]
  refine va_pl_congr (fun b => ?_)
  by_cases hb : b = a
  · subst hb; rw [va_up_self, he]
  · rw [va_up_ne _ _ hb, ho b hb]
theorem cWd_at {Y : cY} {S : cS} {a : Nat} (ha : a ∈ cL S) : ∃ q : Nat, (cWd Y S)[q]? = some (a, cE Y S a) := by
  obtain ⟨q, h⟩ := va_pl_get (X := []) (f := cE Y S) ha
  exact ⟨q, h⟩
theorem cWd_fresh {A : Nat → Prop} {Y : cY} {S : cS} {a : Nat} {e : va_E} (hD : va_D A (cWd Y S ++ [(a, e)])) : a ∉ cL S := by
  intro h
  obtain ⟨q, hq⟩ := cWd_at (Y := Y) h
  have hl := (List.getElem?_eq_some_iff.mp hq).1
  have h1 : (cWd Y S ++ [(a, e)])[q]? = some (a, cE Y S a) := by rw [List.getElem?_append_left hl]; exact hq
  have h2 : (cWd Y S ++ [(a, e)])[(cWd Y S).length]? = some (a, e) := by rw [List.getElem?_append_right (Nat.le_refl _), Nat.sub_self]; rfl
  have := hD.1 _ _ _ _ h1 h2 rfl
  omega
theorem cWd_push {Y : cY} {S S' : cS} {a : Nat} {e : va_E} (ha : a ∉ cL S) (hL : cL S' = cL S ++ [a]) (he : cE Y S' a = e) (ho : ∀ b, b ≠ a → cE Y S' b = cE Y S b) : cWd Y S ++ [(a, e)] = cWd Y S' := by
  unfold cWd
  rw [va_pl_push ha, hL]
  refine va_pl_congr (fun b => ?_)
  by_cases hb : b = a
  · subst hb; rw [va_up_self, he]
  · rw [va_up_ne _ _ hb, ho b hb]
theorem mU_at {α : Type} {f : Nat → Nat → α} {q a : Nat} {x : α} : mU f q a x q a = x := by simp [mU]
theorem mU_ne {α : Type} {f : Nat → Nat → α} {q a p b : Nat} {x : α} (h : b ≠ a) : mU f q a x p b = f p b := by
  unfold mU
  by_cases e : p = q
  · subst e; simp [h]
  · simp [e]
theorem mU_nq {α : Type} {f : Nat → Nat → α} {q a p b : Nat} {x : α} (h : p ≠ q) : mU f q a x p b = f p b := by simp [mU, h]
theorem mU_row {α : Type} {f : Nat → Nat → α} {b k c : Nat} {x : α} (h : c ≠ b) : mU f b k x c = f c := mU_n h
/-- an object's cell looks at its own address alone -/
theorem cE_eq {Y : cY} {S S' : cS} {b : Nat} (hK : cK S' b = cK S b) (hi : ∀ q, ci S' q b = ci S q b) (hr : ∀ q, cr S' q b = cr S q b) (hw : ∀ q, cw S' q b = cw S q b) (hn : cn S' b = cn S b) (hI : cI S' b = cI S b) (hJ : cJ S' b = cJ S b) (hO : cO S' b = cO S b) : cE Y S' b = cE Y S b := by
  have hV : ∀ k j, cV S' k j b = cV S k j b := fun k j => by unfold cV; rw [hi, hr, hw]
  have hF : ∀ k, cF S' k b = cF S k b := fun k => by unfold cF; congr 1; funext j; exact hV k j
  unfold cE
  rw [hK, hn, hI, hJ, hO, hF]
/-- what may be cast (an exception to its own class, what lies in a list to Object), constructors above, what may not be cast -/
def cXE : List String := ["java/lang/IllegalArgumentException", "java/lang/IllegalStateException", "java/lang/IndexOutOfBoundsException"]
def cXC : List (String × String) := [("java/lang/IllegalArgumentException", "java/lang/IllegalArgumentException"), ("java/lang/IllegalStateException", "java/lang/IllegalStateException"), ("java/lang/IndexOutOfBoundsException", "java/lang/IndexOutOfBoundsException"), ("SearchMill$Document", "java/lang/Object"), ("SearchMill$Holding", "java/lang/Object"), ("SearchMill$Node", "java/lang/Object"), ("SearchMill$Postings", "java/lang/Object"), ("SearchMill$Query", "java/lang/Object"), ("SearchMill$View", "java/lang/Object")]
def cXD : List MethodName := [⟨"java/lang/Object", "getClass", "()Ljava/lang/Class;"⟩, Bundle.initS "java/lang/RuntimeException", Bundle.initS "java/lang/Exception", Bundle.initS Bundle.tN]
def cXN : List (String × String) := [("java/lang/IllegalArgumentException", "java/lang/IllegalStateException"), ("java/lang/IllegalArgumentException", "java/lang/IndexOutOfBoundsException"), ("java/lang/IllegalStateException", "java/lang/IllegalArgumentException"), ("java/lang/IllegalStateException", "java/lang/IndexOutOfBoundsException"), ("java/lang/IndexOutOfBoundsException", "java/lang/IllegalArgumentException"), ("java/lang/IndexOutOfBoundsException", "java/lang/IllegalStateException")]
def cXM : List (String × Nat × MethodName) := [(RX11, 18, yX0_init), (RX11, 60, yX6_init), (RX11, 70, yX7_init), (RX11, 9, yX3_init), (RX0, 23, yX9_init), (RX3, 11, yX9_init)]
theorem cAO_go {s U : State} (hW : s.vm.Alike U.vm) (h : va_Nw (.arrayOver (.array .int)) s) : va_Nw (.arrayOver (.array .int)) U := arrayOver_alikeB hW h
def cEnv (A : Nat → Prop) (tp dp : Nat) (U : State) (H : Heap) : Prop := va_Z RX9 "POWERS" "[J" (.ref tp) A U H ∧ va_T .long tp 12 (fun j => .long (lN (37 ^ j))) A U H ∧ va_Z RJx4a65c "DEFAULTCAPACITY_EMPTY_ELEMENTDATA" "[Ljava/lang/Object;" (.ref dp) A U H ∧ va_T (.object "java/lang/Object") dp 0 (fun _ => .null) A U H ∧ vx_Zq Bundle.tN "UNASSIGNED_STACK" Bundle.steD A U H ∧ vx_Zq Bundle.tN "SUPPRESSED_SENTINEL" Bundle.listD A U H ∧ (∀ q ∈ cStr, ∃ sa, vk_R RX11 q.1 q.2 sa U) ∧ (∀ q ∈ cXC, va_Nw (.castable q.1 q.2) U) ∧ (∀ x ∈ cXD, va_Nw (.declares x) U) ∧ (∀ q ∈ cXN, va_Nc q.1 q.2 U) ∧ va_Nw (.arrayOver (.array .int)) U ∧ (va_AO "java/lang/Object" U ∧ ∃ mi : Nat, va_Mi "[Ljava/lang/Object;" mi U) ∧ ∀ q ∈ cXM, va_Nw (.methodLinkNest q.1 q.2.1 q.2.2 "SearchMill") U
theorem cEnv.go {A B : Nat → Prop} {tp dp : Nat} {s U : State} {H : Heap} {locs : List Loc} (h : cEnv A tp dp s s.heap) (hW : s.WarmedH U.vm) (hS : va_S A s.heap H locs) (hAB : ∀ q, B q → A q) : cEnv B tp dp U H := by
  obtain ⟨h1, h2, h3, h4, h5, h6, h7, h8, h9, h10, h11, h12, h13⟩ := h
  have k := hS.2.1
  exact ⟨((h1.kept k).narrow hAB).moved hW.alike, ((h2.kept k).narrow hAB).moved hW.alike, ((h3.kept k).narrow hAB).moved hW.alike, ((h4.kept k).narrow hAB).moved hW.alike, ((h5.kept k).narrow hAB).moved hW.alike, ((h6.kept k).narrow hAB).moved hW.alike, fun q hq => by obtain ⟨sa, hs⟩ := h7 q hq; exact ⟨sa, hs.warm hW⟩, fun q hq => va_Nw.warmC hW (h8 q hq), fun x hx => va_Nw.warmD hW (h9 x hx), fun q hq => (h10 q hq).moved hW.alike, cAO_go hW.alike h11, ⟨h12.1.moved hW.alike, h12.2.elim fun mi h => ⟨mi, h.moved hW.alike⟩⟩, fun q hq => va_Nw.warmM hW (h13 q hq)⟩
theorem cEnv.same {A : Nat → Prop} {tp dp : Nat} {U : State} {H : Heap} (a : Array Value) (g : JFrame) (mk : MethodId) (h : cEnv A tp dp U H) : cEnv A tp dp (U.calling g mk a) H := by
  obtain ⟨h1, h2, h3, h4, h5, h6, h7, h8, h9, h10, h11, h12, h13⟩ := h
  have al : U.vm.Alike (U.calling g mk a).vm := Vm.Alike.refl U.vm
  exact ⟨h1.moved al, h2.moved al, h3.moved al, h4.moved al, h5.moved al, h6.moved al, fun q hq => by obtain ⟨sa, hs⟩ := h7 q hq; exact ⟨sa, hs.same rfl⟩, fun q hq => va_Nw.same rfl rfl (h8 q hq), fun x hx => va_Nw.same rfl rfl (h9 x hx), fun q hq => (h10 q hq).moved al, cAO_go al h11, ⟨h12.1.moved al, h12.2.elim fun mi h => ⟨mi, h.moved al⟩⟩, fun q hq => va_Nw.same rfl rfl (h13 q hq)⟩
def cC (p : Program) (s : State) (m : MethodId) (args : Array Value) (meth : Method) (c : Code) (cc : ByteArray) (nL : Nat) (ret : Option FieldType) (A : Nat → Prop) (D : va_G) (Y : cY) (tp dp : Nat) (own : String) : Prop :=
  p.tables.exec = Jvm.exec ∧ c.code = cc ∧ c.maxLocals = nL ∧ s.vm.findClass own = some m.cls ∧ (∀ w ∈ cWs, w.before args s = true) ∧ va_K D vwCl (cTys Y) s ∧ meth.locks = false ∧ meth.sig.returnType = ret ∧ (∀ q, s.heap.size ≤ q → A q) ∧ cEnv A tp dp s s.heap
def cG (p : Program) (l : Launch) (e : Env) (R : Room) (s : State) (m : MethodId) (args : Array Value) (below : List Frame) (meth : Method) (c : Code) (A : Nat → Prop) (D : va_G) (Y : cY) (nL : Nat) (Q : State → Prop) (cells slots : Nat) (pc : Nat) (lv : List (Nat × Value)) (st : List Value) (S : cS) : Prop :=
  ∀ (H : Heap) (locs : List Loc) (ls : Array Slot), va_P D vwCl (cWd Y S) H → va_D A (cWd Y S) → va_S A s.heap H locs → lv_has ls nL lv → W p l e R s m args below meth c H locs cells slots Q (F0 m pc ls st)
abbrev cB (D : va_G) (Y : cY) (A : Nat → Prop) (u : cS) (t : State) : Prop := va_P D vwCl (cWd Y u) t.heap ∧ va_K D vwCl (cTys Y) t ∧ va_D A (cWd Y u)
abbrev cPre (D : va_G) (Y : cY) (tp dp : Nat) (S : cS) (sz : Nat) (U : State) : Prop := U.heap.size = sz ∧ va_P D vwCl (cWd Y S) U.heap ∧ va_K D vwCl (cTys Y) U ∧ va_D (fun _ => True) (cWd Y S) ∧ cEnv (va_A (cWd Y S) sz) tp dp U U.heap
abbrev cRm (fr mc ms lo : Nat) : Room := { frames := fr, cells := mc, slots := ms, locals := lo }
def cMet (Qk : (D : va_G) → (Y : cY) → (A : Nat → Prop) → Array Value → State → Outcome → State → Prop) (l : Launch) (y : MethodName) (cc : ByteArray) (nL : Nat) (ret : Option FieldType) (fr mc ms lo : Nat) (av : List Value) (S : cS) (dp : Nat) : Prop := ∀ (D : va_G) (Y : cY) (tp sz : Nat), Met l y (.code y cc nL ret :: cWs) (cRm fr mc ms lo) (va_Pc av (cPre D Y tp dp S sz)) (Qk D Y (va_A (cWd Y S) sz)) mc ms (va_A (cWd Y S) sz)
abbrev cQi (post : Int32 → cS → Prop) : (D : va_G) → (Y : cY) → (A : Nat → Prop) → Array Value → State → Outcome → State → Prop := fun D Y A => va_Qi post (cB D Y A) A
abbrev cQl (post : Int64 → cS → Prop) : (D : va_G) → (Y : cY) → (A : Nat → Prop) → Array Value → State → Outcome → State → Prop := fun D Y A => va_Ql post (cB D Y A) A
abbrev cQv (post : cS → Prop) : (D : va_G) → (Y : cY) → (A : Nat → Prop) → Array Value → State → Outcome → State → Prop := fun D Y A => va_Qv post (cB D Y A) A
section CG
variable {p : Program} {l : Launch} {e : Env} {R : Room} {s : State} {m : MethodId} {args : Array Value} {below : List Frame} {meth : Method} {c : Code} {cc : ByteArray} {nL : Nat} {ret : Option FieldType} {A : Nat → Prop} {D : va_G} {Y : cY} {tp dp : Nat} {own : String} {Q : State → Prop} {cells slots : Nat}
variable {pc : Nat} {lv lv' : List (Nat × Value)} {st : List Value} {S : cS}
theorem cg_body {y : MethodName} {fr mc ms lo sz : Nat} {av : List Value} {Qc : Array Value → State → Outcome → State → Prop} (hy : plainName y.cls = true) (hlen : (lg_sl av).length ≤ nL)
    (body : ∀ (p : Program) (e : Env) (s : State) (m : MethodId) (args : Array Value) (below : List Frame) (meth : Method) (c : Code), cC p s m args meth c cc nL ret (va_A (cWd Y S) sz) D Y tp dp y.cls → cG p l e (cRm fr mc ms lo) s m args below meth c (va_A (cWd Y S) sz) D Y nL (MQ below Qc args s mc ms (va_A (cWd Y S) sz)) 0 0 0 (lv_args 0 av) [] S) : Met l y (.code y cc nL ret :: cWs) (cRm fr mc ms lo) (va_Pc av (cPre D Y tp dp S sz)) Qc mc ms (va_A (cWd Y S) sz) := by
  refine Met.ofW (cc := cc) (maxL := nL) (ret := ret) hy rfl ?_
  intro p e s m args below meth c s₁ B hml hv
  obtain ⟨rfl, hsz, hP, hK, hD0, hE⟩ := hv
  have hts := atoms_spec (ws := Cond.code y cc nL ret :: cWs) B.pre
  have hown : s.vm.findClass y.cls = some m.cls := findClass_of_methodNamed B.named
  have hl := lv_entry av (n := nL) hlen
  rw [lg_entry_eq]
  subst hsz
  exact body p e s m _ below meth c ⟨B.exec, B.bytes, hml, hown, fun w h => hts w (List.mem_cons_of_mem _ h), hK, B.notSynchronized, B.returns, fun q h => Or.inr h, hE⟩ s.heap [] _ hP hD0.self va_S.rf hl
theorem cg_lv (h : lv = lv') (k : cG p l e R s m args below meth c A D Y nL Q cells slots pc lv' st S) : cG p l e R s m args below meth c A D Y nL Q cells slots pc lv st S := by rw [h]; exact k
theorem cg_sub (ks : List Nat) (h : lv_pick lv ks = lv') (k : cG p l e R s m args below meth c A D Y nL Q cells slots pc lv' st S) : cG p l e R s m args below meth c A D Y nL Q cells slots pc lv st S := fun H locs ls hP hD hS hl => k H locs ls hP hD hS (lv_sub hl ks h)
theorem cg_cast {x : Value} (y : Value) (h : x = y) (k : cG p l e R s m args below meth c A D Y nL Q cells slots pc lv (y :: st) S) : cG p l e R s m args below meth c A D Y nL Q cells slots pc lv (x :: st) S := by rw [h]; exact k
theorem cg_world {S' : cS} (h : S = S') (k : cG p l e R s m args below meth c A D Y nL Q cells slots pc lv st S') : cG p l e R s m args below meth c A D Y nL Q cells slots pc lv st S := by rw [h]; exact k
theorem cg_powers (C : cC p s m args meth c cc nL ret A D Y tp dp own) {idx : Nat} (hl : Cond.fieldLink own idx RX9 "POWERS" "[J" ∈ cWs) (d : decode cc pc = .ok (.getstatic idx, 3)) (kk : cG p l e R s m args below meth c A D Y nL Q cells slots (pc + 3) lv (.ref tp :: st) S) : cG p l e R s m args below meth c A D Y nL Q cells slots pc lv st S := by
  intro H locs ls hP hD hS hlv
  obtain ⟨hx, hb, hml, hown, hts, hK, hlo, hr, hA, hE⟩ := C
  exact va_gets hx hb hE.1 hS hown (hts _ hl) (fun x h => h) d (kk H locs ls hP hD hS hlv)
theorem cg_power (C : cC p s m args meth c cc nL ret A D Y tp dp own) (k : Nat) (hk : k < 12) (d : decode cc pc = .ok (.laload, 1)) (kk : cG p l e R s m args below meth c A D Y nL Q cells slots (pc + 1) lv (.long (lN (37 ^ k)) :: st) S) : cG p l e R s m args below meth c A D Y nL Q cells slots pc lv (.int (nI k) :: .ref tp :: st) S := by
  intro H locs ls hP hD hS hlv
  obtain ⟨hx, hb, hml, hown, hts, hK, hlo, hr, hA, hE⟩ := C
  exact va_tl hx hb hE.2.1 hS (vp_in_nI hk (by decide)) (by rw [nI_clamp (by omega)]) d (kk H locs ls hP hD hS hlv)
theorem cg_get (C : cC p s m args meth c cc nL ret A D Y tp dp own) {a k j idx N : Nat} {C' : String} {T : u_T} (v : Value) (ha : a ∈ cL S) (hK' : cK S a = k) (hk : k < 13) (hc : vwCl[kC k]? = some (C', T, N)) (hj : j < N) (hlen : (kF.getD k []).length = N) (hv : cV S k j a = v) (hin : ∀ w ∈ u_ws C' T N, w ∈ cWs) (hl : Cond.fieldLink own idx C' (T j).2.1 (T j).2.2.1 ∈ cWs) (hR : (T j).1 = C') (d : decode cc pc = .ok (.getfield idx, 3)) (kk : cG p l e R s m args below meth c A D Y nL Q cells slots (pc + 3) lv (v :: st) S) : cG p l e R s m args below meth c A D Y nL Q cells slots pc lv (.ref a :: st) S := by
  intro H locs ls hP hD hS hlv
  obtain ⟨hx, hb, hml, hown, hts, hK, hlo, hr, hA, hE⟩ := C
  obtain ⟨q, hq⟩ := cWd_at (Y := Y) ha
  rw [cE_o hK' hk] at hq
  exact va_get (ref := C') (C := C') (T := T) (N := N) (ci := kC k) hx hb hts hin hown hK hP q hq hc j hj (hts _ hl) (fun x h => by rw [← hR]; exact h) ((cF_k (by rw [hlen]; exact hj)).trans (by rw [hv])) d (kk H locs ls hP hD hS hlv)
theorem cg_alen (C : cC p s m args meth c cc nL ret A D Y tp dp own) {a k : Nat} (ha : a ∈ cL S) (hK' : cK S a = k) (hk : 13 ≤ k) (hk2 : k ≤ 18) (d : decode cc pc = .ok (.arraylength, 1)) (kk : cG p l e R s m args below meth c A D Y nL Q cells slots (pc + 1) lv (.int (nI (cn S a)) :: st) S) : cG p l e R s m args below meth c A D Y nL Q cells slots pc lv (.ref a :: st) S := by
  intro H locs ls hP hD hS hlv
  obtain ⟨hx, hb, hml, hown, hts, hK, hlo, hr, hA, hE⟩ := C
  obtain ⟨q, hq⟩ := cWd_at (Y := Y) ha
  rcases (show k = 13 ∨ k = 14 ∨ k = 15 ∨ k = 16 ∨ k = 17 ∨ k = 18 by omega) with rfl | rfl | rfl | rfl | rfl | rfl
  · rw [cE_B hK'] at hq; exact va_alen hx hb hK hP q 0 hq rfl rfl d (kk H locs ls hP hD hS hlv)
  · rw [cE_I hK'] at hq; exact va_alen hx hb hK hP q 1 hq rfl rfl d (kk H locs ls hP hD hS hlv)
  · rw [cE_J hK'] at hq; exact va_alen hx hb hK hP q 2 hq rfl rfl d (kk H locs ls hP hD hS hlv)
  · rw [cE_Z hK'] at hq; exact va_alen hx hb hK hP q 3 hq rfl rfl d (kk H locs ls hP hD hS hlv)
  · rw [cE_O hK'] at hq; exact va_alen hx hb hK hP q 4 hq rfl rfl d (kk H locs ls hP hD hS hlv)
  · rw [cE_A hK'] at hq; exact va_alen hx hb hK hP q 5 hq rfl rfl d (kk H locs ls hP hD hS hlv)
theorem cg_iaload (C : cC p s m args meth c cc nL ret A D Y tp dp own) {a : Nat} (k : Nat) (ha : a ∈ cL S) (hK' : cK S a = 14) (hk : k < cn S a) (hN : cn S a < 2 ^ 31) (d : decode cc pc = .ok (.iaload, 1)) (kk : cG p l e R s m args below meth c A D Y nL Q cells slots (pc + 1) lv (.int (cI S a k) :: st) S) : cG p l e R s m args below meth c A D Y nL Q cells slots pc lv (.int (nI k) :: .ref a :: st) S := by
  intro H locs ls hP hD hS hlv
  obtain ⟨hx, hb, hml, hown, hts, hK, hlo, hr, hA, hE⟩ := C
  obtain ⟨q, hq⟩ := cWd_at (Y := Y) ha
  rw [cE_I hK'] at hq
  exact va_iald hx hb hK hP q 1 hq rfl (vp_in_nI hk hN) d (by rw [nI_clamp (Nat.lt_trans hk hN)]; exact kk H locs ls hP hD hS hlv)
theorem cg_laload (C : cC p s m args meth c cc nL ret A D Y tp dp own) {a : Nat} (k : Nat) (ha : a ∈ cL S) (hK' : cK S a = 15) (hk : k < cn S a) (hN : cn S a < 2 ^ 31) (d : decode cc pc = .ok (.laload, 1)) (kk : cG p l e R s m args below meth c A D Y nL Q cells slots (pc + 1) lv (.long (cJ S a k) :: st) S) : cG p l e R s m args below meth c A D Y nL Q cells slots pc lv (.int (nI k) :: .ref a :: st) S := by
  intro H locs ls hP hD hS hlv
  obtain ⟨hx, hb, hml, hown, hts, hK, hlo, hr, hA, hE⟩ := C
  obtain ⟨q, hq⟩ := cWd_at (Y := Y) ha
  rw [cE_J hK'] at hq
  exact va_lald hx hb hK hP q 2 hq rfl (vp_in_nI hk hN) d (by rw [nI_clamp (Nat.lt_trans hk hN)]; exact kk H locs ls hP hD hS hlv)
theorem cg_zaload (C : cC p s m args meth c cc nL ret A D Y tp dp own) {a : Nat} (k : Nat) (ha : a ∈ cL S) (hK' : cK S a = 16) (hk : k < cn S a) (hN : cn S a < 2 ^ 31) (d : decode cc pc = .ok (.baload, 1)) (kk : cG p l e R s m args below meth c A D Y nL Q cells slots (pc + 1) lv (.int (cI S a k) :: st) S) : cG p l e R s m args below meth c A D Y nL Q cells slots pc lv (.int (nI k) :: .ref a :: st) S := by
  intro H locs ls hP hD hS hlv
  obtain ⟨hx, hb, hml, hown, hts, hK, hlo, hr, hA, hE⟩ := C
  obtain ⟨q, hq⟩ := cWd_at (Y := Y) ha
  rw [cE_Z hK'] at hq
  exact va_zald hx hb hK hP q 3 hq rfl (vp_in_nI hk hN) d (by rw [nI_clamp (Nat.lt_trans hk hN)]; exact kk H locs ls hP hD hS hlv)
theorem cg_baload (C : cC p s m args meth c cc nL ret A D Y tp dp own) {a : Nat} (k : Nat) (ha : a ∈ cL S) (hK' : cK S a = 13) (hk : k < cn S a) (hN : cn S a < 2 ^ 31) (d : decode cc pc = .ok (.baload, 1)) (kk : cG p l e R s m args below meth c A D Y nL Q cells slots (pc + 1) lv (.int (cI S a k) :: st) S) : cG p l e R s m args below meth c A D Y nL Q cells slots pc lv (.int (nI k) :: .ref a :: st) S := by
  intro H locs ls hP hD hS hlv
  obtain ⟨hx, hb, hml, hown, hts, hK, hlo, hr, hA, hE⟩ := C
  obtain ⟨q, hq⟩ := cWd_at (Y := Y) ha
  rw [cE_B hK'] at hq
  exact va_bald hx hb hK hP q 0 hq rfl (vp_in_nI hk hN) d (by rw [nI_clamp (Nat.lt_trans hk hN)]; exact kk H locs ls hP hD hS hlv)
theorem cg_aaload (C : cC p s m args meth c cc nL ret A D Y tp dp own) {a : Nat} (k : Nat) (ha : a ∈ cL S) (hK' : cK S a = 17) (hk : k < cn S a) (hN : cn S a < 2 ^ 31) (d : decode cc pc = .ok (.aaload, 1)) (kk : cG p l e R s m args below meth c A D Y nL Q cells slots (pc + 1) lv (va_rf (cO S a k) :: st) S) : cG p l e R s m args below meth c A D Y nL Q cells slots pc lv (.int (nI k) :: .ref a :: st) S := by
  intro H locs ls hP hD hS hlv
  obtain ⟨hx, hb, hml, hown, hts, hK, hlo, hr, hA, hE⟩ := C
  obtain ⟨q, hq⟩ := cWd_at (Y := Y) ha
  rw [cE_O hK'] at hq
  exact va_aldq hx hb hK hP q 4 hq rfl (vp_in_nI hk hN) d (by rw [nI_clamp (Nat.lt_trans hk hN)]; exact kk H locs ls hP hD hS hlv)
theorem cF_seti {S : cS} {k j a : Nat} {x : Int32} (hj : j < (kF.getD k []).length) (hj2 : (kF.getD k []).length ≤ 32) (ht : (kF.getD k []).getD j 0 = 0) : (cF S k a).set j (.int x) = cF (cSi S (32 * k + j) a x) k a := by
  unfold cF
  apply List.ext_getElem?
  intro i
  rw [List.getElem?_set]
  by_cases e : j = i
  · subst e
    rw [if_pos rfl, if_pos (by simpa using hj), List.getElem?_map, List.getElem?_range hj]
    show _ = some (cV _ k j a)
    unfold cV
    rw [if_pos ht]
    show _ = some (Value.int (mU (ci S) (32 * k + j) a x (32 * k + j) a))
    rw [mU_at]
  · rw [if_neg e]
    by_cases hi : i < (kF.getD k []).length
    · rw [List.getElem?_map, List.getElem?_map, List.getElem?_range hi]
      show some (cV S k i a) = some (cV _ k i a)
      unfold cV
      rw [show ci (cSi S (32 * k + j) a x) (32 * k + i) a = ci S (32 * k + i) a from mU_nq (by omega)]
      rfl
    · rw [List.getElem?_eq_none (by simpa using hi), List.getElem?_eq_none (by simpa using hi)]
theorem cg_puti (C : cC p s m args meth c cc nL ret A D Y tp dp own) {a k j idx N : Nat} {C' : String} {T : u_T} {ty : Nat → FieldType} {fty : FieldType} {x : Int32} (ha : a ∈ cL S) (hK' : cK S a = k) (hk : k < 13) (hc : vwCl[kC k]? = some (C', T, N)) (hj : j < N) (hlen : (kF.getD k []).length = N) (h32 : N ≤ 32) (ht : (kF.getD k []).getD j 0 = 0) (hin : ∀ w ∈ u_ws C' T N, w ∈ cWs) (hty : ∀ k, k < N → parseFieldDescriptor (T k).2.2.1 = some (ty k)) (hnm : ∀ a, a < N → ∀ b, b < N → a ≠ b → (T a).2.1 ≠ (T b).2.1) (hl : Cond.fieldLink own idx C' (T j).2.1 (T j).2.2.1 ∈ cWs) (hR : (T j).1 = C') (hf : (T j).2.2.2 = false) (hfty : ty j = fty) (hn : narrow fty (.int x) = .int x) (hfit : fits fty (.int x) = true) (d : decode cc pc = .ok (.putfield idx, 3)) (kk : cG p l e R s m args below meth c A D Y nL Q cells slots (pc + 3) lv st (cSi S (32 * k + j) a x)) : cG p l e R s m args below meth c A D Y nL Q cells slots pc lv (.int x :: .ref a :: st) S := by
  intro H locs ls hP hD hS hlv
  obtain ⟨hx, hb, hml, hown, hts, hK, hlo, hr, hA, hE⟩ := C
  obtain ⟨q, hq0⟩ := cWd_at (Y := Y) ha
  have hq := hq0
  rw [cE_o hK' hk] at hq
  refine va_put (ref := C') (C := C') (T := T) (N := N) (ci := kC k) (v := .int x) (ty := fty) hx hb hts hin ty hty hnm hown hK hP hD hS q hq hc j hj (hts _ hl) (fun x h => by rw [← hR]; exact h) hf (by rw [← hfty]; exact hty j hj) hn hfit (by unfold cF; rw [List.length_map, List.length_range, hlen]; exact hj) d (fun H1 locs1 hP1 hD1 hS1 => ?_)
  have hs : (cWd Y S).set q (a, .inr (kC k, (cF S k a).set j (.int x))) = cWd Y (cSi S (32 * k + j) a x) :=
    cWd_set hD ha hq0 rfl ((cE_o (S := cSi S (32 * k + j) a x) hK' hk).trans (by rw [cF_seti (by omega) (by omega) ht])) (fun b hb => cE_eq rfl (fun q => mU_ne hb) (fun _ => rfl) (fun _ => rfl) rfl rfl rfl rfl)
  rw [hs] at hP1 hD1
  exact kk H1 locs1 ls hP1 hD1 hS1 hlv
theorem cg_iastore (C : cC p s m args meth c cc nL ret A D Y tp dp own) {a : Nat} {x : Int32} (k : Nat) (ha : a ∈ cL S) (hK' : cK S a = 14) (hk : k < cn S a) (hN : cn S a < 2 ^ 31) (d : decode cc pc = .ok (.iastore, 1)) (kk : cG p l e R s m args below meth c A D Y nL Q cells slots (pc + 1) lv st (cSI S a k x)) : cG p l e R s m args below meth c A D Y nL Q cells slots pc lv (.int x :: .int (nI k) :: .ref a :: st) S := by
  intro H locs ls hP hD hS hlv
  obtain ⟨hx, hb, hml, hown, hts, hK, hlo, hr, hA, hE⟩ := C
  obtain ⟨q, hq0⟩ := cWd_at (Y := Y) ha
  have hq := hq0
  rw [cE_I hK'] at hq
  refine va_iast hx hb hK hP hD hS q 1 hq rfl (vp_in_nI hk hN) d (fun H1 locs1 hP1 hD1 hS1 => ?_)
  rw [nI_clamp (Nat.lt_trans hk hN)] at hP1 hD1
  have hs : (cWd Y S).set q (a, .inl (Y.2.1, cn S a, .inl (upd (cI S a) k x))) = cWd Y (cSI S a k x) :=
    cWd_set hD ha hq0 rfl ((cE_I (S := cSI S a k x) hK').trans (by rw [show cI (cSI S a k x) a = upd (cI S a) k x from mU_s]; rfl)) (fun b hb => cE_eq rfl (fun _ => rfl) (fun _ => rfl) (fun _ => rfl) rfl (mU_n hb) rfl rfl)
  rw [hs] at hP1 hD1
  exact kk H1 locs1 ls hP1 hD1 hS1 hlv
theorem cg_iret (C : cC p s m args meth c cc nL (some .int) A D Y tp dp own) {x : Int32} {post : Int32 → cS → Prop} {mc ms : Nat} (h : post x S) (d : decode cc pc = .ok (.ireturn, 1)) (hc : cells ≤ mc) (hs : slots ≤ ms) : cG p l e R s m args below meth c A D Y nL (MQ below (cQi post D Y A) args s mc ms A) cells slots pc lv [.int x] S := by
  intro H locs ls hP hD hS hlv
  obtain ⟨hx, hb, hml, hown, hts, hK, hlo, hr, hA, hE⟩ := C
  exact W.widen hc hs (W.iret hx hb hr (fun t ht hW => ⟨⟨x, S, rfl, h, by rw [ht]; exact hP, va_K.moved hW.alike hK, hD⟩, hS.F ht⟩) hS.2.2 d hlo)
theorem cg_zret (C : cC p s m args meth c cc nL (some .boolean) A D Y tp dp own) {x : Int32} {post : Int32 → cS → Prop} {mc ms : Nat} (hn : narrow .boolean (.int x) = .int x) (h : post x S) (d : decode cc pc = .ok (.ireturn, 1)) (hc : cells ≤ mc) (hs : slots ≤ ms) : cG p l e R s m args below meth c A D Y nL (MQ below (cQi post D Y A) args s mc ms A) cells slots pc lv [.int x] S := by
  intro H locs ls hP hD hS hlv
  obtain ⟨hx, hb, hml, hown, hts, hK, hlo, hr, hA, hE⟩ := C
  exact W.widen hc hs (W.zret hx hb hr hn (fun t ht hW => ⟨⟨x, S, rfl, h, by rw [ht]; exact hP, va_K.moved hW.alike hK, hD⟩, hS.F ht⟩) hS.2.2 d hlo)
theorem cg_cret (C : cC p s m args meth c cc nL (some .char) A D Y tp dp own) {x : Int32} {post : Int32 → cS → Prop} {mc ms : Nat} (hn : narrow .char (.int x) = .int x) (h : post x S) (d : decode cc pc = .ok (.ireturn, 1)) (hc : cells ≤ mc) (hs : slots ≤ ms) : cG p l e R s m args below meth c A D Y nL (MQ below (cQi post D Y A) args s mc ms A) cells slots pc lv [.int x] S := by
  intro H locs ls hP hD hS hlv
  obtain ⟨hx, hb, hml, hown, hts, hK, hlo, hr, hA, hE⟩ := C
  exact W.widen hc hs (W.zret hx hb hr hn (fun t ht hW => ⟨⟨x, S, rfl, h, by rw [ht]; exact hP, va_K.moved hW.alike hK, hD⟩, hS.F ht⟩) hS.2.2 d hlo)
theorem cg_lret (C : cC p s m args meth c cc nL (some .long) A D Y tp dp own) {x : Int64} {post : Int64 → cS → Prop} {mc ms : Nat} (h : post x S) (d : decode cc pc = .ok (.lreturn, 1)) (hc : cells ≤ mc) (hs : slots ≤ ms) : cG p l e R s m args below meth c A D Y nL (MQ below (cQl post D Y A) args s mc ms A) cells slots pc lv [.long x] S := by
  intro H locs ls hP hD hS hlv
  obtain ⟨hx, hb, hml, hown, hts, hK, hlo, hr, hA, hE⟩ := C
  exact W.widen hc hs (W.lret hx hb hr (fun t ht hW => ⟨⟨x, S, rfl, h, by rw [ht]; exact hP, va_K.moved hW.alike hK, hD⟩, hS.F ht⟩) hS.2.2 d hlo)
theorem cg_vret (C : cC p s m args meth c cc nL none A D Y tp dp own) {post : cS → Prop} {mc ms : Nat} (h : post S) (d : decode cc pc = .ok (.return_, 1)) (hc : cells ≤ mc) (hs : slots ≤ ms) : cG p l e R s m args below meth c A D Y nL (MQ below (cQv post D Y A) args s mc ms A) cells slots pc lv [] S := by
  intro H locs ls hP hD hS hlv
  obtain ⟨hx, hb, hml, hown, hts, hK, hlo, hr, hA, hE⟩ := C
  exact W.widen hc hs (W.vret hx hb hr (fun t ht hW => ⟨⟨S, rfl, h, by rw [ht]; exact hP, va_K.moved hW.alike hK, hD⟩, hS.F ht⟩) hS.2.2 d hlo)
/-- a callee: how it is called, by its number in the caller's pool of constants -/
def cCal (sb : Bool) (own : String) (idx : Nat) (y : MethodName) (cc : ByteArray) (nL : Nat) (ret : Option FieldType) (n : Nat) : Prop := (y.cls ≠ "java/lang/invoke/MethodHandle" ∧ y.cls ≠ "java/lang/invoke/VarHandle") ∧ Cond.methodLink own idx y ∈ cWs ∧ Cond.initialized y.cls ∈ cWs ∧ (if sb then Cond.static y ∈ cWs else (Cond.instanceMethod y ∈ cWs ∧ Cond.selects y.cls y y ∈ cWs)) ∧ Cond.code y cc nL ret ∈ cWs ∧ (parseMethodDescriptor y.desc).map (fun d => d.parameters.length) = some n
theorem ccal_good {y : MethodName} {cc' : ByteArray} {nL' : Nat} {ret' : Option FieldType} (h : Cond.code y cc' nL' ret' ∈ cWs) : GoodIn cWs (Cond.code y cc' nL' ret' :: cWs) := by
  intro w hw
  rcases List.mem_cons.mp hw with rfl | hw
  · exact cWs_good _ h
  · exact cWs_good _ hw
theorem c_free {H : Heap} {locs : List Loc} (hD : va_D A (cWd Y S)) (hS : va_S A s.heap H locs) (hA : ∀ q, s.heap.size ≤ q → A q) : ∀ q, va_A (cWd Y S) H.size q → A q := by
  intro q h
  rcases h with ⟨k, e, h⟩ | h
  · exact hD.2 k _ h
  · exact hA q (Nat.le_trans hS.1 h)
theorem c_pre {H : Heap} {locs : List Loc} {av : List Value} (C : cC p s m args meth c cc nL ret A D Y tp dp own) (hP : va_P D vwCl (cWd Y S) H) (hD : va_D A (cWd Y S)) (hS : va_S A s.heap H locs) : FrameBlind (va_Pc av (cPre D Y tp dp S H.size)) ∧ ∀ U : State, U.heap = H → s.WarmedH U.vm → va_Pc av (cPre D Y tp dp S H.size) av.toArray U := by
  obtain ⟨hx, hb, hml, hown, hts, hK, hlo, hr, hA, hE⟩ := C
  refine ⟨fun a' U g' mk q => ?_, fun U hU hW => ?_⟩
  · obtain ⟨q0, q1, qP, qK, qD, qE⟩ := q
    exact ⟨q0, q1, qP, va_K.moved (u := U) (U := U.calling g' mk a') (Vm.Alike.refl U.vm) qK, qD, qE.same a' g' mk⟩
  · exact ⟨rfl, by rw [hU], by rw [hU]; exact hP, va_K.moved hW.alike hK, hD.weaken (fun _ _ _ _ => trivial), by rw [hU]; exact hE.go hW hS (c_free hD hS hA)⟩
theorem cg_callsi (C : cC p s m args meth c cc nL ret A D Y tp dp own) {y : MethodName} {cc' : ByteArray} {nL' idx n fr mc ms lo F M N L : Nat} {ret' : Option FieldType} {As : List Value} {stk : List Value} {post : Int32 → cS → Prop} (hM : cMet (cQi post) l y cc' nL' ret' fr mc ms lo As S dp) (hc : cCal true own idx y cc' nL' ret' n) (hn : As.length = n) (hR : fr + 1 ≤ F ∧ 8 + (nL' + 11) + lo ≤ L) (hm : cells + mc ≤ M ∧ slots + ms ≤ N) (hst : stk = As.reverse ++ st) (hsz : (st.map fun v => v.category).sum ≤ 8) (d : decode cc pc = .ok (.invokestatic idx, 3)) (kk : ∀ (r : Int32) (S' : cS), post r S' → cG p l e (cRm F M N L) s m args below meth c A D Y nL Q (cells + mc) (slots + ms) (pc + 3) lv (.int r :: st) S') : cG p l e (cRm F M N L) s m args below meth c A D Y nL Q cells slots pc lv stk S := by
  intro H locs ls hP hD hS hlv
  have hp := c_pre (av := As) C hP hD hS
  obtain ⟨hx, hb, hml, hown, hts, hK, hlo, hr, hA, hE⟩ := C
  have hF := c_free hD hS hA
  obtain ⟨h1, h2, h3, h4, h5, h6⟩ := hc
  have hb1 : CallB (cRm F M N L) s args own idx y cc' nL' ret' (Cond.code y cc' nL' ret' :: cWs) (cRm fr mc ms lo) mc ms n := callB_of n hts (ccal_good h5) rfl rfl rfl (hts _ h3) (hts _ h2) ⟨h1.1, h1.2, h6⟩ hR
  refine va_calli (va_runS (As := As) (rest := st) ⟨hx, hb, hml, hown, hts⟩ (hM D Y tp H.size) ⟨hb1, hts _ h4⟩ hp rfl hn hlv.1 hst (lv_room hsz) d hm) hS (fun q _ h => hF q h) hF (fun r u t H1 locs1 ht hvm hw hB hz1 hk1 hS1 => ?_)
  obtain ⟨hP1, hK1, hD1⟩ := hB
  rw [ht] at hP1
  exact kk r u hw H1 locs1 ls hP1 (hD1.weaken (fun k q _ h => hF q.1 h)) hS1 hlv
theorem cg_callsl (C : cC p s m args meth c cc nL ret A D Y tp dp own) {y : MethodName} {cc' : ByteArray} {nL' idx n fr mc ms lo F M N L : Nat} {ret' : Option FieldType} {As : List Value} {stk : List Value} {post : Int64 → cS → Prop} (hM : cMet (cQl post) l y cc' nL' ret' fr mc ms lo As S dp) (hc : cCal true own idx y cc' nL' ret' n) (hn : As.length = n) (hR : fr + 1 ≤ F ∧ 8 + (nL' + 11) + lo ≤ L) (hm : cells + mc ≤ M ∧ slots + ms ≤ N) (hst : stk = As.reverse ++ st) (hsz : (st.map fun v => v.category).sum ≤ 8) (d : decode cc pc = .ok (.invokestatic idx, 3)) (kk : ∀ (r : Int64) (S' : cS), post r S' → cG p l e (cRm F M N L) s m args below meth c A D Y nL Q (cells + mc) (slots + ms) (pc + 3) lv (.long r :: st) S') : cG p l e (cRm F M N L) s m args below meth c A D Y nL Q cells slots pc lv stk S := by
  intro H locs ls hP hD hS hlv
  have hp := c_pre (av := As) C hP hD hS
  obtain ⟨hx, hb, hml, hown, hts, hK, hlo, hr, hA, hE⟩ := C
  have hF := c_free hD hS hA
  obtain ⟨h1, h2, h3, h4, h5, h6⟩ := hc
  have hb1 : CallB (cRm F M N L) s args own idx y cc' nL' ret' (Cond.code y cc' nL' ret' :: cWs) (cRm fr mc ms lo) mc ms n := callB_of n hts (ccal_good h5) rfl rfl rfl (hts _ h3) (hts _ h2) ⟨h1.1, h1.2, h6⟩ hR
  refine va_calll (va_runS (As := As) (rest := st) ⟨hx, hb, hml, hown, hts⟩ (hM D Y tp H.size) ⟨hb1, hts _ h4⟩ hp rfl hn hlv.1 hst (lv_room hsz) d hm) hS (fun q _ h => hF q h) hF (fun r u t H1 locs1 ht hvm hw hB hz1 hk1 hS1 => ?_)
  obtain ⟨hP1, hK1, hD1⟩ := hB
  rw [ht] at hP1
  exact kk r u hw H1 locs1 ls hP1 (hD1.weaken (fun k q _ h => hF q.1 h)) hS1 hlv
theorem c_recv {H : Heap} {a k N : Nat} {C' : String} {T : u_T} (hK : va_K D vwCl (cTys Y) s) (hP : va_P D vwCl (cWd Y S) H) (ha : a ∈ cL S) (hK' : cK S a = k) (hk : k < 13) (hc : vwCl[kC k]? = some (C', T, N)) : ∃ cell : Cell, H[a]? = some cell ∧ cell.vm.isStatics = false ∧ s.vm.findClass C' = some cell.cls := by
  obtain ⟨q, hq⟩ := cWd_at (Y := Y) ha
  rw [cE_o hK' hk] at hq
  exact va_recv hK hP hc hq
theorem cg_calli (C : cC p s m args meth c cc nL ret A D Y tp dp own) {y : MethodName} {cc' : ByteArray} {nL' idx n fr mc ms lo F M N L a k NN : Nat} {T : u_T} {ret' : Option FieldType} {As : List Value} {stk : List Value} {post : Int32 → cS → Prop} (hM : cMet (cQi post) l y cc' nL' ret' fr mc ms lo (.ref a :: As) S dp) (hc : cCal false own idx y cc' nL' ret' n) (ha : a ∈ cL S) (hK' : cK S a = k) (hk : k < 13) (hcl : vwCl[kC k]? = some (y.cls, T, NN)) (hn : As.length = n) (hR : fr + 1 ≤ F ∧ 8 + (nL' + 11) + lo ≤ L) (hm : cells + mc ≤ M ∧ slots + ms ≤ N) (hst : stk = As.reverse ++ .ref a :: st) (hsz : (st.map fun v => v.category).sum ≤ 8) (d : decode cc pc = .ok (.invokevirtual idx, 3)) (kk : ∀ (r : Int32) (S' : cS), post r S' → cG p l e (cRm F M N L) s m args below meth c A D Y nL Q (cells + mc) (slots + ms) (pc + 3) lv (.int r :: st) S') : cG p l e (cRm F M N L) s m args below meth c A D Y nL Q cells slots pc lv stk S := by
  intro H locs ls hP hD hS hlv
  have hp := c_pre (av := .ref a :: As) C hP hD hS
  obtain ⟨hx, hb, hml, hown, hts, hK, hlo, hr, hA, hE⟩ := C
  have hF := c_free hD hS hA
  obtain ⟨h1, h2, h3, h4, h5, h6⟩ := hc
  have hb1 : CallB (cRm F M N L) s args own idx y cc' nL' ret' (Cond.code y cc' nL' ret' :: cWs) (cRm fr mc ms lo) mc ms n := callB_of n hts (ccal_good h5) rfl rfl rfl (hts _ h3) (hts _ h2) ⟨h1.1, h1.2, h6⟩ hR
  refine va_calli (va_runV (As := As) (rest := st) (C := y.cls) ⟨hx, hb, hml, hown, hts⟩ (hM D Y tp H.size) ⟨hb1, hts _ h4.1, hts _ h4.2⟩ ⟨hp.1, c_recv hK hP ha hK' hk hcl, hp.2⟩ rfl hn hlv.1 hst (lv_room hsz) d hm) hS (fun q _ h => hF q h) hF (fun r u t H1 locs1 ht hvm hw hB hz1 hk1 hS1 => ?_)
  obtain ⟨hP1, hK1, hD1⟩ := hB
  rw [ht] at hP1
  exact kk r u hw H1 locs1 ls hP1 (hD1.weaken (fun k q _ h => hF q.1 h)) hS1 hlv

theorem cg_iadd (C : cC p s m args meth c cc nL ret A D Y tp dp own) {x y : Int32} (d : decode cc pc = .ok (.iadd, 1)) (kk : cG p l e R s m args below meth c A D Y nL Q cells slots (pc + 1) lv (.int (x + y) :: st) S) : cG p l e R s m args below meth c A D Y nL Q cells slots pc lv (.int y :: .int x :: st) S := fun H locs ls hP hD hS hl => lv_iadd C.1 C.2.1 d (kk H locs ls hP hD hS hl)
theorem cg_isub (C : cC p s m args meth c cc nL ret A D Y tp dp own) {x y : Int32} (d : decode cc pc = .ok (.isub, 1)) (kk : cG p l e R s m args below meth c A D Y nL Q cells slots (pc + 1) lv (.int (x - y) :: st) S) : cG p l e R s m args below meth c A D Y nL Q cells slots pc lv (.int y :: .int x :: st) S := fun H locs ls hP hD hS hl => lv_isub C.1 C.2.1 d (kk H locs ls hP hD hS hl)
theorem cg_imul (C : cC p s m args meth c cc nL ret A D Y tp dp own) {x y : Int32} (d : decode cc pc = .ok (.imul, 1)) (kk : cG p l e R s m args below meth c A D Y nL Q cells slots (pc + 1) lv (.int (x * y) :: st) S) : cG p l e R s m args below meth c A D Y nL Q cells slots pc lv (.int y :: .int x :: st) S := fun H locs ls hP hD hS hl => lv_imul C.1 C.2.1 d (kk H locs ls hP hD hS hl)
theorem cg_iand (C : cC p s m args meth c cc nL ret A D Y tp dp own) {x y : Int32} (d : decode cc pc = .ok (.iand, 1)) (kk : cG p l e R s m args below meth c A D Y nL Q cells slots (pc + 1) lv (.int (x &&& y) :: st) S) : cG p l e R s m args below meth c A D Y nL Q cells slots pc lv (.int y :: .int x :: st) S := fun H locs ls hP hD hS hl => lv_iand C.1 C.2.1 d (kk H locs ls hP hD hS hl)
theorem cg_ior (C : cC p s m args meth c cc nL ret A D Y tp dp own) {x y : Int32} (d : decode cc pc = .ok (.ior, 1)) (kk : cG p l e R s m args below meth c A D Y nL Q cells slots (pc + 1) lv (.int (x ||| y) :: st) S) : cG p l e R s m args below meth c A D Y nL Q cells slots pc lv (.int y :: .int x :: st) S := fun H locs ls hP hD hS hl => lv_ior C.1 C.2.1 d (kk H locs ls hP hD hS hl)
theorem cg_ishl (C : cC p s m args meth c cc nL ret A D Y tp dp own) {x y : Int32} (d : decode cc pc = .ok (.ishl, 1)) (kk : cG p l e R s m args below meth c A D Y nL Q cells slots (pc + 1) lv (.int (x <<< (y &&& 31)) :: st) S) : cG p l e R s m args below meth c A D Y nL Q cells slots pc lv (.int y :: .int x :: st) S := fun H locs ls hP hD hS hl => lv_ishl C.1 C.2.1 d (kk H locs ls hP hD hS hl)
theorem cg_ishr (C : cC p s m args meth c cc nL ret A D Y tp dp own) {x y : Int32} (d : decode cc pc = .ok (.ishr, 1)) (kk : cG p l e R s m args below meth c A D Y nL Q cells slots (pc + 1) lv (.int (x >>> (y &&& 31)) :: st) S) : cG p l e R s m args below meth c A D Y nL Q cells slots pc lv (.int y :: .int x :: st) S := fun H locs ls hP hD hS hl => lv_ishr C.1 C.2.1 d (kk H locs ls hP hD hS hl)
theorem cg_idiv (C : cC p s m args meth c cc nL ret A D Y tp dp own) {x y : Int32} (hne : ¬ y = 0) (d : decode cc pc = .ok (.idiv, 1)) (kk : cG p l e R s m args below meth c A D Y nL Q cells slots (pc + 1) lv (.int (x / y) :: st) S) : cG p l e R s m args below meth c A D Y nL Q cells slots pc lv (.int y :: .int x :: st) S := fun H locs ls hP hD hS hl => lv_idiv C.1 C.2.1 d hne (kk H locs ls hP hD hS hl)
theorem cg_irem (C : cC p s m args meth c cc nL ret A D Y tp dp own) {x y : Int32} (hne : ¬ y = 0) (d : decode cc pc = .ok (.irem, 1)) (kk : cG p l e R s m args below meth c A D Y nL Q cells slots (pc + 1) lv (.int (x - x / y * y) :: st) S) : cG p l e R s m args below meth c A D Y nL Q cells slots pc lv (.int y :: .int x :: st) S := fun H locs ls hP hD hS hl => lv_irem C.1 C.2.1 d hne (kk H locs ls hP hD hS hl)
theorem cg_ladd (C : cC p s m args meth c cc nL ret A D Y tp dp own) {x y : Int64} (d : decode cc pc = .ok (.ladd, 1)) (kk : cG p l e R s m args below meth c A D Y nL Q cells slots (pc + 1) lv (.long (x + y) :: st) S) : cG p l e R s m args below meth c A D Y nL Q cells slots pc lv (.long y :: .long x :: st) S := fun H locs ls hP hD hS hl => lv_ladd C.1 C.2.1 d (kk H locs ls hP hD hS hl)
theorem cg_lmul (C : cC p s m args meth c cc nL ret A D Y tp dp own) {x y : Int64} (d : decode cc pc = .ok (.lmul, 1)) (kk : cG p l e R s m args below meth c A D Y nL Q cells slots (pc + 1) lv (.long (x * y) :: st) S) : cG p l e R s m args below meth c A D Y nL Q cells slots pc lv (.long y :: .long x :: st) S := fun H locs ls hP hD hS hl => lv_lmul C.1 C.2.1 d (kk H locs ls hP hD hS hl)
theorem cg_lsub (C : cC p s m args meth c cc nL ret A D Y tp dp own) {x y : Int64} (d : decode cc pc = .ok (.lsub, 1)) (kk : cG p l e R s m args below meth c A D Y nL Q cells slots (pc + 1) lv (.long (x - y) :: st) S) : cG p l e R s m args below meth c A D Y nL Q cells slots pc lv (.long y :: .long x :: st) S := fun H locs ls hP hD hS hl => lv_lsub C.1 C.2.1 d (kk H locs ls hP hD hS hl)
theorem cg_ldiv (C : cC p s m args meth c cc nL ret A D Y tp dp own) {x y : Int64} (hne : ¬ y = 0) (d : decode cc pc = .ok (.ldiv, 1)) (kk : cG p l e R s m args below meth c A D Y nL Q cells slots (pc + 1) lv (.long (x / y) :: st) S) : cG p l e R s m args below meth c A D Y nL Q cells slots pc lv (.long y :: .long x :: st) S := fun H locs ls hP hD hS hl => lv_ldiv C.1 C.2.1 d hne (kk H locs ls hP hD hS hl)
theorem cg_lrem (C : cC p s m args meth c cc nL ret A D Y tp dp own) {x y : Int64} (hne : ¬ y = 0) (d : decode cc pc = .ok (.lrem, 1)) (kk : cG p l e R s m args below meth c A D Y nL Q cells slots (pc + 1) lv (.long (x - x / y * y) :: st) S) : cG p l e R s m args below meth c A D Y nL Q cells slots pc lv (.long y :: .long x :: st) S := fun H locs ls hP hD hS hl => lv_lrem C.1 C.2.1 d hne (kk H locs ls hP hD hS hl)
theorem cg_iconst (C : cC p s m args meth c cc nL ret A D Y tp dp own) {n : Int} {x : Int32} (h : Int32.ofInt n = x) (d : decode cc pc = .ok (.iconst n, 1)) (kk : cG p l e R s m args below meth c A D Y nL Q cells slots (pc + 1) lv (.int x :: st) S) : cG p l e R s m args below meth c A D Y nL Q cells slots pc lv (st) S := fun H locs ls hP hD hS hl => lv_iconst C.1 C.2.1 d h (kk H locs ls hP hD hS hl)
theorem cg_lconst (C : cC p s m args meth c cc nL ret A D Y tp dp own) {n : Fin 2} {x : Int64} (h : Int64.ofNat (n : Nat) = x) (d : decode cc pc = .ok (.lconst n, 1)) (kk : cG p l e R s m args below meth c A D Y nL Q cells slots (pc + 1) lv (.long x :: st) S) : cG p l e R s m args below meth c A D Y nL Q cells slots pc lv (st) S := fun H locs ls hP hD hS hl => lv_lconst C.1 C.2.1 d h (kk H locs ls hP hD hS hl)
theorem cg_bipush (C : cC p s m args meth c cc nL ret A D Y tp dp own) {n : Int} {x : Int32} (h : (Int8.ofInt n).toInt32 = x) (d : decode cc pc = .ok (.bipush n, 2)) (kk : cG p l e R s m args below meth c A D Y nL Q cells slots (pc + 2) lv (.int x :: st) S) : cG p l e R s m args below meth c A D Y nL Q cells slots pc lv (st) S := fun H locs ls hP hD hS hl => lv_bipush C.1 C.2.1 d h (kk H locs ls hP hD hS hl)
theorem cg_sipush (C : cC p s m args meth c cc nL ret A D Y tp dp own) {n : Int} {x : Int32} (h : (Int16.ofInt n).toInt32 = x) (d : decode cc pc = .ok (.sipush n, 3)) (kk : cG p l e R s m args below meth c A D Y nL Q cells slots (pc + 3) lv (.int x :: st) S) : cG p l e R s m args below meth c A D Y nL Q cells slots pc lv (st) S := fun H locs ls hP hD hS hl => lv_sipush C.1 C.2.1 d h (kk H locs ls hP hD hS hl)
theorem cg_ldc2 (C : cC p s m args meth c cc nL ret A D Y tp dp own) {idx : Nat} {x : Int64} (h : Cond.constantLong own idx x ∈ cWs) (d : decode cc pc = .ok (.ldc2_w idx, 3)) (kk : cG p l e R s m args below meth c A D Y nL Q cells slots (pc + 3) lv (.long x :: st) S) : cG p l e R s m args below meth c A D Y nL Q cells slots pc lv (st) S := fun H locs ls hP hD hS hl => lv_ldc2 C.1 C.2.1 C.2.2.2.1 (C.2.2.2.2.1 _ h) d (kk H locs ls hP hD hS hl)
theorem cg_iload (C : cC p s m args meth c cc nL ret A D Y tp dp own) {i : Nat} {x : Int32} (k : Nat) (h : lv[k]? = some (i, .int x)) (d : decode cc pc = .ok (.iload i, 2)) (kk : cG p l e R s m args below meth c A D Y nL Q cells slots (pc + 2) lv (.int x :: st) S) : cG p l e R s m args below meth c A D Y nL Q cells slots pc lv (st) S := fun H locs ls hP hD hS hl => lv_iload C.1 C.2.1 d (lv_at hl k h) (kk H locs ls hP hD hS hl)
theorem cg_iload_n (C : cC p s m args meth c cc nL ret A D Y tp dp own) {j : Fin 4} {i : Nat} {x : Int32} (hi : (j : Nat) = i) (k : Nat) (h : lv[k]? = some (i, .int x)) (d : decode cc pc = .ok (.iload_n j, 1)) (kk : cG p l e R s m args below meth c A D Y nL Q cells slots (pc + 1) lv (.int x :: st) S) : cG p l e R s m args below meth c A D Y nL Q cells slots pc lv (st) S := fun H locs ls hP hD hS hl => lv_iload_n C.1 C.2.1 d hi (lv_at hl k h) (kk H locs ls hP hD hS hl)
theorem cg_lload (C : cC p s m args meth c cc nL ret A D Y tp dp own) {i : Nat} {x : Int64} (k : Nat) (h : lv[k]? = some (i, .long x)) (d : decode cc pc = .ok (.lload i, 2)) (kk : cG p l e R s m args below meth c A D Y nL Q cells slots (pc + 2) lv (.long x :: st) S) : cG p l e R s m args below meth c A D Y nL Q cells slots pc lv (st) S := fun H locs ls hP hD hS hl => lv_lload C.1 C.2.1 d (lv_at hl k h) (kk H locs ls hP hD hS hl)
theorem cg_lload_n (C : cC p s m args meth c cc nL ret A D Y tp dp own) {j : Fin 4} {i : Nat} {x : Int64} (hi : (j : Nat) = i) (k : Nat) (h : lv[k]? = some (i, .long x)) (d : decode cc pc = .ok (.lload_n j, 1)) (kk : cG p l e R s m args below meth c A D Y nL Q cells slots (pc + 1) lv (.long x :: st) S) : cG p l e R s m args below meth c A D Y nL Q cells slots pc lv (st) S := fun H locs ls hP hD hS hl => lv_lload_n C.1 C.2.1 d hi (lv_at hl k h) (kk H locs ls hP hD hS hl)
theorem cg_aload (C : cC p s m args meth c cc nL ret A D Y tp dp own) {i : Nat} {x : Nat} (k : Nat) (h : lv[k]? = some (i, .ref x)) (d : decode cc pc = .ok (.aload i, 2)) (kk : cG p l e R s m args below meth c A D Y nL Q cells slots (pc + 2) lv (.ref x :: st) S) : cG p l e R s m args below meth c A D Y nL Q cells slots pc lv (st) S := fun H locs ls hP hD hS hl => lv_aload C.1 C.2.1 d (lv_at hl k h) (kk H locs ls hP hD hS hl)
theorem cg_aload_n (C : cC p s m args meth c cc nL ret A D Y tp dp own) {j : Fin 4} {i : Nat} {x : Nat} (hi : (j : Nat) = i) (k : Nat) (h : lv[k]? = some (i, .ref x)) (d : decode cc pc = .ok (.aload_n j, 1)) (kk : cG p l e R s m args below meth c A D Y nL Q cells slots (pc + 1) lv (.ref x :: st) S) : cG p l e R s m args below meth c A D Y nL Q cells slots pc lv (st) S := fun H locs ls hP hD hS hl => lv_aload_n C.1 C.2.1 d hi (lv_at hl k h) (kk H locs ls hP hD hS hl)
theorem cg_istore (C : cC p s m args meth c cc nL ret A D Y tp dp own) {i : Nat} {x : Int32} (hn : i < nL) (h : (i, Value.int x) :: lv.filter (fun q => !(q.1 == i) && !(q.1 + 1 == i && q.2.category == 2)) = lv') (d : decode cc pc = .ok (.istore i, 2)) (kk : cG p l e R s m args below meth c A D Y nL Q cells slots (pc + 2) lv' (st) S) : cG p l e R s m args below meth c A D Y nL Q cells slots pc lv (.int x :: st) S := fun H locs ls hP hD hS hl => lv_istore C.1 C.2.1 d hl hn h (fun ls' hl' => kk H locs ls' hP hD hS hl')
theorem cg_istore_n (C : cC p s m args meth c cc nL ret A D Y tp dp own) {j : Fin 4} {i : Nat} {x : Int32} (hi : (j : Nat) = i) (hn : i < nL) (h : (i, Value.int x) :: lv.filter (fun q => !(q.1 == i) && !(q.1 + 1 == i && q.2.category == 2)) = lv') (d : decode cc pc = .ok (.istore_n j, 1)) (kk : cG p l e R s m args below meth c A D Y nL Q cells slots (pc + 1) lv' (st) S) : cG p l e R s m args below meth c A D Y nL Q cells slots pc lv (.int x :: st) S := fun H locs ls hP hD hS hl => lv_istore_n C.1 C.2.1 d hi hl hn h (fun ls' hl' => kk H locs ls' hP hD hS hl')
theorem cg_lstore (C : cC p s m args meth c cc nL ret A D Y tp dp own) {i : Nat} {x : Int64} (hn : i + 1 < nL) (h : (i, Value.long x) :: lv.filter (fun q => !(q.1 == i) && (!(q.1 == i + 1) && !(q.1 + 1 == i && q.2.category == 2))) = lv') (d : decode cc pc = .ok (.lstore i, 2)) (kk : cG p l e R s m args below meth c A D Y nL Q cells slots (pc + 2) lv' (st) S) : cG p l e R s m args below meth c A D Y nL Q cells slots pc lv (.long x :: st) S := fun H locs ls hP hD hS hl => lv_lstore C.1 C.2.1 d hl hn h (fun ls' hl' => kk H locs ls' hP hD hS hl')
theorem cg_lstore_n (C : cC p s m args meth c cc nL ret A D Y tp dp own) {j : Fin 4} {i : Nat} {x : Int64} (hi : (j : Nat) = i) (hn : i + 1 < nL) (h : (i, Value.long x) :: lv.filter (fun q => !(q.1 == i) && (!(q.1 == i + 1) && !(q.1 + 1 == i && q.2.category == 2))) = lv') (d : decode cc pc = .ok (.lstore_n j, 1)) (kk : cG p l e R s m args below meth c A D Y nL Q cells slots (pc + 1) lv' (st) S) : cG p l e R s m args below meth c A D Y nL Q cells slots pc lv (.long x :: st) S := fun H locs ls hP hD hS hl => lv_lstore_n C.1 C.2.1 d hi hl hn h (fun ls' hl' => kk H locs ls' hP hD hS hl')
theorem cg_iinc (C : cC p s m args meth c cc nL ret A D Y tp dp own) {i : Nat} {n : Int} {x y : Int32} (k : Nat) (hk : lv[k]? = some (i, .int x)) (hy : x + Int32.ofInt n = y) (hn : i < nL) (h : (i, Value.int y) :: lv.filter (fun q => !(q.1 == i) && !(q.1 + 1 == i && q.2.category == 2)) = lv') (d : decode cc pc = .ok (.iinc i n, 3)) (kk : cG p l e R s m args below meth c A D Y nL Q cells slots (pc + 3) lv' (st) S) : cG p l e R s m args below meth c A D Y nL Q cells slots pc lv (st) S := fun H locs ls hP hD hS hl => lv_iinc C.1 C.2.1 d hl hk hy hn h (fun ls' hl' => kk H locs ls' hP hD hS hl')
theorem cg_i2l (C : cC p s m args meth c cc nL ret A D Y tp dp own) {x : Int32} (d : decode cc pc = .ok (.i2l, 1)) (kk : cG p l e R s m args below meth c A D Y nL Q cells slots (pc + 1) lv (.long x.toInt64 :: st) S) : cG p l e R s m args below meth c A D Y nL Q cells slots pc lv (.int x :: st) S := fun H locs ls hP hD hS hl => lv_i2l C.1 C.2.1 d rfl (kk H locs ls hP hD hS hl)
theorem cg_l2i (C : cC p s m args meth c cc nL ret A D Y tp dp own) {x : Int64} (d : decode cc pc = .ok (.l2i, 1)) (kk : cG p l e R s m args below meth c A D Y nL Q cells slots (pc + 1) lv (.int x.toInt32 :: st) S) : cG p l e R s m args below meth c A D Y nL Q cells slots pc lv (.long x :: st) S := fun H locs ls hP hD hS hl => lv_l2i C.1 C.2.1 d rfl (kk H locs ls hP hD hS hl)
theorem cg_i2c (C : cC p s m args meth c cc nL ret A D Y tp dp own) {x : Int32} (d : decode cc pc = .ok (.i2c, 1)) (kk : cG p l e R s m args below meth c A D Y nL Q cells slots (pc + 1) lv (.int (x.toUInt32 % 65536).toInt32 :: st) S) : cG p l e R s m args below meth c A D Y nL Q cells slots pc lv (.int x :: st) S := fun H locs ls hP hD hS hl => lv_i2c C.1 C.2.1 d rfl (kk H locs ls hP hD hS hl)
theorem cg_i2b (C : cC p s m args meth c cc nL ret A D Y tp dp own) {x : Int32} (d : decode cc pc = .ok (.i2b, 1)) (kk : cG p l e R s m args below meth c A D Y nL Q cells slots (pc + 1) lv (.int x.toInt8.toInt32 :: st) S) : cG p l e R s m args below meth c A D Y nL Q cells slots pc lv (.int x :: st) S := fun H locs ls hP hD hS hl => lv_i2b C.1 C.2.1 d rfl (kk H locs ls hP hD hS hl)
theorem cg_lcmp (C : cC p s m args meth c cc nL ret A D Y tp dp own) {x y : Int64} (d : decode cc pc = .ok (.lcmp, 1)) (kk : cG p l e R s m args below meth c A D Y nL Q cells slots (pc + 1) lv (.int (lg_cmp x y) :: st) S) : cG p l e R s m args below meth c A D Y nL Q cells slots pc lv (.long y :: .long x :: st) S := fun H locs ls hP hD hS hl => W.lcmp C.1 C.2.1 d (kk H locs ls hP hD hS hl)
theorem cg_dup (C : cC p s m args meth c cc nL ret A D Y tp dp own) {x : Value} (h : x.category = 1) (d : decode cc pc = .ok (.dup, 1)) (kk : cG p l e R s m args below meth c A D Y nL Q cells slots (pc + 1) lv (x :: x :: st) S) : cG p l e R s m args below meth c A D Y nL Q cells slots pc lv (x :: st) S := fun H locs ls hP hD hS hl => lv_dup C.1 C.2.1 d h (kk H locs ls hP hD hS hl)
theorem cg_dup_x1 (C : cC p s m args meth c cc nL ret A D Y tp dp own) {x y : Value} (h : x.category = 1) (h2 : y.category = 1) (d : decode cc pc = .ok (.dup_x1, 1)) (kk : cG p l e R s m args below meth c A D Y nL Q cells slots (pc + 1) lv (x :: y :: x :: st) S) : cG p l e R s m args below meth c A D Y nL Q cells slots pc lv (x :: y :: st) S := fun H locs ls hP hD hS hl => lv_dup_x1 C.1 C.2.1 d h h2 (kk H locs ls hP hD hS hl)
theorem cg_dup2 (C : cC p s m args meth c cc nL ret A D Y tp dp own) {x y : Value} (h : x.category = 1) (h2 : y.category = 1) (d : decode cc pc = .ok (.dup2, 1)) (kk : cG p l e R s m args below meth c A D Y nL Q cells slots (pc + 1) lv (x :: y :: x :: y :: st) S) : cG p l e R s m args below meth c A D Y nL Q cells slots pc lv (x :: y :: st) S := fun H locs ls hP hD hS hl => lv_dup2_11 C.1 C.2.1 d h h2 (kk H locs ls hP hD hS hl)
theorem cg_pop (C : cC p s m args meth c cc nL ret A D Y tp dp own) {x : Value} (h : x.category = 1) (d : decode cc pc = .ok (.pop, 1)) (kk : cG p l e R s m args below meth c A D Y nL Q cells slots (pc + 1) lv (st) S) : cG p l e R s m args below meth c A D Y nL Q cells slots pc lv (x :: st) S := fun H locs ls hP hD hS hl => lv_pop C.1 C.2.1 d h (kk H locs ls hP hD hS hl)
theorem cg_goto (C : cC p s m args meth c cc nL ret A D Y tp dp own) {off : Int} (t : Nat) (ht : (pc : Int) + off = (t : Int)) (d : decode cc pc = .ok (.goto off, 3)) (kk : cG p l e R s m args below meth c A D Y nL Q cells slots t lv st S) : cG p l e R s m args below meth c A D Y nL Q cells slots pc lv st S := fun H locs ls hP hD hS hl => lv_goto C.1 C.2.1 d ht (kk H locs ls hP hD hS hl)
theorem cg_if_eq (C : cC p s m args meth c cc nL ret A D Y tp dp own) {x : Int32} {off : Int} (t : Nat) (ht : (pc : Int) + off = (t : Int)) (d : decode cc pc = .ok (.ifCond .eq off, 3)) (kt : x = 0 → cG p l e R s m args below meth c A D Y nL Q cells slots t lv st S) (kf : ¬ x = 0 → cG p l e R s m args below meth c A D Y nL Q cells slots (pc + 3) lv st S) : cG p l e R s m args below meth c A D Y nL Q cells slots pc lv (.int x :: st) S := fun H locs ls hP hD hS hl => lv_if_eq C.1 C.2.1 d ht (fun q => kt q H locs ls hP hD hS hl) (fun q => kf q H locs ls hP hD hS hl)
theorem cg_if_ne (C : cC p s m args meth c cc nL ret A D Y tp dp own) {x : Int32} {off : Int} (t : Nat) (ht : (pc : Int) + off = (t : Int)) (d : decode cc pc = .ok (.ifCond .ne off, 3)) (kt : ¬ x = 0 → cG p l e R s m args below meth c A D Y nL Q cells slots t lv st S) (kf : x = 0 → cG p l e R s m args below meth c A D Y nL Q cells slots (pc + 3) lv st S) : cG p l e R s m args below meth c A D Y nL Q cells slots pc lv (.int x :: st) S := fun H locs ls hP hD hS hl => lv_if_ne C.1 C.2.1 d ht (fun q => kt q H locs ls hP hD hS hl) (fun q => kf q H locs ls hP hD hS hl)
theorem cg_if_lt (C : cC p s m args meth c cc nL ret A D Y tp dp own) {x : Int32} {off : Int} (t : Nat) (ht : (pc : Int) + off = (t : Int)) (d : decode cc pc = .ok (.ifCond .lt off, 3)) (kt : x < 0 → cG p l e R s m args below meth c A D Y nL Q cells slots t lv st S) (kf : ¬ x < 0 → cG p l e R s m args below meth c A D Y nL Q cells slots (pc + 3) lv st S) : cG p l e R s m args below meth c A D Y nL Q cells slots pc lv (.int x :: st) S := fun H locs ls hP hD hS hl => lv_if_lt C.1 C.2.1 d ht (fun q => kt q H locs ls hP hD hS hl) (fun q => kf q H locs ls hP hD hS hl)
theorem cg_if_ge (C : cC p s m args meth c cc nL ret A D Y tp dp own) {x : Int32} {off : Int} (t : Nat) (ht : (pc : Int) + off = (t : Int)) (d : decode cc pc = .ok (.ifCond .ge off, 3)) (kt : 0 ≤ x → cG p l e R s m args below meth c A D Y nL Q cells slots t lv st S) (kf : ¬ 0 ≤ x → cG p l e R s m args below meth c A D Y nL Q cells slots (pc + 3) lv st S) : cG p l e R s m args below meth c A D Y nL Q cells slots pc lv (.int x :: st) S := fun H locs ls hP hD hS hl => lv_if_ge C.1 C.2.1 d ht (fun q => kt q H locs ls hP hD hS hl) (fun q => kf q H locs ls hP hD hS hl)
theorem cg_if_gt (C : cC p s m args meth c cc nL ret A D Y tp dp own) {x : Int32} {off : Int} (t : Nat) (ht : (pc : Int) + off = (t : Int)) (d : decode cc pc = .ok (.ifCond .gt off, 3)) (kt : 0 < x → cG p l e R s m args below meth c A D Y nL Q cells slots t lv st S) (kf : ¬ 0 < x → cG p l e R s m args below meth c A D Y nL Q cells slots (pc + 3) lv st S) : cG p l e R s m args below meth c A D Y nL Q cells slots pc lv (.int x :: st) S := fun H locs ls hP hD hS hl => lv_if_gt C.1 C.2.1 d ht (fun q => kt q H locs ls hP hD hS hl) (fun q => kf q H locs ls hP hD hS hl)
theorem cg_if_le (C : cC p s m args meth c cc nL ret A D Y tp dp own) {x : Int32} {off : Int} (t : Nat) (ht : (pc : Int) + off = (t : Int)) (d : decode cc pc = .ok (.ifCond .le off, 3)) (kt : x ≤ 0 → cG p l e R s m args below meth c A D Y nL Q cells slots t lv st S) (kf : ¬ x ≤ 0 → cG p l e R s m args below meth c A D Y nL Q cells slots (pc + 3) lv st S) : cG p l e R s m args below meth c A D Y nL Q cells slots pc lv (.int x :: st) S := fun H locs ls hP hD hS hl => lv_if_le C.1 C.2.1 d ht (fun q => kt q H locs ls hP hD hS hl) (fun q => kf q H locs ls hP hD hS hl)
theorem cg_icmp_eq (C : cC p s m args meth c cc nL ret A D Y tp dp own) {x y : Int32} {off : Int} (t : Nat) (ht : (pc : Int) + off = (t : Int)) (d : decode cc pc = .ok (.if_icmp .eq off, 3)) (kt : x = y → cG p l e R s m args below meth c A D Y nL Q cells slots t lv st S) (kf : ¬ x = y → cG p l e R s m args below meth c A D Y nL Q cells slots (pc + 3) lv st S) : cG p l e R s m args below meth c A D Y nL Q cells slots pc lv (.int y :: .int x :: st) S := fun H locs ls hP hD hS hl => lv_icmp_eq C.1 C.2.1 d ht (fun q => kt q H locs ls hP hD hS hl) (fun q => kf q H locs ls hP hD hS hl)
theorem cg_icmp_ne (C : cC p s m args meth c cc nL ret A D Y tp dp own) {x y : Int32} {off : Int} (t : Nat) (ht : (pc : Int) + off = (t : Int)) (d : decode cc pc = .ok (.if_icmp .ne off, 3)) (kt : ¬ x = y → cG p l e R s m args below meth c A D Y nL Q cells slots t lv st S) (kf : x = y → cG p l e R s m args below meth c A D Y nL Q cells slots (pc + 3) lv st S) : cG p l e R s m args below meth c A D Y nL Q cells slots pc lv (.int y :: .int x :: st) S := fun H locs ls hP hD hS hl => lv_icmp_ne C.1 C.2.1 d ht (fun q => kt q H locs ls hP hD hS hl) (fun q => kf q H locs ls hP hD hS hl)
theorem cg_icmp_lt (C : cC p s m args meth c cc nL ret A D Y tp dp own) {x y : Int32} {off : Int} (t : Nat) (ht : (pc : Int) + off = (t : Int)) (d : decode cc pc = .ok (.if_icmp .lt off, 3)) (kt : x < y → cG p l e R s m args below meth c A D Y nL Q cells slots t lv st S) (kf : ¬ x < y → cG p l e R s m args below meth c A D Y nL Q cells slots (pc + 3) lv st S) : cG p l e R s m args below meth c A D Y nL Q cells slots pc lv (.int y :: .int x :: st) S := fun H locs ls hP hD hS hl => lv_icmp_lt C.1 C.2.1 d ht (fun q => kt q H locs ls hP hD hS hl) (fun q => kf q H locs ls hP hD hS hl)
theorem cg_icmp_ge (C : cC p s m args meth c cc nL ret A D Y tp dp own) {x y : Int32} {off : Int} (t : Nat) (ht : (pc : Int) + off = (t : Int)) (d : decode cc pc = .ok (.if_icmp .ge off, 3)) (kt : y ≤ x → cG p l e R s m args below meth c A D Y nL Q cells slots t lv st S) (kf : ¬ y ≤ x → cG p l e R s m args below meth c A D Y nL Q cells slots (pc + 3) lv st S) : cG p l e R s m args below meth c A D Y nL Q cells slots pc lv (.int y :: .int x :: st) S := fun H locs ls hP hD hS hl => lv_icmp_ge C.1 C.2.1 d ht (fun q => kt q H locs ls hP hD hS hl) (fun q => kf q H locs ls hP hD hS hl)
theorem cg_icmp_gt (C : cC p s m args meth c cc nL ret A D Y tp dp own) {x y : Int32} {off : Int} (t : Nat) (ht : (pc : Int) + off = (t : Int)) (d : decode cc pc = .ok (.if_icmp .gt off, 3)) (kt : y < x → cG p l e R s m args below meth c A D Y nL Q cells slots t lv st S) (kf : ¬ y < x → cG p l e R s m args below meth c A D Y nL Q cells slots (pc + 3) lv st S) : cG p l e R s m args below meth c A D Y nL Q cells slots pc lv (.int y :: .int x :: st) S := fun H locs ls hP hD hS hl => lv_icmp_gt C.1 C.2.1 d ht (fun q => kt q H locs ls hP hD hS hl) (fun q => kf q H locs ls hP hD hS hl)
theorem cg_icmp_le (C : cC p s m args meth c cc nL ret A D Y tp dp own) {x y : Int32} {off : Int} (t : Nat) (ht : (pc : Int) + off = (t : Int)) (d : decode cc pc = .ok (.if_icmp .le off, 3)) (kt : x ≤ y → cG p l e R s m args below meth c A D Y nL Q cells slots t lv st S) (kf : ¬ x ≤ y → cG p l e R s m args below meth c A D Y nL Q cells slots (pc + 3) lv st S) : cG p l e R s m args below meth c A D Y nL Q cells slots pc lv (.int y :: .int x :: st) S := fun H locs ls hP hD hS hl => lv_icmp_le C.1 C.2.1 d ht (fun q => kt q H locs ls hP hD hS hl) (fun q => kf q H locs ls hP hD hS hl)
theorem cg_iaddN (C : cC p s m args meth c cc nL ret A D Y tp dp own) {x y : Nat} (d : decode cc pc = .ok (.iadd, 1)) (k : cG p l e R s m args below meth c A D Y nL Q cells slots (pc + 1) lv (.int (nI (x + y)) :: st) S) : cG p l e R s m args below meth c A D Y nL Q cells slots pc lv (.int (nI y) :: .int (nI x) :: st) S := cg_iadd C d (by rw [nI_add]; exact k)
theorem cg_imulN (C : cC p s m args meth c cc nL ret A D Y tp dp own) {x y : Nat} (d : decode cc pc = .ok (.imul, 1)) (k : cG p l e R s m args below meth c A D Y nL Q cells slots (pc + 1) lv (.int (nI (x * y)) :: st) S) : cG p l e R s m args below meth c A D Y nL Q cells slots pc lv (.int (nI y) :: .int (nI x) :: st) S := cg_imul C d (by rw [pk_mul]; exact k)
theorem cg_isubN (C : cC p s m args meth c cc nL ret A D Y tp dp own) {x y : Nat} (h : y ≤ x) (d : decode cc pc = .ok (.isub, 1)) (k : cG p l e R s m args below meth c A D Y nL Q cells slots (pc + 1) lv (.int (nI (x - y)) :: st) S) : cG p l e R s m args below meth c A D Y nL Q cells slots pc lv (.int (nI y) :: .int (nI x) :: st) S := cg_isub C d (by rw [pk_sub h]; exact k)
theorem cg_idivN (C : cC p s m args meth c cc nL ret A D Y tp dp own) {x y : Nat} (hx : x < 2 ^ 31) (h0 : 0 < y) (hy : y < 2 ^ 31) (d : decode cc pc = .ok (.idiv, 1)) (k : cG p l e R s m args below meth c A D Y nL Q cells slots (pc + 1) lv (.int (nI (x / y)) :: st) S) : cG p l e R s m args below meth c A D Y nL Q cells slots pc lv (.int (nI y) :: .int (nI x) :: st) S := cg_idiv C (nI_ne0 h0 hy) d (by rw [pk_div hx h0 hy]; exact k)
theorem cg_iremN (C : cC p s m args meth c cc nL ret A D Y tp dp own) {x y : Nat} (hx : x < 2 ^ 31) (h0 : 0 < y) (hy : y < 2 ^ 31) (d : decode cc pc = .ok (.irem, 1)) (k : cG p l e R s m args below meth c A D Y nL Q cells slots (pc + 1) lv (.int (nI (x % y)) :: st) S) : cG p l e R s m args below meth c A D Y nL Q cells slots pc lv (.int (nI y) :: .int (nI x) :: st) S := cg_irem C (nI_ne0 h0 hy) d (by rw [pk_rem hx h0 hy]; exact k)
theorem cg_iincN (C : cC p s m args meth c cc nL ret A D Y tp dp own) {i : Nat} {n : Int} {x : Nat} (z : Nat) (k : Nat) (hk : lv[k]? = some (i, .int (nI x))) (hz : Int32.ofInt n = nI z) (hn : i < nL) (h : (i, Value.int (nI (x + z))) :: lv.filter (fun q => !(q.1 == i) && !(q.1 + 1 == i && q.2.category == 2)) = lv') (d : decode cc pc = .ok (.iinc i n, 3)) (kk : cG p l e R s m args below meth c A D Y nL Q cells slots (pc + 3) lv' st S) : cG p l e R s m args below meth c A D Y nL Q cells slots pc lv st S := cg_iinc C k hk (by rw [hz, nI_add]) hn h d kk
theorem cg_icmp_eqN (C : cC p s m args meth c cc nL ret A D Y tp dp own) {x y : Nat} {off : Int} (hx : x < 2 ^ 31) (hy : y < 2 ^ 31) (t : Nat) (ht : (pc : Int) + off = (t : Int)) (d : decode cc pc = .ok (.if_icmp .eq off, 3)) (kt : x = y → cG p l e R s m args below meth c A D Y nL Q cells slots t lv st S) (kf : ¬ x = y → cG p l e R s m args below meth c A D Y nL Q cells slots (pc + 3) lv st S) : cG p l e R s m args below meth c A D Y nL Q cells slots pc lv (.int (nI y) :: .int (nI x) :: st) S := cg_icmp_eq C t ht d (fun q => kt ((nI_eq hx hy).mp q)) (fun q => kf (fun z => q ((nI_eq hx hy).mpr z)))
theorem cg_icmp_neN (C : cC p s m args meth c cc nL ret A D Y tp dp own) {x y : Nat} {off : Int} (hx : x < 2 ^ 31) (hy : y < 2 ^ 31) (t : Nat) (ht : (pc : Int) + off = (t : Int)) (d : decode cc pc = .ok (.if_icmp .ne off, 3)) (kt : ¬ x = y → cG p l e R s m args below meth c A D Y nL Q cells slots t lv st S) (kf : x = y → cG p l e R s m args below meth c A D Y nL Q cells slots (pc + 3) lv st S) : cG p l e R s m args below meth c A D Y nL Q cells slots pc lv (.int (nI y) :: .int (nI x) :: st) S := cg_icmp_ne C t ht d (fun q => kt (fun z => q ((nI_eq hx hy).mpr z))) (fun q => kf ((nI_eq hx hy).mp q))
theorem cg_icmp_ltN (C : cC p s m args meth c cc nL ret A D Y tp dp own) {x y : Nat} {off : Int} (hx : x < 2 ^ 31) (hy : y < 2 ^ 31) (t : Nat) (ht : (pc : Int) + off = (t : Int)) (d : decode cc pc = .ok (.if_icmp .lt off, 3)) (kt : x < y → cG p l e R s m args below meth c A D Y nL Q cells slots t lv st S) (kf : y ≤ x → cG p l e R s m args below meth c A D Y nL Q cells slots (pc + 3) lv st S) : cG p l e R s m args below meth c A D Y nL Q cells slots pc lv (.int (nI y) :: .int (nI x) :: st) S := cg_icmp_lt C t ht d (fun q => kt ((nI_ltI hx hy).mp q)) (fun q => kf (by have z := mt (nI_ltI hx hy).mpr q; omega))
theorem cg_icmp_geN (C : cC p s m args meth c cc nL ret A D Y tp dp own) {x y : Nat} {off : Int} (hx : x < 2 ^ 31) (hy : y < 2 ^ 31) (t : Nat) (ht : (pc : Int) + off = (t : Int)) (d : decode cc pc = .ok (.if_icmp .ge off, 3)) (kt : y ≤ x → cG p l e R s m args below meth c A D Y nL Q cells slots t lv st S) (kf : x < y → cG p l e R s m args below meth c A D Y nL Q cells slots (pc + 3) lv st S) : cG p l e R s m args below meth c A D Y nL Q cells slots pc lv (.int (nI y) :: .int (nI x) :: st) S := cg_icmp_ge C t ht d (fun q => kt ((nI_leI hy hx).mp q)) (fun q => kf (by have z := mt (nI_leI hy hx).mpr q; omega))
theorem cg_icmp_gtN (C : cC p s m args meth c cc nL ret A D Y tp dp own) {x y : Nat} {off : Int} (hx : x < 2 ^ 31) (hy : y < 2 ^ 31) (t : Nat) (ht : (pc : Int) + off = (t : Int)) (d : decode cc pc = .ok (.if_icmp .gt off, 3)) (kt : y < x → cG p l e R s m args below meth c A D Y nL Q cells slots t lv st S) (kf : x ≤ y → cG p l e R s m args below meth c A D Y nL Q cells slots (pc + 3) lv st S) : cG p l e R s m args below meth c A D Y nL Q cells slots pc lv (.int (nI y) :: .int (nI x) :: st) S := cg_icmp_gt C t ht d (fun q => kt ((nI_ltI hy hx).mp q)) (fun q => kf (by have z := mt (nI_ltI hy hx).mpr q; omega))
theorem cg_icmp_leN (C : cC p s m args meth c cc nL ret A D Y tp dp own) {x y : Nat} {off : Int} (hx : x < 2 ^ 31) (hy : y < 2 ^ 31) (t : Nat) (ht : (pc : Int) + off = (t : Int)) (d : decode cc pc = .ok (.if_icmp .le off, 3)) (kt : x ≤ y → cG p l e R s m args below meth c A D Y nL Q cells slots t lv st S) (kf : y < x → cG p l e R s m args below meth c A D Y nL Q cells slots (pc + 3) lv st S) : cG p l e R s m args below meth c A D Y nL Q cells slots pc lv (.int (nI y) :: .int (nI x) :: st) S := cg_icmp_le C t ht d (fun q => kt ((nI_leI hx hy).mp q)) (fun q => kf (by have z := mt (nI_leI hx hy).mpr q; omega))
theorem cg_if_eqN (C : cC p s m args meth c cc nL ret A D Y tp dp own) {x : Nat} {off : Int} (hx : x < 2 ^ 31) (t : Nat) (ht : (pc : Int) + off = (t : Int)) (d : decode cc pc = .ok (.ifCond .eq off, 3)) (kt : x = 0 → cG p l e R s m args below meth c A D Y nL Q cells slots t lv st S) (kf : 0 < x → cG p l e R s m args below meth c A D Y nL Q cells slots (pc + 3) lv st S) : cG p l e R s m args below meth c A D Y nL Q cells slots pc lv (.int (nI x) :: st) S := cg_if_eq C t ht d (fun q => kt ((nI_z hx).mp q)) (fun q => kf (Nat.pos_of_ne_zero (mt (nI_z hx).mpr q)))
theorem cg_if_neN (C : cC p s m args meth c cc nL ret A D Y tp dp own) {x : Nat} {off : Int} (hx : x < 2 ^ 31) (t : Nat) (ht : (pc : Int) + off = (t : Int)) (d : decode cc pc = .ok (.ifCond .ne off, 3)) (kt : 0 < x → cG p l e R s m args below meth c A D Y nL Q cells slots t lv st S) (kf : x = 0 → cG p l e R s m args below meth c A D Y nL Q cells slots (pc + 3) lv st S) : cG p l e R s m args below meth c A D Y nL Q cells slots pc lv (.int (nI x) :: st) S := cg_if_ne C t ht d (fun q => kt (Nat.pos_of_ne_zero (mt (nI_z hx).mpr q))) (fun q => kf ((nI_z hx).mp q))
theorem cg_if_gtN (C : cC p s m args meth c cc nL ret A D Y tp dp own) {x : Nat} {off : Int} (hx : x < 2 ^ 31) (t : Nat) (ht : (pc : Int) + off = (t : Int)) (d : decode cc pc = .ok (.ifCond .gt off, 3)) (kt : 0 < x → cG p l e R s m args below meth c A D Y nL Q cells slots t lv st S) (kf : x = 0 → cG p l e R s m args below meth c A D Y nL Q cells slots (pc + 3) lv st S) : cG p l e R s m args below meth c A D Y nL Q cells slots pc lv (.int (nI x) :: st) S := cg_if_gt C t ht d (fun q => kt ((nI_gt0 hx).mp q)) (fun q => kf (Nat.eq_zero_of_not_pos (mt (nI_gt0 hx).mpr q)))
theorem cg_if_leN (C : cC p s m args meth c cc nL ret A D Y tp dp own) {x : Nat} {off : Int} (hx : x < 2 ^ 31) (t : Nat) (ht : (pc : Int) + off = (t : Int)) (d : decode cc pc = .ok (.ifCond .le off, 3)) (kt : x = 0 → cG p l e R s m args below meth c A D Y nL Q cells slots t lv st S) (kf : 0 < x → cG p l e R s m args below meth c A D Y nL Q cells slots (pc + 3) lv st S) : cG p l e R s m args below meth c A D Y nL Q cells slots pc lv (.int (nI x) :: st) S := cg_if_le C t ht d (fun q => kt ((nI_le0 hx).mp q)) (fun q => kf (Nat.pos_of_ne_zero (mt (nI_le0 hx).mpr q)))
theorem cg_if_ltN (C : cC p s m args meth c cc nL ret A D Y tp dp own) {x : Nat} {off : Int} (hx : x < 2 ^ 31) (t : Nat) (ht : (pc : Int) + off = (t : Int)) (d : decode cc pc = .ok (.ifCond .lt off, 3)) (kf : cG p l e R s m args below meth c A D Y nL Q cells slots (pc + 3) lv st S) : cG p l e R s m args below meth c A D Y nL Q cells slots pc lv (.int (nI x) :: st) S := cg_if_lt C t ht d (fun q => absurd q (nI_pos hx)) (fun _ => kf)
theorem cg_if_geN (C : cC p s m args meth c cc nL ret A D Y tp dp own) {x : Nat} {off : Int} (hx : x < 2 ^ 31) (t : Nat) (ht : (pc : Int) + off = (t : Int)) (d : decode cc pc = .ok (.ifCond .ge off, 3)) (kt : cG p l e R s m args below meth c A D Y nL Q cells slots t lv st S) : cG p l e R s m args below meth c A D Y nL Q cells slots pc lv (.int (nI x) :: st) S := cg_if_ge C t ht d (fun _ => kt) (fun q => absurd (nI_pos' hx) q)
theorem cg_if_eqB (C : cC p s m args meth c cc nL ret A D Y tp dp own) {b : Bool} {off : Int} (t : Nat) (ht : (pc : Int) + off = (t : Int)) (d : decode cc pc = .ok (.ifCond .eq off, 3)) (kt : b = false → cG p l e R s m args below meth c A D Y nL Q cells slots t lv st S) (kf : b = true → cG p l e R s m args below meth c A D Y nL Q cells slots (pc + 3) lv st S) : cG p l e R s m args below meth c A D Y nL Q cells slots pc lv (.int (bI b) :: st) S := cg_if_eq C t ht d (fun q => kt (bI_0.mp q)) (fun q => kf (bI_n.mp q))
theorem cg_if_neB (C : cC p s m args meth c cc nL ret A D Y tp dp own) {b : Bool} {off : Int} (t : Nat) (ht : (pc : Int) + off = (t : Int)) (d : decode cc pc = .ok (.ifCond .ne off, 3)) (kt : b = true → cG p l e R s m args below meth c A D Y nL Q cells slots t lv st S) (kf : b = false → cG p l e R s m args below meth c A D Y nL Q cells slots (pc + 3) lv st S) : cG p l e R s m args below meth c A D Y nL Q cells slots pc lv (.int (bI b) :: st) S := cg_if_ne C t ht d (fun q => kt (bI_n.mp q)) (fun q => kf (bI_0.mp q))
theorem cg_if_eqL (C : cC p s m args meth c cc nL ret A D Y tp dp own) {x y : Int64} {off : Int} (t : Nat) (ht : (pc : Int) + off = (t : Int)) (d : decode cc pc = .ok (.ifCond .eq off, 3)) (kt : x = y → cG p l e R s m args below meth c A D Y nL Q cells slots t lv st S) (kf : ¬ x = y → cG p l e R s m args below meth c A D Y nL Q cells slots (pc + 3) lv st S) : cG p l e R s m args below meth c A D Y nL Q cells slots pc lv (.int (lg_cmp x y) :: st) S := cg_if_eq C t ht d (fun q => kt ((lg_cmp_eq x y).mp q)) (fun q => kf (fun z => q ((lg_cmp_eq x y).mpr z)))
theorem cg_if_neL (C : cC p s m args meth c cc nL ret A D Y tp dp own) {x y : Int64} {off : Int} (t : Nat) (ht : (pc : Int) + off = (t : Int)) (d : decode cc pc = .ok (.ifCond .ne off, 3)) (kt : ¬ x = y → cG p l e R s m args below meth c A D Y nL Q cells slots t lv st S) (kf : x = y → cG p l e R s m args below meth c A D Y nL Q cells slots (pc + 3) lv st S) : cG p l e R s m args below meth c A D Y nL Q cells slots pc lv (.int (lg_cmp x y) :: st) S := cg_if_ne C t ht d (fun q => kt (fun z => q ((lg_cmp_eq x y).mpr z))) (fun q => kf ((lg_cmp_eq x y).mp q))
theorem cg_if_ltL (C : cC p s m args meth c cc nL ret A D Y tp dp own) {x y : Int64} {off : Int} (t : Nat) (ht : (pc : Int) + off = (t : Int)) (d : decode cc pc = .ok (.ifCond .lt off, 3)) (kt : x < y → cG p l e R s m args below meth c A D Y nL Q cells slots t lv st S) (kf : ¬ x < y → cG p l e R s m args below meth c A D Y nL Q cells slots (pc + 3) lv st S) : cG p l e R s m args below meth c A D Y nL Q cells slots pc lv (.int (lg_cmp x y) :: st) S := cg_if_lt C t ht d (fun q => kt ((lg_cmp_lt x y).mp q)) (fun q => kf (fun z => q ((lg_cmp_lt x y).mpr z)))
theorem cg_if_geL (C : cC p s m args meth c cc nL ret A D Y tp dp own) {x y : Int64} {off : Int} (t : Nat) (ht : (pc : Int) + off = (t : Int)) (d : decode cc pc = .ok (.ifCond .ge off, 3)) (kt : y ≤ x → cG p l e R s m args below meth c A D Y nL Q cells slots t lv st S) (kf : ¬ y ≤ x → cG p l e R s m args below meth c A D Y nL Q cells slots (pc + 3) lv st S) : cG p l e R s m args below meth c A D Y nL Q cells slots pc lv (.int (lg_cmp x y) :: st) S := cg_if_ge C t ht d (fun q => kt ((lg_cmp_ge x y).mp q)) (fun q => kf (fun z => q ((lg_cmp_ge x y).mpr z)))
theorem cg_if_gtL (C : cC p s m args meth c cc nL ret A D Y tp dp own) {x y : Int64} {off : Int} (t : Nat) (ht : (pc : Int) + off = (t : Int)) (d : decode cc pc = .ok (.ifCond .gt off, 3)) (kt : y < x → cG p l e R s m args below meth c A D Y nL Q cells slots t lv st S) (kf : ¬ y < x → cG p l e R s m args below meth c A D Y nL Q cells slots (pc + 3) lv st S) : cG p l e R s m args below meth c A D Y nL Q cells slots pc lv (.int (lg_cmp x y) :: st) S := cg_if_gt C t ht d (fun q => kt ((lg_cmp_gt x y).mp q)) (fun q => kf (fun z => q ((lg_cmp_gt x y).mpr z)))
theorem cg_if_leL (C : cC p s m args meth c cc nL ret A D Y tp dp own) {x y : Int64} {off : Int} (t : Nat) (ht : (pc : Int) + off = (t : Int)) (d : decode cc pc = .ok (.ifCond .le off, 3)) (kt : x ≤ y → cG p l e R s m args below meth c A D Y nL Q cells slots t lv st S) (kf : ¬ x ≤ y → cG p l e R s m args below meth c A D Y nL Q cells slots (pc + 3) lv st S) : cG p l e R s m args below meth c A D Y nL Q cells slots pc lv (.int (lg_cmp x y) :: st) S := cg_if_le C t ht d (fun q => kt ((lg_cmp_le x y).mp q)) (fun q => kf (fun z => q ((lg_cmp_le x y).mpr z)))
theorem cg_loop {X : Type} (I : X → Prop) (μ : X → Nat) (LV : X → List (Nat × Value)) (V : X → cS) (x0 : X) (ks : List Nat) (hlv : lv_pick lv ks = LV x0) (hV : V x0 = S) (h0 : I x0) (h : ∀ x, I x → (∀ y, I y → μ y < μ x → cG p l e R s m args below meth c A D Y nL Q cells slots pc (LV y) [] (V y)) → cG p l e R s m args below meth c A D Y nL Q cells slots pc (LV x) [] (V x)) : cG p l e R s m args below meth c A D Y nL Q cells slots pc lv [] S := by
  have key : ∀ (n : Nat) (x : X), I x → μ x < n → cG p l e R s m args below meth c A D Y nL Q cells slots pc (LV x) [] (V x) := by
    intro n
    induction n with
    | zero => intro x _ h2; exact absurd h2 (Nat.not_lt_zero _)
    | succ n ih => intro x h1 h2; exact h x h1 (fun y q1 q2 => ih y q1 (by omega))
  have k := key _ x0 h0 (Nat.lt_succ_self _)
  rw [hV] at k
  exact cg_sub ks hlv k
theorem cg_have {X : Type} (pc' : Nat) (I : X → Prop) (LV : X → List (Nat × Value)) (ST : X → List Value) (V : X → cS) (h : ∀ x, I x → cG p l e R s m args below meth c A D Y nL Q cells slots pc' (LV x) (ST x) (V x)) (k : (∀ x, I x → cG p l e R s m args below meth c A D Y nL Q cells slots pc' (LV x) (ST x) (V x)) → cG p l e R s m args below meth c A D Y nL Q cells slots pc lv st S) : cG p l e R s m args below meth c A D Y nL Q cells slots pc lv st S := k h
end CG
set_option maxRecDepth 20000 in
theorem cc_J15_105 : cCal true RJ15 105 yJ3_checkIndex_8e157 cJ3_checkIndex_8e157 3 (some .int) 3 := ⟨⟨by decide, by decide⟩, cWs_i0 46 rfl, cWs_i0 48 rfl, cWs_i0 47 rfl, cWs_i0 44 rfl, by decide +kernel⟩
set_option maxRecDepth 20000 in
theorem cc_Jx4a65c_118 : cCal true RJx4a65c 118 yJ15_checkIndex_7cf53 cJ15_checkIndex_7cf53 2 (some .int) 2 := ⟨⟨by decide, by decide⟩, cWs_i0 52 rfl, cWs_i0 54 rfl, cWs_i0 53 rfl, cWs_i0 45 rfl, by decide +kernel⟩
set_option maxRecDepth 20000 in
theorem cc_Jx4a65c_123 : cCal false RJx4a65c 123 yJx4a65c_elementData_915e3 cJx4a65c_elementData_915e3 2 (some (.object "java/lang/Object")) 1 := ⟨⟨by decide, by decide⟩, cWs_i0 55 rfl, cWs_i0 58 rfl, ⟨cWs_i0 56 rfl, cWs_i0 57 rfl⟩, cWs_i0 49 rfl, by decide +kernel⟩
set_option maxRecDepth 20000 in
theorem cc_X10_22 : cCal false RX10 22 yJx4a65c_size_8abf5 cJx4a65c_size_8abf5 1 (some .int) 0 := ⟨⟨by decide, by decide⟩, cWs_i0 63 rfl, cWs_i0 58 rfl, ⟨cWs_i0 64 rfl, cWs_i0 65 rfl⟩, cWs_i0 42 rfl, by decide +kernel⟩
set_option maxRecDepth 20000 in
theorem cc_X10_26 : cCal false RX10 26 yJx4a65c_get_915e3 cJx4a65c_get_915e3 2 (some (.object "java/lang/Object")) 1 := ⟨⟨by decide, by decide⟩, cWs_i0 66 rfl, cWs_i0 58 rfl, ⟨cWs_i0 67 rfl, cWs_i0 68 rfl⟩, cWs_i0 51 rfl, by decide +kernel⟩
set_option maxRecDepth 20000 in
theorem cc_X10_74 : cCal false RX10 74 yX2_liveCount cX2_liveCount 3 (some .int) 0 := ⟨⟨by decide, by decide⟩, cWs_i0 69 rfl, cWs_i0 72 rfl, ⟨cWs_i0 70 rfl, cWs_i0 71 rfl⟩, cWs_i0 59 rfl, by decide +kernel⟩
set_option maxRecDepth 20000 in
theorem cc_X8_26 : cCal false RX8 26 yJx4a65c_size_8abf5 cJx4a65c_size_8abf5 1 (some .int) 0 := ⟨⟨by decide, by decide⟩, cWs_i0 84 rfl, cWs_i0 58 rfl, ⟨cWs_i0 64 rfl, cWs_i0 65 rfl⟩, cWs_i0 42 rfl, by decide +kernel⟩
set_option maxRecDepth 20000 in
theorem cc_X8_35 : cCal false RX8 35 yJx4a65c_get_915e3 cJx4a65c_get_915e3 2 (some (.object "java/lang/Object")) 1 := ⟨⟨by decide, by decide⟩, cWs_i0 85 rfl, cWs_i0 58 rfl, ⟨cWs_i0 67 rfl, cWs_i0 68 rfl⟩, cWs_i0 51 rfl, by decide +kernel⟩
set_option maxRecDepth 20000 in
theorem cc_X8_31 : cCal false RX8 31 yX8_wordsOf cX8_wordsOf 2 (some (.object "java/util/ArrayList")) 1 := ⟨⟨by decide, by decide⟩, cWs_i0 87 rfl, cWs_i0 90 rfl, ⟨cWs_i0 88 rfl, cWs_i0 89 rfl⟩, cWs_i0 79 rfl, by decide +kernel⟩
set_option maxRecDepth 20000 in
theorem cc_X8_75 : cCal true RX8 75 yX8_placeOf cX8_placeOf 6 (some .int) 2 := ⟨⟨by decide, by decide⟩, cWs_i0 91 rfl, cWs_i0 90 rfl, cWs_i0 92 rfl, cWs_i0 86 rfl, by decide +kernel⟩
set_option maxRecDepth 20000 in
theorem cc_X5_77 : cCal false RX5 77 yX5_nextBits cX5_nextBits 6 (some .int) 1 := ⟨⟨by decide, by decide⟩, cWs_i0 101 rfl, cWs_i0 104 rfl, ⟨cWs_i0 102 rfl, cWs_i0 103 rfl⟩, cWs_i0 95 rfl, by decide +kernel⟩
set_option maxRecDepth 20000 in
theorem cc_X5_73 : cCal false RX5 73 yX5_nextNumber cX5_nextNumber 1 (some .int) 0 := ⟨⟨by decide, by decide⟩, cWs_i0 107 rfl, cWs_i0 104 rfl, ⟨cWs_i0 108 rfl, cWs_i0 109 rfl⟩, cWs_i0 98 rfl, by decide +kernel⟩
set_option maxRecDepth 20000 in
theorem cc_X2_28 : cCal false RX2 28 yX2_isLive cX2_isLive 2 (some .boolean) 1 := ⟨⟨by decide, by decide⟩, cWs_i0 112 rfl, cWs_i0 72 rfl, ⟨cWs_i0 113 rfl, cWs_i0 114 rfl⟩, cWs_i0 110 rfl, by decide +kernel⟩
set_option maxRecDepth 20000 in
theorem cc_X7_77 : cCal false RX7 77 yX10_size cX10_size 1 (some .int) 0 := ⟨⟨by decide, by decide⟩, cWs_i0 117 rfl, cWs_i0 120 rfl, ⟨cWs_i0 118 rfl, cWs_i0 119 rfl⟩, cWs_i0 77 rfl, by decide +kernel⟩
set_option maxRecDepth 20000 in
theorem cc_X7_78 : cCal false RX7 78 yX10_at cX10_at 2 (some (.object "SearchMill$Holding")) 1 := ⟨⟨by decide, by decide⟩, cWs_i0 121 rfl, cWs_i0 120 rfl, ⟨cWs_i0 122 rfl, cWs_i0 123 rfl⟩, cWs_i0 78 rfl, by decide +kernel⟩
set_option maxRecDepth 20000 in
theorem cc_X7_88 : cCal false RX7 88 yX8_postingsOf cX8_postingsOf 6 (some (.object "SearchMill$Postings")) 2 := ⟨⟨by decide, by decide⟩, cWs_i0 124 rfl, cWs_i0 90 rfl, ⟨cWs_i0 125 rfl, cWs_i0 126 rfl⟩, cWs_i0 93 rfl, by decide +kernel⟩
set_option maxRecDepth 20000 in
theorem cc_X7_94 : cCal true RX7 94 yJ7_fill_53178 cJ7_fill_53178 4 none 2 := ⟨⟨by decide, by decide⟩, cWs_i0 127 rfl, cWs_i0 129 rfl, cWs_i0 128 rfl, cWs_i0 94 rfl, by decide +kernel⟩
set_option maxRecDepth 20000 in
theorem cc_X7_100 : cCal false RX7 100 yX5_spread cX5_spread 8 none 1 := ⟨⟨by decide, by decide⟩, cWs_i0 130 rfl, cWs_i0 104 rfl, ⟨cWs_i0 131 rfl, cWs_i0 132 rfl⟩, cWs_i0 105 rfl, by decide +kernel⟩
set_option maxRecDepth 20000 in
theorem cc_X7_106 : cCal false RX7 106 yX2_liveIn cX2_liveIn 4 (some .int) 1 := ⟨⟨by decide, by decide⟩, cWs_i0 133 rfl, cWs_i0 72 rfl, ⟨cWs_i0 134 rfl, cWs_i0 135 rfl⟩, cWs_i0 111 rfl, by decide +kernel⟩
set_option maxRecDepth 20000 in
theorem cc_X7_35 : cCal false RX7 35 yX10_liveCount cX10_liveCount 3 (some .int) 0 := ⟨⟨by decide, by decide⟩, cWs_i0 146 rfl, cWs_i0 120 rfl, ⟨cWs_i0 147 rfl, cWs_i0 148 rfl⟩, cWs_i0 73 rfl, by decide +kernel⟩
set_option maxRecDepth 20000 in
theorem cc_X7_47 : cCal false RX7 47 yJx4a65c_size_8abf5 cJx4a65c_size_8abf5 1 (some .int) 0 := ⟨⟨by decide, by decide⟩, cWs_i0 149 rfl, cWs_i0 58 rfl, ⟨cWs_i0 64 rfl, cWs_i0 65 rfl⟩, cWs_i0 42 rfl, by decide +kernel⟩
set_option maxRecDepth 20000 in
theorem cc_X7_52 : cCal false RX7 52 yJx4a65c_get_915e3 cJx4a65c_get_915e3 2 (some (.object "java/lang/Object")) 1 := ⟨⟨by decide, by decide⟩, cWs_i0 150 rfl, cWs_i0 58 rfl, ⟨cWs_i0 67 rfl, cWs_i0 68 rfl⟩, cWs_i0 51 rfl, by decide +kernel⟩
set_option maxRecDepth 20000 in
theorem cc_X7_58 : cCal false RX7 58 yX4_tokenCount cX4_tokenCount 1 (some .int) 0 := ⟨⟨by decide, by decide⟩, cWs_i0 151 rfl, cWs_i0 154 rfl, ⟨cWs_i0 152 rfl, cWs_i0 153 rfl⟩, cWs_i0 74 rfl, by decide +kernel⟩
set_option maxRecDepth 20000 in
theorem cc_X7_65 : cCal false RX7 65 yX4_tokenAt cX4_tokenAt 2 (some .long) 1 := ⟨⟨by decide, by decide⟩, cWs_i0 155 rfl, cWs_i0 154 rfl, ⟨cWs_i0 156 rfl, cWs_i0 157 rfl⟩, cWs_i0 76 rfl, by decide +kernel⟩
set_option maxRecDepth 20000 in
theorem cc_X7_69 : cCal false RX7 69 yX7_readCount cX7_readCount 9 (some .int) 3 := ⟨⟨by decide, by decide⟩, cWs_i0 158 rfl, cWs_i1 1 rfl, ⟨cWs_i0 159 rfl, cWs_i1 0 rfl⟩, cWs_i0 136 rfl, by decide +kernel⟩
set_option maxRecDepth 20000 in
theorem cc_X7_73 : cCal true RX7 73 yX7_rarityOf cX7_rarityOf 4 (some .int) 2 := ⟨⟨by decide, by decide⟩, cWs_i1 2 rfl, cWs_i1 1 rfl, cWs_i1 3 rfl, cWs_i0 137 rfl, by decide +kernel⟩
set_option maxRecDepth 20000 in
theorem cc_X4_98 : cCal false RX4 98 yX4_hasNeighbour cX4_hasNeighbour 4 (some .boolean) 2 := ⟨⟨by decide, by decide⟩, cWs_i1 16 rfl, cWs_i0 154 rfl, ⟨cWs_i1 17 rfl, cWs_i1 18 rfl⟩, cWs_i1 9 rfl, by decide +kernel⟩
set_option maxRecDepth 20000 in
theorem cc_X4_102 : cCal true RX4 102 yX4_placeFrom cX4_placeFrom 3 (some .int) 2 := ⟨⟨by decide, by decide⟩, cWs_i1 19 rfl, cWs_i0 154 rfl, cWs_i1 20 rfl, cWs_i1 12 rfl, by decide +kernel⟩
set_option maxRecDepth 20000 in
theorem cc_X4_94 : cCal false RX4 94 yX4_isCountedAt cX4_isCountedAt 6 (some .boolean) 2 := ⟨⟨by decide, by decide⟩, cWs_i1 22 rfl, cWs_i0 154 rfl, ⟨cWs_i1 23 rfl, cWs_i1 24 rfl⟩, cWs_i1 14 rfl, by decide +kernel⟩
set_option maxRecDepth 20000 in
theorem cc_X7_128 : cCal false RX7 128 yX8_size cX8_size 1 (some .int) 0 := ⟨⟨by decide, by decide⟩, cWs_i1 26 rfl, cWs_i0 90 rfl, ⟨cWs_i1 27 rfl, cWs_i1 28 rfl⟩, cWs_i1 7 rfl, by decide +kernel⟩
set_option maxRecDepth 20000 in
theorem cc_X7_129 : cCal false RX7 129 yX4_countedPlaces cX4_countedPlaces 4 (some .int) 1 := ⟨⟨by decide, by decide⟩, cWs_i1 29 rfl, cWs_i0 154 rfl, ⟨cWs_i1 30 rfl, cWs_i1 31 rfl⟩, cWs_i1 21 rfl, by decide +kernel⟩
set_option maxRecDepth 20000 in
theorem cc_X9_55 : cCal true RX9 55 yX9_digitAt cX9_digitAt 3 (some .int) 2 := ⟨⟨by decide, by decide⟩, cWs_i1 37 rfl, cWs_i0 18 rfl, cWs_i1 38 rfl, cWs_i1 33 rfl, by decide +kernel⟩
set_option maxRecDepth 20000 in
theorem cc_X4_78 : cCal true RX4 78 yX9_digitAt cX9_digitAt 3 (some .int) 2 := ⟨⟨by decide, by decide⟩, cWs_i1 48 rfl, cWs_i0 18 rfl, cWs_i1 38 rfl, cWs_i1 33 rfl, by decide +kernel⟩
set_option maxRecDepth 20000 in
theorem cc_X4_112 : cCal false RX4 112 yX4_withEmpty cX4_withEmpty 4 (some .int) 1 := ⟨⟨by decide, by decide⟩, cWs_i1 52 rfl, cWs_i0 154 rfl, ⟨cWs_i1 53 rfl, cWs_i1 54 rfl⟩, cWs_i1 49 rfl, by decide +kernel⟩
set_option maxRecDepth 20000 in
theorem cc_X4_74 : cCal true RX4 74 yX9_lengthOf cX9_lengthOf 3 (some .int) 1 := ⟨⟨by decide, by decide⟩, cWs_i1 55 rfl, cWs_i0 18 rfl, cWs_i1 56 rfl, cWs_i1 36 rfl, by decide +kernel⟩
set_option maxRecDepth 20000 in
theorem cc_X4_105 : cCal false RX4 105 yX4_isEdited cX4_isEdited 10 (some .boolean) 2 := ⟨⟨by decide, by decide⟩, cWs_i1 57 rfl, cWs_i0 154 rfl, ⟨cWs_i1 58 rfl, cWs_i1 59 rfl⟩, cWs_i1 39 rfl, by decide +kernel⟩
set_option maxRecDepth 20000 in
theorem cc_X4_109 : cCal false RX4 109 yX4_isLikePattern cX4_isLikePattern 9 (some .boolean) 2 := ⟨⟨by decide, by decide⟩, cWs_i1 60 rfl, cWs_i0 154 rfl, ⟨cWs_i1 61 rfl, cWs_i1 62 rfl⟩, cWs_i1 51 rfl, by decide +kernel⟩
set_option maxRecDepth 20000 in
theorem cc_X7_132 : cCal false RX7 132 yX8_wordsOf cX8_wordsOf 2 (some (.object "java/util/ArrayList")) 1 := ⟨⟨by decide, by decide⟩, cWs_i1 66 rfl, cWs_i0 90 rfl, ⟨cWs_i0 88 rfl, cWs_i0 89 rfl⟩, cWs_i0 79 rfl, by decide +kernel⟩
set_option maxRecDepth 20000 in
theorem cc_X7_140 : cCal false RX7 140 yX4_isTold cX4_isTold 4 (some .boolean) 1 := ⟨⟨by decide, by decide⟩, cWs_i1 67 rfl, cWs_i0 154 rfl, ⟨cWs_i1 68 rfl, cWs_i1 69 rfl⟩, cWs_i1 63 rfl, by decide +kernel⟩
set_option maxRecDepth 20000 in
theorem cc_X7_110 : cCal false RX7 110 yX4_isCounted cX4_isCounted 1 (some .boolean) 0 := ⟨⟨by decide, by decide⟩, cWs_i1 77 rfl, cWs_i0 154 rfl, ⟨cWs_i1 78 rfl, cWs_i1 79 rfl⟩, cWs_i1 5 rfl, by decide +kernel⟩
set_option maxRecDepth 20000 in
theorem cc_X7_114 : cCal false RX7 114 yX7_readCounted cX7_readCounted 7 none 4 := ⟨⟨by decide, by decide⟩, cWs_i1 80 rfl, cWs_i1 1 rfl, ⟨cWs_i1 81 rfl, cWs_i1 82 rfl⟩, cWs_i1 32 rfl, by decide +kernel⟩
set_option maxRecDepth 20000 in
theorem cc_X7_118 : cCal true RX7 118 yX7_readTold cX7_readTold 5 none 3 := ⟨⟨by decide, by decide⟩, cWs_i1 83 rfl, cWs_i1 1 rfl, cWs_i1 84 rfl, cWs_i1 70 rfl, by decide +kernel⟩
set_option maxRecDepth 20000 in
theorem cc_X6_32 : cCal false RX6 32 yJx4a65c_size_8abf5 cJx4a65c_size_8abf5 1 (some .int) 0 := ⟨⟨by decide, by decide⟩, cWs_i1 103 rfl, cWs_i0 58 rfl, ⟨cWs_i0 64 rfl, cWs_i0 65 rfl⟩, cWs_i0 42 rfl, by decide +kernel⟩
set_option maxRecDepth 20000 in
theorem cc_X6_49 : cCal false RX6 49 yJx4a65c_get_915e3 cJx4a65c_get_915e3 2 (some (.object "java/lang/Object")) 1 := ⟨⟨by decide, by decide⟩, cWs_i1 104 rfl, cWs_i0 58 rfl, ⟨cWs_i0 67 rfl, cWs_i0 68 rfl⟩, cWs_i0 51 rfl, by decide +kernel⟩
set_option maxRecDepth 20000 in
theorem cc_X6_57 : cCal false RX6 57 yX4_isLeaf cX4_isLeaf 1 (some .boolean) 0 := ⟨⟨by decide, by decide⟩, cWs_i1 105 rfl, cWs_i0 154 rfl, ⟨cWs_i1 106 rfl, cWs_i1 107 rfl⟩, cWs_i1 94 rfl, by decide +kernel⟩
set_option maxRecDepth 20000 in
theorem cc_X6_61 : cCal false RX6 61 yX6_joined cX6_joined 6 (some .int) 2 := ⟨⟨by decide, by decide⟩, cWs_i1 108 rfl, cWs_i1 111 rfl, ⟨cWs_i1 109 rfl, cWs_i1 110 rfl⟩, cWs_i1 95 rfl, by decide +kernel⟩
set_option maxRecDepth 20000 in
theorem cc_X7_200 : cCal false RX7 200 yX7_markAt cX7_markAt 3 (some .int) 2 := ⟨⟨by decide, by decide⟩, cWs_i1 114 rfl, cWs_i1 1 rfl, ⟨cWs_i1 115 rfl, cWs_i1 116 rfl⟩, cWs_i1 87 rfl, by decide +kernel⟩
set_option maxRecDepth 20000 in
theorem cc_X7_203 : cCal true RX7 203 yJ6_bitCount_0f7a4 cJ6_bitCount_0f7a4 1 (some .int) 1 := ⟨⟨by decide, by decide⟩, cWs_i1 117 rfl, cWs_i1 119 rfl, cWs_i1 118 rfl, cWs_i1 88 rfl, by decide +kernel⟩
set_option maxRecDepth 20000 in
theorem cc_X7_208 : cCal false RX7 208 yX7_giveOf cX7_giveOf 5 (some .int) 3 := ⟨⟨by decide, by decide⟩, cWs_i1 120 rfl, cWs_i1 1 rfl, ⟨cWs_i1 121 rfl, cWs_i1 122 rfl⟩, cWs_i1 92 rfl, by decide +kernel⟩
set_option maxRecDepth 20000 in
theorem cc_X7_212 : cCal false RX7 212 yX6_valueOf cX6_valueOf 6 (some .int) 1 := ⟨⟨by decide, by decide⟩, cWs_i1 123 rfl, cWs_i1 111 rfl, ⟨cWs_i1 124 rfl, cWs_i1 125 rfl⟩, cWs_i1 112 rfl, by decide +kernel⟩
set_option maxRecDepth 20000 in
theorem cc_X1_135 : cCal false RX1 135 yX1_freeEntry cX1_freeEntry 3 (some .int) 0 := ⟨⟨by decide, by decide⟩, cWs_i1 128 rfl, cWs_i1 131 rfl, ⟨cWs_i1 129 rfl, cWs_i1 130 rfl⟩, cWs_i1 86 rfl, by decide +kernel⟩
set_option maxRecDepth 20000 in
theorem cc_X1_92 : cCal false RX1 92 yX8_size cX8_size 1 (some .int) 0 := ⟨⟨by decide, by decide⟩, cWs_i1 132 rfl, cWs_i0 90 rfl, ⟨cWs_i1 27 rfl, cWs_i1 28 rfl⟩, cWs_i1 7 rfl, by decide +kernel⟩
set_option maxRecDepth 20000 in
theorem cc_X1_124 : cCal false RX1 124 yX7_valueAt cX7_valueAt 5 (some .int) 2 := ⟨⟨by decide, by decide⟩, cWs_i1 133 rfl, cWs_i1 1 rfl, ⟨cWs_i1 134 rfl, cWs_i1 135 rfl⟩, cWs_i1 126 rfl, by decide +kernel⟩
set_option maxRecDepth 20000 in
theorem cc_X1_101 : cCal false RX1 101 yX7_boundOf cX7_boundOf 8 (some .int) 3 := ⟨⟨by decide, by decide⟩, cWs_i1 145 rfl, cWs_i1 1 rfl, ⟨cWs_i1 146 rfl, cWs_i1 147 rfl⟩, cWs_i1 138 rfl, by decide +kernel⟩
set_option maxRecDepth 20000 in
theorem cc_X1_105 : cCal false RX1 105 yX2_isLive cX2_isLive 2 (some .boolean) 1 := ⟨⟨by decide, by decide⟩, cWs_i1 148 rfl, cWs_i0 72 rfl, ⟨cWs_i0 113 rfl, cWs_i0 114 rfl⟩, cWs_i0 110 rfl, by decide +kernel⟩
set_option maxRecDepth 20000 in
theorem cc_X1_113 : cCal false RX1 113 yJx4a65c_get_915e3 cJx4a65c_get_915e3 2 (some (.object "java/lang/Object")) 1 := ⟨⟨by decide, by decide⟩, cWs_i1 149 rfl, cWs_i0 58 rfl, ⟨cWs_i0 67 rfl, cWs_i0 68 rfl⟩, cWs_i0 51 rfl, by decide +kernel⟩
set_option maxRecDepth 20000 in
theorem cc_X1_128 : cCal false RX1 128 yX1_hold cX1_hold 5 none 3 := ⟨⟨by decide, by decide⟩, cWs_i1 150 rfl, cWs_i1 131 rfl, ⟨cWs_i1 151 rfl, cWs_i1 152 rfl⟩, cWs_i1 139 rfl, by decide +kernel⟩
set_option maxRecDepth 20000 in
theorem cc_X1_58 : cCal false RX1 58 yX7_readRarities cX7_readRarities 7 none 2 := ⟨⟨by decide, by decide⟩, cWs_i1 154 rfl, cWs_i1 1 rfl, ⟨cWs_i1 155 rfl, cWs_i1 156 rfl⟩, cWs_i1 4 rfl, by decide +kernel⟩
set_option maxRecDepth 20000 in
theorem cc_X1_64 : cCal false RX1 64 yX10_size cX10_size 1 (some .int) 0 := ⟨⟨by decide, by decide⟩, cWs_i1 157 rfl, cWs_i0 120 rfl, ⟨cWs_i0 118 rfl, cWs_i0 119 rfl⟩, cWs_i0 77 rfl, by decide +kernel⟩
set_option maxRecDepth 20000 in
theorem cc_X1_70 : cCal false RX1 70 yX10_at cX10_at 2 (some (.object "SearchMill$Holding")) 1 := ⟨⟨by decide, by decide⟩, cWs_i1 158 rfl, cWs_i0 120 rfl, ⟨cWs_i0 122 rfl, cWs_i0 123 rfl⟩, cWs_i0 78 rfl, by decide +kernel⟩
set_option maxRecDepth 20000 in
theorem cc_X1_80 : cCal false RX1 80 yX7_readSegment cX7_readSegment 5 none 2 := ⟨⟨by decide, by decide⟩, cWs_i1 159 rfl, cWs_i1 1 rfl, ⟨cWs_i2 0 rfl, cWs_i2 1 rfl⟩, cWs_i1 85 rfl, by decide +kernel⟩
set_option maxRecDepth 20000 in
theorem cc_X1_84 : cCal false RX1 84 yX1_entryOf cX1_entryOf 6 (some .int) 3 := ⟨⟨by decide, by decide⟩, cWs_i2 2 rfl, cWs_i1 131 rfl, ⟨cWs_i2 3 rfl, cWs_i2 4 rfl⟩, cWs_i1 136 rfl, by decide +kernel⟩
set_option maxRecDepth 20000 in
theorem cc_X1_88 : cCal false RX1 88 yX1_searchBlocks cX1_searchBlocks 9 none 4 := ⟨⟨by decide, by decide⟩, cWs_i2 5 rfl, cWs_i1 131 rfl, ⟨cWs_i2 6 rfl, cWs_i2 7 rfl⟩, cWs_i1 153 rfl, by decide +kernel⟩
set_option maxRecDepth 20000 in
theorem cc_X7_173 : cCal false RX7 173 yX9_placesOf cX9_placesOf 5 (some .int) 1 := ⟨⟨by decide, by decide⟩, cWs_i2 10 rfl, cWs_i0 18 rfl, ⟨cWs_i2 11 rfl, cWs_i2 12 rfl⟩, cWs_i2 9 rfl, by decide +kernel⟩
set_option maxRecDepth 20000 in
theorem cc_X7_189 : cCal false RX7 189 yX9_codeAt cX9_codeAt 2 (some .long) 1 := ⟨⟨by decide, by decide⟩, cWs_i2 17 rfl, cWs_i0 18 rfl, ⟨cWs_i2 18 rfl, cWs_i2 19 rfl⟩, cWs_i2 14 rfl, by decide +kernel⟩
set_option maxRecDepth 20000 in
theorem cc_X7_192 : cCal false RX7 192 yX9_placeAt cX9_placeAt 2 (some .int) 1 := ⟨⟨by decide, by decide⟩, cWs_i2 20 rfl, cWs_i0 18 rfl, ⟨cWs_i2 21 rfl, cWs_i2 22 rfl⟩, cWs_i2 15 rfl, by decide +kernel⟩
set_option maxRecDepth 20000 in
theorem cc_X7_169 : cCal false RX7 169 yX0_textOf cX0_textOf 2 (some (.object "SearchMill$Text")) 1 := ⟨⟨by decide, by decide⟩, cWs_i2 24 rfl, cWs_i2 27 rfl, ⟨cWs_i2 25 rfl, cWs_i2 26 rfl⟩, cWs_i0 22 rfl, by decide +kernel⟩
set_option maxRecDepth 20000 in
theorem cc_X7_179 : cCal false RX7 179 yX7_scanCounted cX7_scanCounted 4 (some .int) 2 := ⟨⟨by decide, by decide⟩, cWs_i2 28 rfl, cWs_i1 1 rfl, ⟨cWs_i2 29 rfl, cWs_i2 30 rfl⟩, cWs_i2 13 rfl, by decide +kernel⟩
set_option maxRecDepth 20000 in
theorem cc_X7_183 : cCal true RX7 183 yX7_scanTold cX7_scanTold 4 (some .int) 2 := ⟨⟨by decide, by decide⟩, cWs_i2 31 rfl, cWs_i1 1 rfl, cWs_i2 32 rfl, cWs_i2 23 rfl, by decide +kernel⟩
set_option maxRecDepth 20000 in
theorem cc_X1_149 : cCal true RX1 149 yJ7_fill_53178 cJ7_fill_53178 4 none 2 := ⟨⟨by decide, by decide⟩, cWs_i2 38 rfl, cWs_i0 129 rfl, cWs_i0 128 rfl, cWs_i0 94 rfl, by decide +kernel⟩
set_option maxRecDepth 20000 in
theorem cc_X1_160 : cCal false RX1 160 yJx4a65c_size_8abf5 cJx4a65c_size_8abf5 1 (some .int) 0 := ⟨⟨by decide, by decide⟩, cWs_i2 39 rfl, cWs_i0 58 rfl, ⟨cWs_i0 64 rfl, cWs_i0 65 rfl⟩, cWs_i0 42 rfl, by decide +kernel⟩
set_option maxRecDepth 20000 in
theorem cc_X1_163 : cCal false RX1 163 yX7_markAt cX7_markAt 3 (some .int) 2 := ⟨⟨by decide, by decide⟩, cWs_i2 40 rfl, cWs_i1 1 rfl, ⟨cWs_i1 115 rfl, cWs_i1 116 rfl⟩, cWs_i1 87 rfl, by decide +kernel⟩
set_option maxRecDepth 20000 in
theorem cc_X1_173 : cCal true RX1 173 yX1_areSpotsIn cX1_areSpotsIn 5 (some .boolean) 3 := ⟨⟨by decide, by decide⟩, cWs_i2 44 rfl, cWs_i1 131 rfl, cWs_i2 45 rfl, cWs_i2 42 rfl, by decide +kernel⟩
set_option maxRecDepth 20000 in
theorem cc_X1_145 : cCal true RX1 145 yX1_isCovered cX1_isCovered 6 (some .boolean) 5 := ⟨⟨by decide, by decide⟩, cWs_i2 46 rfl, cWs_i1 131 rfl, cWs_i2 47 rfl, cWs_i2 43 rfl, by decide +kernel⟩
set_option maxRecDepth 20000 in
theorem cc_X1_138 : cCal false RX1 138 yX7_scanDocument cX7_scanDocument 6 none 2 := ⟨⟨by decide, by decide⟩, cWs_i2 48 rfl, cWs_i1 1 rfl, ⟨cWs_i2 49 rfl, cWs_i2 50 rfl⟩, cWs_i2 33 rfl, by decide +kernel⟩
set_option maxRecDepth 20000 in
theorem cc_X1_142 : cCal false RX1 142 yX1_readSpots cX1_readSpots 7 (some .int) 2 := ⟨⟨by decide, by decide⟩, cWs_i2 51 rfl, cWs_i1 131 rfl, ⟨cWs_i2 52 rfl, cWs_i2 53 rfl⟩, cWs_i2 41 rfl, by decide +kernel⟩
set_option maxRecDepth 20000 in
theorem cc_X2_15 : cCal false RX2 15 yX8_size cX8_size 1 (some .int) 0 := ⟨⟨by decide, by decide⟩, cWs_i2 59 rfl, cWs_i0 90 rfl, ⟨cWs_i1 27 rfl, cWs_i1 28 rfl⟩, cWs_i1 7 rfl, by decide +kernel⟩
set_option maxRecDepth 20000 in
theorem cc_X2_32 : cCal false RX2 32 yX2_liveCount cX2_liveCount 3 (some .int) 0 := ⟨⟨by decide, by decide⟩, cWs_i2 66 rfl, cWs_i0 72 rfl, ⟨cWs_i0 70 rfl, cWs_i0 71 rfl⟩, cWs_i0 59 rfl, by decide +kernel⟩
set_option maxRecDepth 20000 in
theorem cc_X2_39 : cCal false RX2 39 yJx4a65c_get_915e3 cJx4a65c_get_915e3 2 (some (.object "java/lang/Object")) 1 := ⟨⟨by decide, by decide⟩, cWs_i2 71 rfl, cWs_i0 58 rfl, ⟨cWs_i0 67 rfl, cWs_i0 68 rfl⟩, cWs_i0 51 rfl, by decide +kernel⟩
set_option maxRecDepth 20000 in
theorem cc_X2_51 : cCal false RX2 51 yX2_liveAt cX2_liveAt 3 (some .int) 1 := ⟨⟨by decide, by decide⟩, cWs_i2 73 rfl, cWs_i0 72 rfl, ⟨cWs_i2 74 rfl, cWs_i2 75 rfl⟩, cWs_i2 72 rfl, by decide +kernel⟩
set_option maxRecDepth 20000 in
theorem cc_J8_201 : cCal true RJ8 201 yJ8_hugeLength_7cf53 cJ8_hugeLength_7cf53 3 (some .int) 2 := ⟨⟨by decide, by decide⟩, cWs_i2 81 rfl, cWs_i2 83 rfl, cWs_i2 82 rfl, cWs_i2 77 rfl, by decide +kernel⟩
set_option maxRecDepth 20000 in
theorem cc_J7_300 : cCal true RJ7 300 yJ7_copyOf_6403c cJ7_copyOf_6403c 4 (some (.array (.object "java/lang/Object"))) 3 := ⟨⟨by decide, by decide⟩, cWs_i2 94 rfl, cWs_i0 129 rfl, cWs_i2 95 rfl, cWs_i2 84 rfl, by decide +kernel⟩
set_option maxRecDepth 20000 in
theorem cc_Jx4a65c_73 : cCal true RJx4a65c 73 yJ8_newLength_cabcc cJ8_newLength_cabcc 4 (some .int) 3 := ⟨⟨by decide, by decide⟩, cWs_i2 99 rfl, cWs_i2 83 rfl, cWs_i2 100 rfl, cWs_i2 79 rfl, by decide +kernel⟩
set_option maxRecDepth 20000 in
theorem cc_Jx4a65c_66 : cCal true RJx4a65c 66 yJ7_copyOf_1904c cJ7_copyOf_1904c 2 (some (.array (.object "java/lang/Object"))) 2 := ⟨⟨by decide, by decide⟩, cWs_i2 101 rfl, cWs_i0 129 rfl, cWs_i2 102 rfl, cWs_i2 89 rfl, by decide +kernel⟩
set_option maxRecDepth 20000 in
theorem cc_Jx4a65c_69 : cCal false RJx4a65c 69 yJx4a65c_grow_92f84 cJx4a65c_grow_92f84 4 (some (.array (.object "java/lang/Object"))) 1 := ⟨⟨by decide, by decide⟩, cWs_i2 104 rfl, cWs_i0 58 rfl, ⟨cWs_i2 105 rfl, cWs_i2 106 rfl⟩, cWs_i2 103 rfl, by decide +kernel⟩
set_option maxRecDepth 20000 in
theorem cc_Jx4a65c_129 : cCal false RJx4a65c 129 yJx4a65c_grow_d5877 cJx4a65c_grow_d5877 1 (some (.array (.object "java/lang/Object"))) 0 := ⟨⟨by decide, by decide⟩, cWs_i2 108 rfl, cWs_i0 58 rfl, ⟨cWs_i2 109 rfl, cWs_i2 110 rfl⟩, cWs_i2 107 rfl, by decide +kernel⟩
set_option maxRecDepth 20000 in
theorem cc_Jx4a65c_131 : cCal false RJx4a65c 131 yJx4a65c_add_72be8 cJx4a65c_add_72be8 4 none 3 := ⟨⟨by decide, by decide⟩, cWs_i2 114 rfl, cWs_i0 58 rfl, ⟨cWs_i2 115 rfl, cWs_i2 116 rfl⟩, cWs_i2 111 rfl, by decide +kernel⟩
set_option maxRecDepth 20000 in
theorem cc_X2_55 : cCal false RX2 55 yJx4a65c_add_9ea2d cJx4a65c_add_9ea2d 2 (some .boolean) 1 := ⟨⟨by decide, by decide⟩, cWs_i2 118 rfl, cWs_i0 58 rfl, ⟨cWs_i2 119 rfl, cWs_i2 120 rfl⟩, cWs_i2 117 rfl, by decide +kernel⟩
set_option maxRecDepth 20000 in
theorem cc_X3_83 : cCal false RX3 83 yX9_signOf cX9_signOf 2 (some .int) 1 := ⟨⟨by decide, by decide⟩, cWs_i2 140 rfl, cWs_i0 18 rfl, ⟨cWs_i2 141 rfl, cWs_i2 142 rfl⟩, cWs_i2 135 rfl, by decide +kernel⟩
set_option maxRecDepth 20000 in
theorem cc_X3_87 : cCal true RX3 87 yX9_digitOf cX9_digitOf 1 (some .int) 1 := ⟨⟨by decide, by decide⟩, cWs_i2 143 rfl, cWs_i0 18 rfl, cWs_i2 144 rfl, cWs_i2 136 rfl, by decide +kernel⟩
set_option maxRecDepth 20000 in
theorem cc_X3_90 : cCal true RX3 90 yX9_withDigit cX9_withDigit 4 (some .long) 3 := ⟨⟨by decide, by decide⟩, cWs_i2 145 rfl, cWs_i0 18 rfl, cWs_i2 146 rfl, cWs_i2 137 rfl, by decide +kernel⟩
set_option maxRecDepth 20000 in
theorem cc_X3_45 : cCal false RX3 45 yX3_readWordsOf cX3_readWordsOf 5 none 1 := ⟨⟨by decide, by decide⟩, cWs_i2 148 rfl, cWs_i2 151 rfl, ⟨cWs_i2 149 rfl, cWs_i2 150 rfl⟩, cWs_i2 138 rfl, by decide +kernel⟩
set_option maxRecDepth 20000 in
theorem cc_X9_70 : cCal true RX9 70 yX9_digitOf cX9_digitOf 1 (some .int) 1 := ⟨⟨by decide, by decide⟩, cWs_i2 154 rfl, cWs_i0 18 rfl, cWs_i2 144 rfl, cWs_i2 136 rfl, by decide +kernel⟩
set_option maxRecDepth 20000 in
theorem cc_X9_59 : cCal true RX9 59 yX9_lengthOf cX9_lengthOf 3 (some .int) 1 := ⟨⟨by decide, by decide⟩, cWs_i2 157 rfl, cWs_i0 18 rfl, cWs_i1 56 rfl, cWs_i1 36 rfl, by decide +kernel⟩
set_option maxRecDepth 20000 in
theorem cc_X9_62 : cCal true RX9 62 yX9_isEnding cX9_isEnding 6 (some .boolean) 5 := ⟨⟨by decide, by decide⟩, cWs_i2 158 rfl, cWs_i0 18 rfl, cWs_i2 159 rfl, cWs_i2 153 rfl, by decide +kernel⟩
set_option maxRecDepth 20000 in
theorem cc_X9_66 : cCal true RX9 66 yX9_cutTo cX9_cutTo 3 (some .long) 2 := ⟨⟨by decide, by decide⟩, cWs_i3 0 rfl, cWs_i0 18 rfl, cWs_i3 1 rfl, cWs_i2 155 rfl, by decide +kernel⟩
set_option maxRecDepth 20000 in
theorem cc_X9_29 : cCal true RX9 29 yJ7_copyOf_c38d5 cJ7_copyOf_c38d5 3 (some (.array .long)) 2 := ⟨⟨by decide, by decide⟩, cWs_i3 15 rfl, cWs_i0 129 rfl, cWs_i3 16 rfl, cWs_i3 3 rfl, by decide +kernel⟩
set_option maxRecDepth 20000 in
theorem cc_X9_35 : cCal true RX9 35 yJ7_copyOf_59c91 cJ7_copyOf_59c91 3 (some (.array .int)) 2 := ⟨⟨by decide, by decide⟩, cWs_i3 17 rfl, cWs_i0 129 rfl, cWs_i3 18 rfl, cWs_i3 10 rfl, by decide +kernel⟩
set_option maxRecDepth 20000 in
theorem cc_X3_76 : cCal false RX3 76 yX9_placesOf cX9_placesOf 5 (some .int) 1 := ⟨⟨by decide, by decide⟩, cWs_i3 20 rfl, cWs_i0 18 rfl, ⟨cWs_i2 11 rfl, cWs_i2 12 rfl⟩, cWs_i2 9 rfl, by decide +kernel⟩
set_option maxRecDepth 20000 in
theorem cc_X3_68 : cCal false RX3 68 yX9_putToken cX9_putToken 4 none 2 := ⟨⟨by decide, by decide⟩, cWs_i3 21 rfl, cWs_i0 18 rfl, ⟨cWs_i3 22 rfl, cWs_i3 23 rfl⟩, cWs_i3 19 rfl, by decide +kernel⟩
set_option maxRecDepth 20000 in
theorem cc_X3_56 : cCal false RX3 56 yX3_wordAt cX3_wordAt 2 (some .long) 1 := ⟨⟨by decide, by decide⟩, cWs_i3 26 rfl, cWs_i2 151 rfl, ⟨cWs_i3 27 rfl, cWs_i3 28 rfl⟩, cWs_i2 152 rfl, by decide +kernel⟩
set_option maxRecDepth 20000 in
theorem cc_X3_60 : cCal true RX3 60 yX9_stemOf cX9_stemOf 3 (some .long) 1 := ⟨⟨by decide, by decide⟩, cWs_i3 29 rfl, cWs_i0 18 rfl, cWs_i3 30 rfl, cWs_i2 156 rfl, by decide +kernel⟩
set_option maxRecDepth 20000 in
theorem cc_X3_64 : cCal false RX3 64 yX3_isStop cX3_isStop 4 (some .boolean) 1 := ⟨⟨by decide, by decide⟩, cWs_i3 31 rfl, cWs_i2 151 rfl, ⟨cWs_i3 32 rfl, cWs_i3 33 rfl⟩, cWs_i3 2 rfl, by decide +kernel⟩
set_option maxRecDepth 20000 in
theorem cc_X3_72 : cCal false RX3 72 yX3_putSynonyms cX3_putSynonyms 6 none 3 := ⟨⟨by decide, by decide⟩, cWs_i3 34 rfl, cWs_i2 151 rfl, ⟨cWs_i3 35 rfl, cWs_i3 36 rfl⟩, cWs_i3 24 rfl, by decide +kernel⟩
set_option maxRecDepth 20000 in
theorem cc_X3_49 : cCal false RX3 49 yX3_tokenise cX3_tokenise 6 none 2 := ⟨⟨by decide, by decide⟩, cWs_i3 38 rfl, cWs_i2 151 rfl, ⟨cWs_i3 39 rfl, cWs_i3 40 rfl⟩, cWs_i3 37 rfl, by decide +kernel⟩
set_option maxRecDepth 20000 in
theorem cc_X4_66 : cCal false RX4 66 yX9_codeAt cX9_codeAt 2 (some .long) 1 := ⟨⟨by decide, by decide⟩, cWs_i3 54 rfl, cWs_i0 18 rfl, ⟨cWs_i2 18 rfl, cWs_i2 19 rfl⟩, cWs_i2 14 rfl, by decide +kernel⟩
set_option maxRecDepth 20000 in
theorem cc_X4_70 : cCal false RX4 70 yX9_placeAt cX9_placeAt 2 (some .int) 1 := ⟨⟨by decide, by decide⟩, cWs_i3 55 rfl, cWs_i0 18 rfl, ⟨cWs_i2 21 rfl, cWs_i2 22 rfl⟩, cWs_i2 15 rfl, by decide +kernel⟩
set_option maxRecDepth 20000 in
theorem cc_X4_91 : cCal true RX4 91 yX9_digitOf cX9_digitOf 1 (some .int) 1 := ⟨⟨by decide, by decide⟩, cWs_i3 59 rfl, cWs_i0 18 rfl, cWs_i2 144 rfl, cWs_i2 136 rfl, by decide +kernel⟩
set_option maxRecDepth 20000 in
theorem cc_X4_85 : cCal false RX4 85 yX9_signOf cX9_signOf 2 (some .int) 1 := ⟨⟨by decide, by decide⟩, cWs_i3 61 rfl, cWs_i0 18 rfl, ⟨cWs_i2 141 rfl, cWs_i2 142 rfl⟩, cWs_i2 135 rfl, by decide +kernel⟩
set_option maxRecDepth 20000 in
theorem cc_X4_88 : cCal true RX4 88 yX4_patternOf cX4_patternOf 1 (some .int) 1 := ⟨⟨by decide, by decide⟩, cWs_i3 62 rfl, cWs_i0 154 rfl, cWs_i3 63 rfl, cWs_i3 58 rfl, by decide +kernel⟩
set_option maxRecDepth 20000 in
theorem cc_X5_67 : cCal true RX5 67 yJ7_copyOf_9075b cJ7_copyOf_9075b 3 (some (.array .byte)) 2 := ⟨⟨by decide, by decide⟩, cWs_i3 82 rfl, cWs_i0 129 rfl, cWs_i3 83 rfl, cWs_i3 76 rfl, by decide +kernel⟩
set_option maxRecDepth 20000 in
theorem cc_X5_63 : cCal false RX5 63 yX5_putBits cX5_putBits 5 none 2 := ⟨⟨by decide, by decide⟩, cWs_i3 84 rfl, cWs_i0 104 rfl, ⟨cWs_i3 85 rfl, cWs_i3 86 rfl⟩, cWs_i3 81 rfl, by decide +kernel⟩
set_option maxRecDepth 20000 in
theorem cc_X5_60 : cCal false RX5 60 yX5_close cX5_close 4 none 0 := ⟨⟨by decide, by decide⟩, cWs_i3 88 rfl, cWs_i0 104 rfl, ⟨cWs_i3 89 rfl, cWs_i3 90 rfl⟩, cWs_i3 87 rfl, by decide +kernel⟩
set_option maxRecDepth 20000 in
theorem cc_X5_51 : cCal false RX5 51 yX5_putNumber cX5_putNumber 2 none 1 := ⟨⟨by decide, by decide⟩, cWs_i3 92 rfl, cWs_i0 104 rfl, ⟨cWs_i3 93 rfl, cWs_i3 94 rfl⟩, cWs_i3 91 rfl, by decide +kernel⟩
set_option maxRecDepth 20000 in
theorem cc_X5_55 : cCal true RX5 55 yJ6_bitCount_0f7a4 cJ6_bitCount_0f7a4 1 (some .int) 1 := ⟨⟨by decide, by decide⟩, cWs_i3 95 rfl, cWs_i1 119 rfl, cWs_i1 118 rfl, cWs_i1 88 rfl, by decide +kernel⟩
set_option maxRecDepth 20000 in
theorem cc_X6_36 : cCal false RX6 36 yJx4a65c_add_9ea2d cJx4a65c_add_9ea2d 2 (some .boolean) 1 := ⟨⟨by decide, by decide⟩, cWs_i3 117 rfl, cWs_i0 58 rfl, ⟨cWs_i2 119 rfl, cWs_i2 120 rfl⟩, cWs_i2 117 rfl, by decide +kernel⟩
set_option maxRecDepth 20000 in
theorem cc_X7_145 : cCal false RX7 145 yX7_readSegment cX7_readSegment 5 none 2 := ⟨⟨by decide, by decide⟩, cWs_i3 129 rfl, cWs_i1 1 rfl, ⟨cWs_i2 0 rfl, cWs_i2 1 rfl⟩, cWs_i1 85 rfl, by decide +kernel⟩
set_option maxRecDepth 20000 in
theorem cc_X7_149 : cCal false RX7 149 yX2_isLive cX2_isLive 2 (some .boolean) 1 := ⟨⟨by decide, by decide⟩, cWs_i3 130 rfl, cWs_i0 72 rfl, ⟨cWs_i0 113 rfl, cWs_i0 114 rfl⟩, cWs_i0 110 rfl, by decide +kernel⟩
set_option maxRecDepth 20000 in
theorem cc_X7_153 : cCal false RX7 153 yX7_valueAt cX7_valueAt 5 (some .int) 2 := ⟨⟨by decide, by decide⟩, cWs_i3 131 rfl, cWs_i1 1 rfl, ⟨cWs_i1 134 rfl, cWs_i1 135 rfl⟩, cWs_i1 126 rfl, by decide +kernel⟩
set_option maxRecDepth 20000 in
theorem cc_X7_162 : cCal false RX7 162 yJx4a65c_add_9ea2d cJx4a65c_add_9ea2d 2 (some .boolean) 1 := ⟨⟨by decide, by decide⟩, cWs_i3 132 rfl, cWs_i0 58 rfl, ⟨cWs_i2 119 rfl, cWs_i2 120 rfl⟩, cWs_i2 117 rfl, by decide +kernel⟩
set_option maxRecDepth 20000 in
theorem cc_X7_166 : cCal true RX7 166 yX7_scanCount cX7_scanCount 8 (some .int) 3 := ⟨⟨by decide, by decide⟩, cWs_i3 135 rfl, cWs_i1 1 rfl, cWs_i3 136 rfl, cWs_i3 134 rfl, by decide +kernel⟩
set_option maxRecDepth 20000 in
theorem cc_X7_196 : cCal false RX7 196 yX7_scanDocument cX7_scanDocument 6 none 2 := ⟨⟨by decide, by decide⟩, cWs_i3 138 rfl, cWs_i1 1 rfl, ⟨cWs_i2 49 rfl, cWs_i2 50 rfl⟩, cWs_i2 33 rfl, by decide +kernel⟩
set_option maxRecDepth 20000 in
theorem cc_X8_30 : cCal false RX8 30 yX8_size cX8_size 1 (some .int) 0 := ⟨⟨by decide, by decide⟩, cWs_i3 146 rfl, cWs_i0 90 rfl, ⟨cWs_i1 27 rfl, cWs_i1 28 rfl⟩, cWs_i1 7 rfl, by decide +kernel⟩
set_option maxRecDepth 20000 in
theorem cc_X9_38 : cCal false RX9 38 yX9_codeAt cX9_codeAt 2 (some .long) 1 := ⟨⟨by decide, by decide⟩, cWs_i3 148 rfl, cWs_i0 18 rfl, ⟨cWs_i2 18 rfl, cWs_i2 19 rfl⟩, cWs_i2 14 rfl, by decide +kernel⟩
set_option maxRecDepth 20000 in
theorem cc_X9_42 : cCal false RX9 42 yX9_placesOf cX9_placesOf 5 (some .int) 1 := ⟨⟨by decide, by decide⟩, cWs_i3 149 rfl, cWs_i0 18 rfl, ⟨cWs_i2 11 rfl, cWs_i2 12 rfl⟩, cWs_i2 9 rfl, by decide +kernel⟩
set_option maxRecDepth 20000 in
theorem cc_X9_46 : cCal false RX9 46 yX9_placeAt cX9_placeAt 2 (some .int) 1 := ⟨⟨by decide, by decide⟩, cWs_i3 150 rfl, cWs_i0 18 rfl, ⟨cWs_i2 21 rfl, cWs_i2 22 rfl⟩, cWs_i2 15 rfl, by decide +kernel⟩
set_option maxRecDepth 20000 in
theorem cc_Jx4a65c_135 : cCal false RJx4a65c 135 yJx4a65c_rangeCheckForAdd_d00df cJx4a65c_rangeCheckForAdd_d00df 2 none 1 := ⟨⟨by decide, by decide⟩, cWs_i3 153 rfl, cWs_i0 58 rfl, ⟨cWs_i3 154 rfl, cWs_i3 155 rfl⟩, cWs_i3 151 rfl, by decide +kernel⟩
set_option maxRecDepth 20000 in
theorem cc_X8_86 : cCal false RX8 86 yJx4a65c_add_7a177 cJx4a65c_add_7a177 5 none 2 := ⟨⟨by decide, by decide⟩, cWs_i4 1 rfl, cWs_i0 58 rfl, ⟨cWs_i4 2 rfl, cWs_i4 3 rfl⟩, cWs_i3 156 rfl, by decide +kernel⟩
set_option maxRecDepth 20000 in
theorem cc_X8_41 : cCal false RX8 41 yX0_textOf cX0_textOf 2 (some (.object "SearchMill$Text")) 1 := ⟨⟨by decide, by decide⟩, cWs_i4 7 rfl, cWs_i2 27 rfl, ⟨cWs_i2 25 rfl, cWs_i2 26 rfl⟩, cWs_i0 22 rfl, by decide +kernel⟩
set_option maxRecDepth 20000 in
theorem cc_X8_50 : cCal false RX8 50 yX9_isFirst cX9_isFirst 3 (some .boolean) 1 := ⟨⟨by decide, by decide⟩, cWs_i4 8 rfl, cWs_i0 18 rfl, ⟨cWs_i4 9 rfl, cWs_i4 10 rfl⟩, cWs_i3 147 rfl, by decide +kernel⟩
set_option maxRecDepth 20000 in
theorem cc_X8_54 : cCal false RX8 54 yX9_codeAt cX9_codeAt 2 (some .long) 1 := ⟨⟨by decide, by decide⟩, cWs_i4 11 rfl, cWs_i0 18 rfl, ⟨cWs_i2 18 rfl, cWs_i2 19 rfl⟩, cWs_i2 14 rfl, by decide +kernel⟩
set_option maxRecDepth 20000 in
theorem cc_X8_58 : cCal true RX8 58 yX8_ownPostings cX8_ownPostings 5 (some (.object "SearchMill$Postings")) 2 := ⟨⟨by decide, by decide⟩, cWs_i4 12 rfl, cWs_i0 90 rfl, cWs_i4 13 rfl, cWs_i4 4 rfl, by decide +kernel⟩
set_option maxRecDepth 20000 in
theorem cc_X8_62 : cCal false RX8 62 yX9_placesOf cX9_placesOf 5 (some .int) 1 := ⟨⟨by decide, by decide⟩, cWs_i4 14 rfl, cWs_i0 18 rfl, ⟨cWs_i2 11 rfl, cWs_i2 12 rfl⟩, cWs_i2 9 rfl, by decide +kernel⟩
set_option maxRecDepth 20000 in
theorem cc_X8_66 : cCal false RX8 66 yX5_putDocument cX5_putDocument 5 none 2 := ⟨⟨by decide, by decide⟩, cWs_i4 15 rfl, cWs_i0 104 rfl, ⟨cWs_i4 16 rfl, cWs_i4 17 rfl⟩, cWs_i3 96 rfl, by decide +kernel⟩
set_option maxRecDepth 20000 in
theorem cc_X8_72 : cCal false RX8 72 yX5_close cX5_close 4 none 0 := ⟨⟨by decide, by decide⟩, cWs_i4 18 rfl, cWs_i0 104 rfl, ⟨cWs_i3 89 rfl, cWs_i3 90 rfl⟩, cWs_i3 87 rfl, by decide +kernel⟩
set_option maxRecDepth 20000 in
theorem cc_X10_32 : cCal false RX10 32 yJx4a65c_add_7a177 cJx4a65c_add_7a177 5 none 2 := ⟨⟨by decide, by decide⟩, cWs_i4 26 rfl, cWs_i0 58 rfl, ⟨cWs_i4 2 rfl, cWs_i4 3 rfl⟩, cWs_i3 156 rfl, by decide +kernel⟩
set_option maxRecDepth 20000 in
theorem cc_Jx4a65c_144 : cCal false RJx4a65c 144 yJx4a65c_fastRemove_b59b0 cJx4a65c_fastRemove_b59b0 4 none 2 := ⟨⟨by decide, by decide⟩, cWs_i4 32 rfl, cWs_i0 58 rfl, ⟨cWs_i4 33 rfl, cWs_i4 34 rfl⟩, cWs_i4 30 rfl, by decide +kernel⟩
set_option maxRecDepth 20000 in
theorem cc_X10_40 : cCal false RX10 40 yX10_placeOf cX10_placeOf 3 (some .int) 1 := ⟨⟨by decide, by decide⟩, cWs_i4 36 rfl, cWs_i0 120 rfl, ⟨cWs_i4 37 rfl, cWs_i4 38 rfl⟩, cWs_i4 29 rfl, by decide +kernel⟩
set_option maxRecDepth 20000 in
theorem cc_X10_44 : cCal false RX10 44 yX2_gather cX2_gather 5 none 3 := ⟨⟨by decide, by decide⟩, cWs_i4 39 rfl, cWs_i0 72 rfl, ⟨cWs_i4 40 rfl, cWs_i4 41 rfl⟩, cWs_i2 121 rfl, by decide +kernel⟩
set_option maxRecDepth 20000 in
theorem cc_X10_48 : cCal false RX10 48 yJx4a65c_remove_915e3 cJx4a65c_remove_915e3 4 (some (.object "java/lang/Object")) 1 := ⟨⟨by decide, by decide⟩, cWs_i4 42 rfl, cWs_i0 58 rfl, ⟨cWs_i4 43 rfl, cWs_i4 44 rfl⟩, cWs_i4 31 rfl, by decide +kernel⟩
set_option maxRecDepth 20000 in
theorem cc_X10_63 : cCal false RX10 63 yX2_copy cX2_copy 3 (some (.object "SearchMill$Holding")) 0 := ⟨⟨by decide, by decide⟩, cWs_i4 51 rfl, cWs_i0 72 rfl, ⟨cWs_i4 52 rfl, cWs_i4 53 rfl⟩, cWs_i2 60 rfl, by decide +kernel⟩
set_option maxRecDepth 20000 in
theorem cc_X10_67 : cCal false RX10 67 yJx4a65c_add_9ea2d cJx4a65c_add_9ea2d 2 (some .boolean) 1 := ⟨⟨by decide, by decide⟩, cWs_i4 54 rfl, cWs_i0 58 rfl, ⟨cWs_i2 119 rfl, cWs_i2 120 rfl⟩, cWs_i2 117 rfl, by decide +kernel⟩
set_option maxRecDepth 20000 in
theorem cc_X10_70 : cCal false RX10 70 yX10_at cX10_at 2 (some (.object "SearchMill$Holding")) 1 := ⟨⟨by decide, by decide⟩, cWs_i4 56 rfl, cWs_i0 120 rfl, ⟨cWs_i0 122 rfl, cWs_i0 123 rfl⟩, cWs_i0 78 rfl, by decide +kernel⟩
set_option maxRecDepth 20000 in
theorem cc_X10_77 : cCal false RX10 77 yX2_liveAt cX2_liveAt 3 (some .int) 1 := ⟨⟨by decide, by decide⟩, cWs_i4 60 rfl, cWs_i0 72 rfl, ⟨cWs_i2 74 rfl, cWs_i2 75 rfl⟩, cWs_i2 72 rfl, by decide +kernel⟩
set_option maxRecDepth 20000 in
theorem cc_X10_88 : cCal false RX10 88 yX2_kill cX2_kill 3 (some .boolean) 1 := ⟨⟨by decide, by decide⟩, cWs_i4 62 rfl, cWs_i0 72 rfl, ⟨cWs_i4 63 rfl, cWs_i4 64 rfl⟩, cWs_i2 76 rfl, by decide +kernel⟩
set_option maxRecDepth 20000 in
theorem cc_X10_92 : cCal false RX10 92 yX8_tier cX8_tier 3 (some .int) 0 := ⟨⟨by decide, by decide⟩, cWs_i4 66 rfl, cWs_i0 90 rfl, ⟨cWs_i4 67 rfl, cWs_i4 68 rfl⟩, cWs_i3 145 rfl, by decide +kernel⟩
set_option maxRecDepth 20000 in
theorem cc_X10_95 : cCal false RX10 95 yX10_holdingOf cX10_holdingOf 2 (some (.object "SearchMill$Holding")) 1 := ⟨⟨by decide, by decide⟩, cWs_i4 70 rfl, cWs_i0 120 rfl, ⟨cWs_i4 71 rfl, cWs_i4 72 rfl⟩, cWs_i4 57 rfl, by decide +kernel⟩
set_option maxRecDepth 20000 in
theorem cc_X10_99 : cCal false RX10 99 yX2_hasDead cX2_hasDead 1 (some .boolean) 0 := ⟨⟨by decide, by decide⟩, cWs_i4 73 rfl, cWs_i0 72 rfl, ⟨cWs_i4 74 rfl, cWs_i4 75 rfl⟩, cWs_i2 65 rfl, by decide +kernel⟩
set_option maxRecDepth 20000 in
theorem cc_X10_103 : cCal false RX10 103 yX2_isAlike cX2_isAlike 3 (some .boolean) 1 := ⟨⟨by decide, by decide⟩, cWs_i4 76 rfl, cWs_i0 72 rfl, ⟨cWs_i4 77 rfl, cWs_i4 78 rfl⟩, cWs_i2 67 rfl, by decide +kernel⟩
set_option maxRecDepth 20000 in
theorem cc_X11_121 : cCal false RX11 121 yX9_putSign cX9_putSign 2 (some .int) 1 := ⟨⟨by decide, by decide⟩, cWs_i4 131 rfl, cWs_i0 18 rfl, ⟨cWs_i4 132 rfl, cWs_i4 133 rfl⟩, cWs_i4 20 rfl, by decide +kernel⟩
set_option maxRecDepth 20000 in
theorem cc_X11_129 : cCal false RX11 129 yX3_readPad cX3_readPad 1 (some .int) 0 := ⟨⟨by decide, by decide⟩, cWs_i4 136 rfl, cWs_i2 151 rfl, ⟨cWs_i4 137 rfl, cWs_i4 138 rfl⟩, cWs_i2 147 rfl, by decide +kernel⟩
set_option maxRecDepth 20000 in
theorem cc_X11_141 : cCal false RX11 141 yX3_putStop cX3_putStop 3 (some .int) 0 := ⟨⟨by decide, by decide⟩, cWs_i4 139 rfl, cWs_i2 151 rfl, ⟨cWs_i4 140 rfl, cWs_i4 141 rfl⟩, cWs_i3 42 rfl, by decide +kernel⟩
set_option maxRecDepth 20000 in
theorem cc_X11_149 : cCal false RX11 149 yX3_putPair cX3_putPair 1 (some .int) 0 := ⟨⟨by decide, by decide⟩, cWs_i4 144 rfl, cWs_i2 151 rfl, ⟨cWs_i4 145 rfl, cWs_i4 146 rfl⟩, cWs_i3 43 rfl, by decide +kernel⟩
set_option maxRecDepth 20000 in
theorem cc_X11_152 : cCal true RX11 152 yX11_checkField cX11_checkField 1 none 1 := ⟨⟨by decide, by decide⟩, cWs_i4 152 rfl, cWs_i4 154 rfl, cWs_i4 153 rfl, cWs_i4 148 rfl, by decide +kernel⟩
set_option maxRecDepth 20000 in
theorem cc_X11_125 : cCal false RX11 125 yX3_takePad cX3_takePad 2 (some (.object "SearchMill$Text")) 0 := ⟨⟨by decide, by decide⟩, cWs_i4 155 rfl, cWs_i2 151 rfl, ⟨cWs_i4 156 rfl, cWs_i4 157 rfl⟩, cWs_i2 134 rfl, by decide +kernel⟩
set_option maxRecDepth 20000 in
theorem cc_X11_155 : cCal false RX11 155 yX3_tokenise cX3_tokenise 6 none 2 := ⟨⟨by decide, by decide⟩, cWs_i4 158 rfl, cWs_i2 151 rfl, ⟨cWs_i3 39 rfl, cWs_i3 40 rfl⟩, cWs_i3 37 rfl, by decide +kernel⟩
set_option maxRecDepth 20000 in
theorem cc_X11_159 : cCal false RX11 159 yX0_putText cX0_putText 3 none 2 := ⟨⟨by decide, by decide⟩, cWs_i4 159 rfl, cWs_i2 27 rfl, ⟨cWs_i5 0 rfl, cWs_i5 1 rfl⟩, cWs_i0 23 rfl, by decide +kernel⟩
set_option maxRecDepth 20000 in
theorem cc_X11_180 : cCal false RX11 180 yJx4a65c_size_8abf5 cJx4a65c_size_8abf5 1 (some .int) 0 := ⟨⟨by decide, by decide⟩, cWs_i5 10 rfl, cWs_i0 58 rfl, ⟨cWs_i0 64 rfl, cWs_i0 65 rfl⟩, cWs_i0 42 rfl, by decide +kernel⟩
set_option maxRecDepth 20000 in
theorem cc_X11_277 : cCal false RX11 277 yJx4a65c_get_915e3 cJx4a65c_get_915e3 2 (some (.object "java/lang/Object")) 1 := ⟨⟨by decide, by decide⟩, cWs_i5 11 rfl, cWs_i0 58 rfl, ⟨cWs_i0 67 rfl, cWs_i0 68 rfl⟩, cWs_i0 51 rfl, by decide +kernel⟩
set_option maxRecDepth 20000 in
theorem cc_X11_183 : cCal false RX11 183 yX11_bufferPlaceOf cX11_bufferPlaceOf 3 (some .int) 1 := ⟨⟨by decide, by decide⟩, cWs_i5 13 rfl, cWs_i4 154 rfl, ⟨cWs_i5 14 rfl, cWs_i5 15 rfl⟩, cWs_i5 12 rfl, by decide +kernel⟩
set_option maxRecDepth 20000 in
theorem cc_X11_321 : cCal false RX11 321 yJx4a65c_remove_915e3 cJx4a65c_remove_915e3 4 (some (.object "java/lang/Object")) 1 := ⟨⟨by decide, by decide⟩, cWs_i5 16 rfl, cWs_i0 58 rfl, ⟨cWs_i4 43 rfl, cWs_i4 44 rfl⟩, cWs_i4 31 rfl, by decide +kernel⟩
set_option maxRecDepth 20000 in
theorem cc_X11_493 : cCal false RX11 493 yX10_kill cX10_kill 3 (some .boolean) 1 := ⟨⟨by decide, by decide⟩, cWs_i5 17 rfl, cWs_i0 120 rfl, ⟨cWs_i5 18 rfl, cWs_i5 19 rfl⟩, cWs_i4 65 rfl, by decide +kernel⟩
set_option maxRecDepth 20000 in
theorem cc_X11_174 : cCal true RX11 174 yX11_checkKey cX11_checkKey 1 none 1 := ⟨⟨by decide, by decide⟩, cWs_i5 21 rfl, cWs_i4 154 rfl, cWs_i5 22 rfl, cWs_i5 6 rfl, by decide +kernel⟩
set_option maxRecDepth 20000 in
theorem cc_X11_177 : cCal false RX11 177 yX11_checkUp cX11_checkUp 1 none 0 := ⟨⟨by decide, by decide⟩, cWs_i5 23 rfl, cWs_i4 154 rfl, ⟨cWs_i5 24 rfl, cWs_i5 25 rfl⟩, cWs_i5 7 rfl, by decide +kernel⟩
set_option maxRecDepth 20000 in
theorem cc_X11_189 : cCal false RX11 189 yX11_dropKey cX11_dropKey 3 (some .boolean) 1 := ⟨⟨by decide, by decide⟩, cWs_i5 26 rfl, cWs_i4 154 rfl, ⟨cWs_i5 27 rfl, cWs_i5 28 rfl⟩, cWs_i5 20 rfl, by decide +kernel⟩
set_option maxRecDepth 20000 in
theorem cc_X11_196 : cCal false RX11 196 yX0_textOf cX0_textOf 2 (some (.object "SearchMill$Text")) 1 := ⟨⟨by decide, by decide⟩, cWs_i5 29 rfl, cWs_i2 27 rfl, ⟨cWs_i2 25 rfl, cWs_i2 26 rfl⟩, cWs_i0 22 rfl, by decide +kernel⟩
set_option maxRecDepth 20000 in
theorem cc_X11_200 : cCal false RX11 200 yJx4a65c_add_9ea2d cJx4a65c_add_9ea2d 2 (some .boolean) 1 := ⟨⟨by decide, by decide⟩, cWs_i5 30 rfl, cWs_i0 58 rfl, ⟨cWs_i2 119 rfl, cWs_i2 120 rfl⟩, cWs_i2 117 rfl, by decide +kernel⟩
set_option maxRecDepth 20000 in
theorem cc_X11_499 : cCal false RX11 499 yJx4a65c_clear_da8c8 cJx4a65c_clear_da8c8 4 none 0 := ⟨⟨by decide, by decide⟩, cWs_i5 35 rfl, cWs_i0 58 rfl, ⟨cWs_i5 36 rfl, cWs_i5 37 rfl⟩, cWs_i5 34 rfl, by decide +kernel⟩
set_option maxRecDepth 20000 in
theorem cc_X11_502 : cCal false RX11 502 yX1_forget cX1_forget 1 none 0 := ⟨⟨by decide, by decide⟩, cWs_i5 38 rfl, cWs_i1 131 rfl, ⟨cWs_i5 39 rfl, cWs_i5 40 rfl⟩, cWs_i0 41 rfl, by decide +kernel⟩
set_option maxRecDepth 20000 in
theorem cc_X11_496 : cCal false RX11 496 yX11_goDown cX11_goDown 1 none 0 := ⟨⟨by decide, by decide⟩, cWs_i5 42 rfl, cWs_i4 154 rfl, ⟨cWs_i5 43 rfl, cWs_i5 44 rfl⟩, cWs_i5 41 rfl, by decide +kernel⟩
set_option maxRecDepth 20000 in
theorem cc_X11_227 : cCal false RX11 227 yX11_doWrite cX11_doWrite 1 (some .boolean) 0 := ⟨⟨by decide, by decide⟩, cWs_i5 54 rfl, cWs_i4 154 rfl, ⟨cWs_i5 55 rfl, cWs_i5 56 rfl⟩, cWs_i5 45 rfl, by decide +kernel⟩
set_option maxRecDepth 20000 in
theorem cc_X11_505 : cCal false RX11 505 yX11_newSegment cX11_newSegment 4 (some (.object "SearchMill$Segment")) 1 := ⟨⟨by decide, by decide⟩, cWs_i5 57 rfl, cWs_i4 154 rfl, ⟨cWs_i5 58 rfl, cWs_i5 59 rfl⟩, cWs_i5 51 rfl, by decide +kernel⟩
set_option maxRecDepth 20000 in
theorem cc_X11_509 : cCal false RX11 509 yX8_readTexts cX8_readTexts 8 none 1 := ⟨⟨by decide, by decide⟩, cWs_i5 60 rfl, cWs_i0 90 rfl, ⟨cWs_i5 61 rfl, cWs_i5 62 rfl⟩, cWs_i4 19 rfl, by decide +kernel⟩
set_option maxRecDepth 20000 in
theorem cc_X11_240 : cCal false RX11 240 yX10_size cX10_size 1 (some .int) 0 := ⟨⟨by decide, by decide⟩, cWs_i5 63 rfl, cWs_i0 120 rfl, ⟨cWs_i0 118 rfl, cWs_i0 119 rfl⟩, cWs_i0 77 rfl, by decide +kernel⟩
set_option maxRecDepth 20000 in
theorem cc_X11_515 : cCal false RX11 515 yX10_put cX10_put 3 none 2 := ⟨⟨by decide, by decide⟩, cWs_i5 65 rfl, cWs_i0 120 rfl, ⟨cWs_i5 66 rfl, cWs_i5 67 rfl⟩, cWs_i4 27 rfl, by decide +kernel⟩
set_option maxRecDepth 20000 in
theorem cc_X11_206 : cCal false RX11 206 yJx4a65c_isEmpty_aae02 cJx4a65c_isEmpty_aae02 1 (some .boolean) 0 := ⟨⟨by decide, by decide⟩, cWs_i5 69 rfl, cWs_i0 58 rfl, ⟨cWs_i5 70 rfl, cWs_i5 71 rfl⟩, cWs_i5 33 rfl, by decide +kernel⟩
set_option maxRecDepth 20000 in
theorem cc_X11_210 : cCal false RX11 210 yX11_flushBuffer cX11_flushBuffer 3 (some .int) 0 := ⟨⟨by decide, by decide⟩, cWs_i5 72 rfl, cWs_i4 154 rfl, ⟨cWs_i5 73 rfl, cWs_i5 74 rfl⟩, cWs_i5 68 rfl, by decide +kernel⟩
set_option maxRecDepth 20000 in
theorem cc_X11_213 : cCal false RX11 213 yX10_duePlace cX10_duePlace 3 (some .int) 0 := ⟨⟨by decide, by decide⟩, cWs_i5 76 rfl, cWs_i0 120 rfl, ⟨cWs_i5 77 rfl, cWs_i5 78 rfl⟩, cWs_i4 69 rfl, by decide +kernel⟩
set_option maxRecDepth 20000 in
theorem cc_X11_218 : cCal false RX11 218 yX10_copyOf cX10_copyOf 5 (some (.object "SearchMill$View")) 2 := ⟨⟨by decide, by decide⟩, cWs_i5 80 rfl, cWs_i0 120 rfl, ⟨cWs_i5 81 rfl, cWs_i5 82 rfl⟩, cWs_i4 55 rfl, by decide +kernel⟩
set_option maxRecDepth 20000 in
theorem cc_X11_222 : cCal false RX11 222 yX10_liveCount cX10_liveCount 3 (some .int) 0 := ⟨⟨by decide, by decide⟩, cWs_i5 83 rfl, cWs_i0 120 rfl, ⟨cWs_i0 147 rfl, cWs_i0 148 rfl⟩, cWs_i0 73 rfl, by decide +kernel⟩
set_option maxRecDepth 20000 in
theorem cc_X11_520 : cCal false RX11 520 yX10_takeOut cX10_takeOut 8 (some .int) 3 := ⟨⟨by decide, by decide⟩, cWs_i5 85 rfl, cWs_i0 120 rfl, ⟨cWs_i5 86 rfl, cWs_i5 87 rfl⟩, cWs_i4 45 rfl, by decide +kernel⟩
set_option maxRecDepth 20000 in
theorem cc_X11_524 : cCal false RX11 524 yX2_kill cX2_kill 3 (some .boolean) 1 := ⟨⟨by decide, by decide⟩, cWs_i5 88 rfl, cWs_i0 72 rfl, ⟨cWs_i4 63 rfl, cWs_i4 64 rfl⟩, cWs_i2 76 rfl, by decide +kernel⟩
set_option maxRecDepth 20000 in
theorem cc_X11_230 : cCal false RX11 230 yX11_endMerge cX11_endMerge 8 none 1 := ⟨⟨by decide, by decide⟩, cWs_i5 90 rfl, cWs_i4 154 rfl, ⟨cWs_i5 91 rfl, cWs_i5 92 rfl⟩, cWs_i5 89 rfl, by decide +kernel⟩
set_option maxRecDepth 20000 in
theorem cc_X11_236 : cCal false RX11 236 yX10_changedSince cX10_changedSince 6 (some .int) 1 := ⟨⟨by decide, by decide⟩, cWs_i5 95 rfl, cWs_i0 120 rfl, ⟨cWs_i5 96 rfl, cWs_i5 97 rfl⟩, cWs_i4 79 rfl, by decide +kernel⟩
set_option maxRecDepth 20000 in
theorem cc_X11_247 : cCal false RX11 247 yX11_committed cX11_committed 2 (some (.object "SearchMill$View")) 0 := ⟨⟨by decide, by decide⟩, cWs_i5 103 rfl, cWs_i4 154 rfl, ⟨cWs_i5 104 rfl, cWs_i5 105 rfl⟩, cWs_i5 102 rfl, by decide +kernel⟩
set_option maxRecDepth 20000 in
theorem cc_X11_525 : cCal false RX11 525 yX10_newFiles cX10_newFiles 5 (some .int) 1 := ⟨⟨by decide, by decide⟩, cWs_i5 109 rfl, cWs_i0 120 rfl, ⟨cWs_i5 110 rfl, cWs_i5 111 rfl⟩, cWs_i4 81 rfl, by decide +kernel⟩
set_option maxRecDepth 20000 in
theorem cc_X11_529 : cCal false RX11 529 yX10_deletionFiles cX10_deletionFiles 6 (some .int) 1 := ⟨⟨by decide, by decide⟩, cWs_i5 112 rfl, cWs_i0 120 rfl, ⟨cWs_i5 113 rfl, cWs_i5 114 rfl⟩, cWs_i4 82 rfl, by decide +kernel⟩
set_option maxRecDepth 20000 in
theorem cc_X11_251 : cCal false RX11 251 yX11_fileCount cX11_fileCount 4 (some .int) 0 := ⟨⟨by decide, by decide⟩, cWs_i5 116 rfl, cWs_i4 154 rfl, ⟨cWs_i5 117 rfl, cWs_i5 118 rfl⟩, cWs_i5 115 rfl, by decide +kernel⟩
set_option maxRecDepth 20000 in
theorem cc_X11_478 : cCal false RX11 478 yX10_at cX10_at 2 (some (.object "SearchMill$Holding")) 1 := ⟨⟨by decide, by decide⟩, cWs_i5 122 rfl, cWs_i0 120 rfl, ⟨cWs_i0 122 rfl, cWs_i0 123 rfl⟩, cWs_i0 78 rfl, by decide +kernel⟩
set_option maxRecDepth 20000 in
theorem cc_X11_254 : cCal false RX11 254 yX11_holdingAt cX11_holdingAt 3 (some (.object "SearchMill$Holding")) 1 := ⟨⟨by decide, by decide⟩, cWs_i5 125 rfl, cWs_i4 154 rfl, ⟨cWs_i5 126 rfl, cWs_i5 127 rfl⟩, cWs_i5 123 rfl, by decide +kernel⟩
set_option maxRecDepth 20000 in
theorem cc_X11_267 : cCal false RX11 267 yX2_liveCount cX2_liveCount 3 (some .int) 0 := ⟨⟨by decide, by decide⟩, cWs_i5 129 rfl, cWs_i0 72 rfl, ⟨cWs_i0 70 rfl, cWs_i0 71 rfl⟩, cWs_i0 59 rfl, by decide +kernel⟩
set_option maxRecDepth 20000 in
theorem cc_X11_268 : cCal false RX11 268 yX8_size cX8_size 1 (some .int) 0 := ⟨⟨by decide, by decide⟩, cWs_i5 131 rfl, cWs_i0 90 rfl, ⟨cWs_i1 27 rfl, cWs_i1 28 rfl⟩, cWs_i1 7 rfl, by decide +kernel⟩
set_option maxRecDepth 20000 in
theorem cc_X11_317 : cCal false RX11 317 yX11_snapshotOf cX11_snapshotOf 3 (some (.object "SearchMill$View")) 1 := ⟨⟨by decide, by decide⟩, cWs_i5 136 rfl, cWs_i4 154 rfl, ⟨cWs_i5 137 rfl, cWs_i5 138 rfl⟩, cWs_i5 135 rfl, by decide +kernel⟩
set_option maxRecDepth 20000 in
theorem cc_X11_324 : cCal false RX11 324 yX3_readPadTokens cX3_readPadTokens 1 (some .int) 0 := ⟨⟨by decide, by decide⟩, cWs_i5 144 rfl, cWs_i2 151 rfl, ⟨cWs_i5 145 rfl, cWs_i5 146 rfl⟩, cWs_i3 41 rfl, by decide +kernel⟩
set_option maxRecDepth 20000 in
theorem cc_X11_327 : cCal false RX11 327 yX11_checkLeaf cX11_checkLeaf 2 none 1 := ⟨⟨by decide, by decide⟩, cWs_i5 147 rfl, cWs_i4 154 rfl, ⟨cWs_i5 148 rfl, cWs_i5 149 rfl⟩, cWs_i5 141 rfl, by decide +kernel⟩
set_option maxRecDepth 20000 in
theorem cc_X11_333 : cCal true RX11 333 yX4_ofTokens cX4_ofTokens 7 (some (.object "SearchMill$Node")) 4 := ⟨⟨by decide, by decide⟩, cWs_i5 150 rfl, cWs_i0 154 rfl, cWs_i5 151 rfl, cWs_i3 56 rfl, by decide +kernel⟩
set_option maxRecDepth 20000 in
theorem cc_X11_337 : cCal false RX11 337 yX6_putLeaf cX6_putLeaf 2 (some .int) 1 := ⟨⟨by decide, by decide⟩, cWs_i5 152 rfl, cWs_i1 111 rfl, ⟨cWs_i5 153 rfl, cWs_i5 154 rfl⟩, cWs_i3 118 rfl, by decide +kernel⟩
set_option maxRecDepth 20000 in
theorem cc_X11_348 : cCal false RX11 348 yX3_wordAt cX3_wordAt 2 (some .long) 1 := ⟨⟨by decide, by decide⟩, cWs_i5 159 rfl, cWs_i2 151 rfl, ⟨cWs_i3 27 rfl, cWs_i3 28 rfl⟩, cWs_i2 152 rfl, by decide +kernel⟩
set_option maxRecDepth 20000 in
theorem cc_X11_352 : cCal true RX11 352 yX4_ofPrefix cX4_ofPrefix 6 (some (.object "SearchMill$Node")) 2 := ⟨⟨by decide, by decide⟩, cWs_i6 0 rfl, cWs_i0 154 rfl, cWs_i6 1 rfl, cWs_i3 57 rfl, by decide +kernel⟩
set_option maxRecDepth 20000 in
theorem cc_X11_356 : cCal true RX11 356 yX4_isPattern cX4_isPattern 2 (some .boolean) 1 := ⟨⟨by decide, by decide⟩, cWs_i6 3 rfl, cWs_i0 154 rfl, cWs_i6 4 rfl, cWs_i3 67 rfl, by decide +kernel⟩
set_option maxRecDepth 20000 in
theorem cc_X11_360 : cCal true RX11 360 yX4_ofPattern cX4_ofPattern 5 (some (.object "SearchMill$Node")) 2 := ⟨⟨by decide, by decide⟩, cWs_i6 5 rfl, cWs_i0 154 rfl, cWs_i6 6 rfl, cWs_i3 64 rfl, by decide +kernel⟩
set_option maxRecDepth 20000 in
theorem cc_X11_366 : cCal true RX11 366 yX4_ofEdits cX4_ofEdits 5 (some (.object "SearchMill$Node")) 3 := ⟨⟨by decide, by decide⟩, cWs_i6 8 rfl, cWs_i0 154 rfl, cWs_i6 9 rfl, cWs_i3 65 rfl, by decide +kernel⟩
set_option maxRecDepth 20000 in
theorem cc_X11_372 : cCal false RX11 372 yX11_checkParts cX11_checkParts 2 none 1 := ⟨⟨by decide, by decide⟩, cWs_i6 12 rfl, cWs_i4 154 rfl, ⟨cWs_i6 13 rfl, cWs_i6 14 rfl⟩, cWs_i6 11 rfl, by decide +kernel⟩
set_option maxRecDepth 20000 in
theorem cc_X11_375 : cCal true RX11 375 yX4_ofParts cX4_ofParts 4 (some (.object "SearchMill$Node")) 3 := ⟨⟨by decide, by decide⟩, cWs_i6 15 rfl, cWs_i0 154 rfl, cWs_i6 16 rfl, cWs_i3 66 rfl, by decide +kernel⟩
set_option maxRecDepth 20000 in
theorem cc_X11_379 : cCal false RX11 379 yX6_putGroup cX6_putGroup 2 (some .int) 1 := ⟨⟨by decide, by decide⟩, cWs_i6 17 rfl, cWs_i1 111 rfl, ⟨cWs_i6 18 rfl, cWs_i6 19 rfl⟩, cWs_i3 119 rfl, by decide +kernel⟩
set_option maxRecDepth 20000 in
theorem cc_X11_382 : cCal false RX11 382 yX6_setLastAside cX6_setLastAside 2 none 0 := ⟨⟨by decide, by decide⟩, cWs_i6 21 rfl, cWs_i1 111 rfl, ⟨cWs_i6 22 rfl, cWs_i6 23 rfl⟩, cWs_i3 121 rfl, by decide +kernel⟩
set_option maxRecDepth 20000 in
theorem cc_X11_396 : cCal false RX11 396 yX11_queryOf cX11_queryOf 2 (some (.object "SearchMill$Query")) 1 := ⟨⟨by decide, by decide⟩, cWs_i6 28 rfl, cWs_i4 154 rfl, ⟨cWs_i6 29 rfl, cWs_i6 30 rfl⟩, cWs_i6 27 rfl, by decide +kernel⟩
set_option maxRecDepth 20000 in
theorem cc_X11_402 : cCal false RX11 402 yX1_search cX1_search 8 (some .int) 4 := ⟨⟨by decide, by decide⟩, cWs_i6 31 rfl, cWs_i1 131 rfl, ⟨cWs_i6 32 rfl, cWs_i6 33 rfl⟩, cWs_i2 8 rfl, by decide +kernel⟩
set_option maxRecDepth 20000 in
theorem cc_X11_406 : cCal false RX11 406 yX11_checkHit cX11_checkHit 2 none 1 := ⟨⟨by decide, by decide⟩, cWs_i6 39 rfl, cWs_i4 154 rfl, ⟨cWs_i6 40 rfl, cWs_i6 41 rfl⟩, cWs_i6 35 rfl, by decide +kernel⟩
set_option maxRecDepth 20000 in
theorem cc_X11_421 : cCal false RX11 421 yX10_liveDocument cX10_liveDocument 4 (some (.object "SearchMill$Document")) 1 := ⟨⟨by decide, by decide⟩, cWs_i6 48 rfl, cWs_i0 120 rfl, ⟨cWs_i6 49 rfl, cWs_i6 50 rfl⟩, cWs_i4 61 rfl, by decide +kernel⟩
set_option maxRecDepth 20000 in
theorem cc_X11_425 : cCal false RX11 425 yX7_scanRarities cX7_scanRarities 7 none 2 := ⟨⟨by decide, by decide⟩, cWs_i6 51 rfl, cWs_i1 1 rfl, ⟨cWs_i6 52 rfl, cWs_i6 53 rfl⟩, cWs_i3 137 rfl, by decide +kernel⟩
set_option maxRecDepth 20000 in
theorem cc_X11_429 : cCal false RX11 429 yX7_scanDocument cX7_scanDocument 6 none 2 := ⟨⟨by decide, by decide⟩, cWs_i6 54 rfl, cWs_i1 1 rfl, ⟨cWs_i2 49 rfl, cWs_i2 50 rfl⟩, cWs_i2 33 rfl, by decide +kernel⟩
set_option maxRecDepth 20000 in
theorem cc_X11_433 : cCal false RX11 433 yX7_valueAt cX7_valueAt 5 (some .int) 2 := ⟨⟨by decide, by decide⟩, cWs_i6 55 rfl, cWs_i1 1 rfl, ⟨cWs_i1 134 rfl, cWs_i1 135 rfl⟩, cWs_i1 126 rfl, by decide +kernel⟩
set_option maxRecDepth 20000 in
theorem cc_X11_437 : cCal false RX11 437 yX7_matched cX7_matched 7 (some (.object "java/util/ArrayList")) 2 := ⟨⟨by decide, by decide⟩, cWs_i6 57 rfl, cWs_i1 1 rfl, ⟨cWs_i6 58 rfl, cWs_i6 59 rfl⟩, cWs_i3 133 rfl, by decide +kernel⟩
set_option maxRecDepth 20000 in
theorem cc_X11_441 : cCal false RX11 441 yX7_scannedCount cX7_scannedCount 7 (some .int) 2 := ⟨⟨by decide, by decide⟩, cWs_i6 61 rfl, cWs_i1 1 rfl, ⟨cWs_i6 62 rfl, cWs_i6 63 rfl⟩, cWs_i3 139 rfl, by decide +kernel⟩
set_option maxRecDepth 20000 in
theorem cc_X11_447 : cCal true RX11 447 yX11_sortedPlace cX11_sortedPlace 8 (some .int) 3 := ⟨⟨by decide, by decide⟩, cWs_i6 67 rfl, cWs_i4 154 rfl, cWs_i6 68 rfl, cWs_i6 66 rfl, by decide +kernel⟩
set_option maxRecDepth 20000 in
theorem cc_X11_453 : cCal false RX11 453 yX1_readPassages cX1_readPassages 6 (some .int) 3 := ⟨⟨by decide, by decide⟩, cWs_i6 70 rfl, cWs_i1 131 rfl, ⟨cWs_i6 71 rfl, cWs_i6 72 rfl⟩, cWs_i2 54 rfl, by decide +kernel⟩
set_option maxRecDepth 20000 in
theorem cc_L_68 : cCal false RL 68 yX11_add cX11_add 2 (some .int) 1 := ⟨⟨by decide, by decide⟩, cWs_i6 129 rfl, cWs_i4 154 rfl, ⟨cWs_i6 130 rfl, cWs_i6 131 rfl⟩, cWs_i5 31 rfl, by decide +kernel⟩
set_option maxRecDepth 20000 in
theorem cc_L_75 : cCal false RL 75 yX11_delete cX11_delete 2 (some .boolean) 1 := ⟨⟨by decide, by decide⟩, cWs_i6 133 rfl, cWs_i4 154 rfl, ⟨cWs_i6 134 rfl, cWs_i6 135 rfl⟩, cWs_i5 32 rfl, by decide +kernel⟩
set_option maxRecDepth 20000 in
theorem cc_L_79 : cCal false RL 79 yX11_flush cX11_flush 1 (some .int) 0 := ⟨⟨by decide, by decide⟩, cWs_i6 137 rfl, cWs_i4 154 rfl, ⟨cWs_i6 138 rfl, cWs_i6 139 rfl⟩, cWs_i5 75 rfl, by decide +kernel⟩
set_option maxRecDepth 20000 in
theorem cc_L_83 : cCal false RL 83 yX11_merge cX11_merge 2 (some .int) 0 := ⟨⟨by decide, by decide⟩, cWs_i6 140 rfl, cWs_i4 154 rfl, ⟨cWs_i6 141 rfl, cWs_i6 142 rfl⟩, cWs_i5 84 rfl, by decide +kernel⟩
set_option maxRecDepth 20000 in
theorem cc_L_86 : cCal false RL 86 yX11_step cX11_step 3 (some .int) 0 := ⟨⟨by decide, by decide⟩, cWs_i6 143 rfl, cWs_i4 154 rfl, ⟨cWs_i6 144 rfl, cWs_i6 145 rfl⟩, cWs_i5 93 rfl, by decide +kernel⟩
set_option maxRecDepth 20000 in
theorem cc_L_89 : cCal false RL 89 yX11_giveUp cX11_giveUp 2 (some .int) 0 := ⟨⟨by decide, by decide⟩, cWs_i6 146 rfl, cWs_i4 154 rfl, ⟨cWs_i6 147 rfl, cWs_i6 148 rfl⟩, cWs_i5 94 rfl, by decide +kernel⟩
set_option maxRecDepth 20000 in
theorem cc_L_92 : cCal false RL 92 yX11_prepare cX11_prepare 3 (some .int) 0 := ⟨⟨by decide, by decide⟩, cWs_i6 149 rfl, cWs_i4 154 rfl, ⟨cWs_i6 150 rfl, cWs_i6 151 rfl⟩, cWs_i5 98 rfl, by decide +kernel⟩
set_option maxRecDepth 20000 in
theorem cc_L_95 : cCal false RL 95 yX11_finish cX11_finish 2 (some .int) 0 := ⟨⟨by decide, by decide⟩, cWs_i6 152 rfl, cWs_i4 154 rfl, ⟨cWs_i6 153 rfl, cWs_i6 154 rfl⟩, cWs_i5 99 rfl, by decide +kernel⟩
set_option maxRecDepth 20000 in
theorem cc_L_98 : cCal false RL 98 yX11_open cX11_open 1 (some .int) 0 := ⟨⟨by decide, by decide⟩, cWs_i6 155 rfl, cWs_i4 154 rfl, ⟨cWs_i6 156 rfl, cWs_i6 157 rfl⟩, cWs_i5 106 rfl, by decide +kernel⟩
set_option maxRecDepth 20000 in
theorem cc_L_101 : cCal false RL 101 yX11_files cX11_files 1 (some .int) 0 := ⟨⟨by decide, by decide⟩, cWs_i6 158 rfl, cWs_i4 154 rfl, ⟨cWs_i6 159 rfl, cWs_i7 0 rfl⟩, cWs_i5 119 rfl, by decide +kernel⟩
set_option maxRecDepth 20000 in
theorem cc_L_104 : cCal false RL 104 yX11_due cX11_due 1 (some .int) 0 := ⟨⟨by decide, by decide⟩, cWs_i7 1 rfl, cWs_i4 154 rfl, ⟨cWs_i7 2 rfl, cWs_i7 3 rfl⟩, cWs_i5 79 rfl, by decide +kernel⟩
set_option maxRecDepth 20000 in
theorem cc_L_107 : cCal false RL 107 yX11_segments cX11_segments 1 (some .int) 0 := ⟨⟨by decide, by decide⟩, cWs_i7 4 rfl, cWs_i4 154 rfl, ⟨cWs_i7 5 rfl, cWs_i7 6 rfl⟩, cWs_i5 121 rfl, by decide +kernel⟩
set_option maxRecDepth 20000 in
theorem cc_L_110 : cCal false RL 110 yX11_look cX11_look 3 (some .int) 1 := ⟨⟨by decide, by decide⟩, cWs_i7 8 rfl, cWs_i4 154 rfl, ⟨cWs_i7 9 rfl, cWs_i7 10 rfl⟩, cWs_i5 134 rfl, by decide +kernel⟩
set_option maxRecDepth 20000 in
theorem cc_L_114 : cCal false RL 114 yX11_type cX11_type 2 (some .int) 1 := ⟨⟨by decide, by decide⟩, cWs_i7 13 rfl, cWs_i4 154 rfl, ⟨cWs_i7 14 rfl, cWs_i7 15 rfl⟩, cWs_i4 124 rfl, by decide +kernel⟩
set_option maxRecDepth 20000 in
theorem cc_L_122 : cCal false RL 122 yX11_stop cX11_stop 1 (some .int) 0 := ⟨⟨by decide, by decide⟩, cWs_i7 18 rfl, cWs_i4 154 rfl, ⟨cWs_i7 19 rfl, cWs_i7 20 rfl⟩, cWs_i4 142 rfl, by decide +kernel⟩
set_option maxRecDepth 20000 in
theorem cc_L_125 : cCal false RL 125 yX11_synonym cX11_synonym 1 (some .int) 0 := ⟨⟨by decide, by decide⟩, cWs_i7 21 rfl, cWs_i4 154 rfl, ⟨cWs_i7 22 rfl, cWs_i7 23 rfl⟩, cWs_i4 147 rfl, by decide +kernel⟩
set_option maxRecDepth 20000 in
theorem cc_L_128 : cCal false RL 128 yX11_term cX11_term 2 (some .int) 1 := ⟨⟨by decide, by decide⟩, cWs_i7 24 rfl, cWs_i4 154 rfl, ⟨cWs_i7 25 rfl, cWs_i7 26 rfl⟩, cWs_i5 155 rfl, by decide +kernel⟩
set_option maxRecDepth 20000 in
theorem cc_L_131 : cCal false RL 131 yX11_query cX11_query 1 (some .int) 0 := ⟨⟨by decide, by decide⟩, cWs_i7 27 rfl, cWs_i4 154 rfl, ⟨cWs_i7 28 rfl, cWs_i7 29 rfl⟩, cWs_i6 25 rfl, by decide +kernel⟩
set_option maxRecDepth 20000 in
theorem cc_L_134 : cCal false RL 134 yX11_phrase cX11_phrase 4 (some .int) 2 := ⟨⟨by decide, by decide⟩, cWs_i7 30 rfl, cWs_i4 154 rfl, ⟨cWs_i7 31 rfl, cWs_i7 32 rfl⟩, cWs_i5 156 rfl, by decide +kernel⟩
set_option maxRecDepth 20000 in
theorem cc_L_138 : cCal false RL 138 yX11_near cX11_near 5 (some .int) 3 := ⟨⟨by decide, by decide⟩, cWs_i7 33 rfl, cWs_i4 154 rfl, ⟨cWs_i7 34 rfl, cWs_i7 35 rfl⟩, cWs_i5 158 rfl, by decide +kernel⟩
set_option maxRecDepth 20000 in
theorem cc_L_142 : cCal false RL 142 yX11_prefix cX11_prefix 2 (some .int) 1 := ⟨⟨by decide, by decide⟩, cWs_i7 36 rfl, cWs_i4 154 rfl, ⟨cWs_i7 37 rfl, cWs_i7 38 rfl⟩, cWs_i6 2 rfl, by decide +kernel⟩
set_option maxRecDepth 20000 in
theorem cc_L_145 : cCal false RL 145 yX11_wild cX11_wild 2 (some .int) 1 := ⟨⟨by decide, by decide⟩, cWs_i7 39 rfl, cWs_i4 154 rfl, ⟨cWs_i7 40 rfl, cWs_i7 41 rfl⟩, cWs_i6 7 rfl, by decide +kernel⟩
set_option maxRecDepth 20000 in
theorem cc_L_148 : cCal false RL 148 yX11_fuzzy cX11_fuzzy 3 (some .int) 2 := ⟨⟨by decide, by decide⟩, cWs_i7 42 rfl, cWs_i4 154 rfl, ⟨cWs_i7 43 rfl, cWs_i7 44 rfl⟩, cWs_i6 10 rfl, by decide +kernel⟩
set_option maxRecDepth 20000 in
theorem cc_L_151 : cCal false RL 151 yX11_least cX11_least 3 (some .int) 2 := ⟨⟨by decide, by decide⟩, cWs_i7 45 rfl, cWs_i4 154 rfl, ⟨cWs_i7 46 rfl, cWs_i7 47 rfl⟩, cWs_i6 20 rfl, by decide +kernel⟩
set_option maxRecDepth 20000 in
theorem cc_L_154 : cCal false RL 154 yX11_but cX11_but 1 (some .int) 0 := ⟨⟨by decide, by decide⟩, cWs_i7 48 rfl, cWs_i4 154 rfl, ⟨cWs_i7 49 rfl, cWs_i7 50 rfl⟩, cWs_i6 24 rfl, by decide +kernel⟩
set_option maxRecDepth 20000 in
theorem cc_L_161 : cCal false RL 161 yX11_find cX11_find 6 (some .int) 3 := ⟨⟨by decide, by decide⟩, cWs_i7 55 rfl, cWs_i4 154 rfl, ⟨cWs_i7 56 rfl, cWs_i7 57 rfl⟩, cWs_i6 34 rfl, by decide +kernel⟩
set_option maxRecDepth 20000 in
theorem cc_L_164 : cCal false RL 164 yX11_skipped cX11_skipped 1 (some .int) 0 := ⟨⟨by decide, by decide⟩, cWs_i7 58 rfl, cWs_i4 154 rfl, ⟨cWs_i7 59 rfl, cWs_i7 60 rfl⟩, cWs_i6 44 rfl, by decide +kernel⟩
set_option maxRecDepth 20000 in
theorem cc_L_167 : cCal false RL 167 yX11_cached cX11_cached 1 (some .int) 0 := ⟨⟨by decide, by decide⟩, cWs_i7 61 rfl, cWs_i4 154 rfl, ⟨cWs_i7 62 rfl, cWs_i7 63 rfl⟩, cWs_i6 46 rfl, by decide +kernel⟩
set_option maxRecDepth 20000 in
theorem cc_L_170 : cCal false RL 170 yX11_hitAt cX11_hitAt 2 (some .int) 1 := ⟨⟨by decide, by decide⟩, cWs_i7 64 rfl, cWs_i4 154 rfl, ⟨cWs_i7 65 rfl, cWs_i7 66 rfl⟩, cWs_i6 37 rfl, by decide +kernel⟩
set_option maxRecDepth 20000 in
theorem cc_L_173 : cCal false RL 173 yX11_rankAt cX11_rankAt 2 (some .int) 1 := ⟨⟨by decide, by decide⟩, cWs_i7 67 rfl, cWs_i4 154 rfl, ⟨cWs_i7 68 rfl, cWs_i7 69 rfl⟩, cWs_i6 42 rfl, by decide +kernel⟩
set_option maxRecDepth 20000 in
theorem cc_L_176 : cCal false RL 176 yX11_documents cX11_documents 2 (some .int) 1 := ⟨⟨by decide, by decide⟩, cWs_i7 71 rfl, cWs_i4 154 rfl, ⟨cWs_i7 72 rfl, cWs_i7 73 rfl⟩, cWs_i5 140 rfl, by decide +kernel⟩
set_option maxRecDepth 20000 in
theorem cc_L_179 : cCal false RL 179 yX11_matches cX11_matches 5 (some .int) 2 := ⟨⟨by decide, by decide⟩, cWs_i7 74 rfl, cWs_i4 154 rfl, ⟨cWs_i7 75 rfl, cWs_i7 76 rfl⟩, cWs_i6 60 rfl, by decide +kernel⟩
set_option maxRecDepth 20000 in
theorem cc_L_182 : cCal false RL 182 yX11_matchesByScan cX11_matchesByScan 5 (some .int) 2 := ⟨⟨by decide, by decide⟩, cWs_i7 77 rfl, cWs_i4 154 rfl, ⟨cWs_i7 78 rfl, cWs_i7 79 rfl⟩, cWs_i6 64 rfl, by decide +kernel⟩
set_option maxRecDepth 20000 in
theorem cc_L_185 : cCal false RL 185 yX11_facet cX11_facet 9 (some .int) 3 := ⟨⟨by decide, by decide⟩, cWs_i7 80 rfl, cWs_i4 154 rfl, ⟨cWs_i7 81 rfl, cWs_i7 82 rfl⟩, cWs_i6 65 rfl, by decide +kernel⟩
set_option maxRecDepth 20000 in
theorem cc_L_188 : cCal false RL 188 yX11_rankByScan cX11_rankByScan 7 (some .int) 3 := ⟨⟨by decide, by decide⟩, cWs_i7 83 rfl, cWs_i4 154 rfl, ⟨cWs_i7 84 rfl, cWs_i7 85 rfl⟩, cWs_i6 56 rfl, by decide +kernel⟩
set_option maxRecDepth 20000 in
theorem cc_L_191 : cCal false RL 191 yX11_sortedAt cX11_sortedAt 9 (some .int) 4 := ⟨⟨by decide, by decide⟩, cWs_i7 86 rfl, cWs_i4 154 rfl, ⟨cWs_i7 87 rfl, cWs_i7 88 rfl⟩, cWs_i6 69 rfl, by decide +kernel⟩
set_option maxRecDepth 20000 in
theorem cc_L_195 : cCal false RL 195 yX11_passages cX11_passages 7 (some .int) 4 := ⟨⟨by decide, by decide⟩, cWs_i7 89 rfl, cWs_i4 154 rfl, ⟨cWs_i7 90 rfl, cWs_i7 91 rfl⟩, cWs_i6 73 rfl, by decide +kernel⟩
set_option maxRecDepth 20000 in
theorem cc_L_199 : cCal false RL 199 yX11_isDown cX11_isDown 1 (some .boolean) 0 := ⟨⟨by decide, by decide⟩, cWs_i7 93 rfl, cWs_i4 154 rfl, ⟨cWs_i7 94 rfl, cWs_i7 95 rfl⟩, cWs_i5 107 rfl, by decide +kernel⟩
set_option maxRecDepth 20000 in
theorem cc_L_203 : cCal false RL 203 yX11_writes cX11_writes 1 (some .int) 0 := ⟨⟨by decide, by decide⟩, cWs_i7 96 rfl, cWs_i4 154 rfl, ⟨cWs_i7 97 rfl, cWs_i7 98 rfl⟩, cWs_i5 120 rfl, by decide +kernel⟩
set_option maxRecDepth 20000 in
theorem cc_L_215 : cCal false RL 215 yX11_segmentAt cX11_segmentAt 2 (some .int) 1 := ⟨⟨by decide, by decide⟩, cWs_i7 105 rfl, cWs_i4 154 rfl, ⟨cWs_i7 106 rfl, cWs_i7 107 rfl⟩, cWs_i5 128 rfl, by decide +kernel⟩
set_option maxRecDepth 20000 in
theorem cc_L_218 : cCal false RL 218 yX11_live cX11_live 2 (some .int) 1 := ⟨⟨by decide, by decide⟩, cWs_i7 108 rfl, cWs_i4 154 rfl, ⟨cWs_i7 109 rfl, cWs_i7 110 rfl⟩, cWs_i5 130 rfl, by decide +kernel⟩
set_option maxRecDepth 20000 in
theorem cc_L_224 : cCal false RL 224 yX11_keyAt cX11_keyAt 4 (some .int) 2 := ⟨⟨by decide, by decide⟩, cWs_i7 113 rfl, cWs_i4 154 rfl, ⟨cWs_i7 114 rfl, cWs_i7 115 rfl⟩, cWs_i5 132 rfl, by decide +kernel⟩
set_option maxRecDepth 20000 in
theorem cc_L_228 : cCal false RL 228 yX11_text cX11_text 3 (some .int) 1 := ⟨⟨by decide, by decide⟩, cWs_i7 119 rfl, cWs_i4 154 rfl, ⟨cWs_i7 120 rfl, cWs_i7 121 rfl⟩, cWs_i5 2 rfl, by decide +kernel⟩
set_option maxRecDepth 20000 in
theorem cc_L_234 : cCal false RL 234 yX11_columns cX11_columns 3 none 2 := ⟨⟨by decide, by decide⟩, cWs_i7 124 rfl, cWs_i4 154 rfl, ⟨cWs_i7 125 rfl, cWs_i7 126 rfl⟩, cWs_i5 3 rfl, by decide +kernel⟩
set_option maxRecDepth 20000 in
theorem cc_L_253 : cCal false RL 253 yX11_drop cX11_drop 1 none 0 := ⟨⟨by decide, by decide⟩, cWs_i7 138 rfl, cWs_i4 154 rfl, ⟨cWs_i7 139 rfl, cWs_i7 140 rfl⟩, cWs_i5 100 rfl, by decide +kernel⟩
set_option maxRecDepth 20000 in
theorem cc_L_289 : cCal false RL 289 yX11_crashAt cX11_crashAt 2 none 1 := ⟨⟨by decide, by decide⟩, cWs_i8 5 rfl, cWs_i4 154 rfl, ⟨cWs_i8 6 rfl, cWs_i8 7 rfl⟩, cWs_i5 101 rfl, by decide +kernel⟩
set_option maxRecDepth 20000 in
theorem cc_L_301 : cCal false RL 301 yX11_shut cX11_shut 4 (some .int) 1 := ⟨⟨by decide, by decide⟩, cWs_i8 12 rfl, cWs_i4 154 rfl, ⟨cWs_i8 13 rfl, cWs_i8 14 rfl⟩, cWs_i5 139 rfl, by decide +kernel⟩
