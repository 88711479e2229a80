/-! the reference: its words, its world (one object, 64 rows of numbers), the judgement mG and its rules -/
def mWs1 : List Cond := [Cond.methodLink RX12 1 objectInit, Cond.instanceMethod objectInit, Cond.code objectInit ⟨#[0xb1]⟩ 1 none, Cond.arrayClass .long, Cond.fieldLink RX12 7 "SearchMillModel" "powers" "[J", Cond.arrayClass .int, Cond.fieldLink RX12 13 "SearchMillModel" "pad" "[I", Cond.fieldLink RX12 17 "SearchMillModel" "words" "[J", Cond.fieldLink RX12 20 "SearchMillModel" "stops" "[J", Cond.fieldLink RX12 23 "SearchMillModel" "firsts" "[J", Cond.fieldLink RX12 26 "SearchMillModel" "seconds" "[J", Cond.fieldLink RX12 29 "SearchMillModel" "draftStems" "[J", Cond.fieldLink RX12 32 "SearchMillModel" "draftPlaces" "[I", Cond.fieldLink RX12 35 "SearchMillModel" "bufferKeys" "[I", Cond.fieldLink RX12 38 "SearchMillModel" "bufferCategories" "[I", Cond.fieldLink RX12 41 "SearchMillModel" "bufferNumbers" "[I", Cond.fieldLink RX12 44 "SearchMillModel" "bufferStems" "[J", Cond.fieldLink RX12 47 "SearchMillModel" "bufferPlaces" "[I", Cond.fieldLink RX12 50 "SearchMillModel" "keys" "[I", Cond.fieldLink RX12 53 "SearchMillModel" "categories" "[I", Cond.fieldLink RX12 56 "SearchMillModel" "numbers" "[I", Cond.constant RX12 59 (96960), Cond.fieldLink RX12 60 "SearchMillModel" "stems" "[J", Cond.fieldLink RX12 63 "SearchMillModel" "places" "[I", Cond.fieldLink RX12 66 "SearchMillModel" "held" "[I", Cond.fieldLink RX12 69 "SearchMillModel" "sizes" "[I", Cond.arrayClass .boolean, Cond.fieldLink RX12 72 "SearchMillModel" "live" "[Z", Cond.fieldLink RX12 76 "SearchMillModel" "wrote" "[Z", Cond.fieldLink RX12 79 "SearchMillModel" "wroteAhead" "[Z", Cond.fieldLink RX12 82 "SearchMillModel" "index" "[I", Cond.fieldLink RX12 85 "SearchMillModel" "committed" "[I", Cond.fieldLink RX12 88 "SearchMillModel" "committedLive" "[Z", Cond.fieldLink RX12 91 "SearchMillModel" "prepared" "[I", Cond.fieldLink RX12 94 "SearchMillModel" "preparedLive" "[Z", Cond.fieldLink RX12 97 "SearchMillModel" "lookNumbers" "[I", Cond.fieldLink RX12 100 "SearchMillModel" "looked" "[I", Cond.fieldLink RX12 103 "SearchMillModel" "lookedMany" "[I", Cond.constant RX12 106 (101000), Cond.fieldLink RX12 107 "SearchMillModel" "lookedLive" "[Z", Cond.fieldLink RX12 110 "SearchMillModel" "sources" "[I", Cond.fieldLink RX12 113 "SearchMillModel" "copies" "[I", Cond.fieldLink RX12 116 "SearchMillModel" "found" "[J", Cond.fieldLink RX12 119 "SearchMillModel" "plain" "[I", Cond.fieldLink RX12 122 "SearchMillModel" "packed" "[I", Cond.fieldLink RX12 125 "SearchMillModel" "alive" "[I", Cond.fieldLink RX12 128 "SearchMillModel" "sorted" "[I", Cond.fieldLink RX12 131 "SearchMillModel" "kinds" "[I", Cond.fieldLink RX12 134 "SearchMillModel" "fields" "[I", Cond.fieldLink RX12 137 "SearchMillModel" "amounts" "[I", Cond.fieldLink RX12 140 "SearchMillModel" "ordered" "[Z", Cond.fieldLink RX12 143 "SearchMillModel" "many" "[I", Cond.fieldLink RX12 146 "SearchMillModel" "leafTokens" "[J", Cond.fieldLink RX12 149 "SearchMillModel" "leafPlaces" "[I", Cond.fieldLink RX12 152 "SearchMillModel" "wilds" "[I", Cond.fieldLink RX12 155 "SearchMillModel" "opsMany" "[I", Cond.fieldLink RX12 158 "SearchMillModel" "weights" "[I", Cond.fieldLink RX12 161 "SearchMillModel" "tokens" "[J", Cond.fieldLink RX12 164 "SearchMillModel" "tokenPlaces" "[I", Cond.fieldLink RX12 167 "SearchMillModel" "row" "[I", Cond.fieldLink RX12 170 "SearchMillModel" "next" "[I", Cond.fieldLink RX12 173 "SearchMillModel" "pile" "[I", Cond.fieldLink RX12 176 "SearchMillModel" "gains" "[I", Cond.fieldLink RX12 179 "SearchMillModel" "inSecond" "[Z", Cond.fieldLink RX12 182 "SearchMillModel" "cacheQueries" "[I", Cond.fieldLink RX12 185 "SearchMillModel" "cacheSegments" "[I", Cond.fieldLink RX12 188 "SearchMillModel" "hitKeys" "[I", Cond.fieldLink RX12 191 "SearchMillModel" "hitRanks" "[I", Cond.fieldLink RX12 194 "SearchMillModel" "marked" "[I", Cond.fieldLink RX12 197 "SearchMillModel" "choices" "[I", Cond.fieldLink RX12 200 "SearchMillModel" "picked" "[I", Cond.fieldLink RX12 203 "SearchMillModel" "chosen" "[I", Cond.fieldLink RX12 206 "SearchMillModel" "crash" "I", Cond.constantLong RX12 210 (37), Cond.code yX12_init cX12_init 4 none, Cond.code yX12_thrown cX12_thrown 1 (some .int), Cond.fieldLink RX12 212 "SearchMillModel" "last" "I", Cond.code yX12_in cX12_in 3 (some .boolean), Cond.code yX12_goes cX12_goes 4 (some .boolean), Cond.code yX12_figure cX12_figure 1 (some .int), Cond.methodLink RX12 215 yX12_in, Cond.static yX12_in, Cond.initialized RX12, Cond.code yX12_at cX12_at 4 (some .int), Cond.code yX12_length cX12_length 4 (some .int), Cond.methodLink RX12 219 yX12_at, Cond.instanceMethod yX12_at, Cond.selects RX12 yX12_at yX12_at, Cond.code yX12_without cX12_without 7 (some .long), Cond.code yX12_ends cX12_ends 6 (some .boolean), Cond.methodLink RX12 223 yX12_figure, Cond.static yX12_figure, Cond.methodLink RX12 227 yX12_length, Cond.instanceMethod yX12_length, Cond.selects RX12 yX12_length yX12_length, Cond.methodLink RX12 231 yX12_ends, Cond.instanceMethod yX12_ends, Cond.selects RX12 yX12_ends yX12_ends, Cond.methodLink RX12 235 yX12_without, Cond.instanceMethod yX12_without, Cond.selects RX12 yX12_without yX12_without, Cond.code yX12_stem cX12_stem 4 (some .long), Cond.code yX12_reads cX12_reads 4 none, Cond.fieldLink RX12 239 "SearchMillModel" "worded" "I", Cond.fieldLink RX12 242 "SearchMillModel" "padded" "I", Cond.code yX12_isStop cX12_isStop 5 (some .boolean), Cond.fieldLink RX12 245 "SearchMillModel" "stopped" "I", Cond.code yX12_gives cX12_gives 6 (some .boolean), Cond.code yX12_type cX12_type 2 (some .int), Cond.methodLink RX12 248 yX12_goes, Cond.instanceMethod yX12_goes, Cond.selects RX12 yX12_goes yX12_goes, Cond.code yX12_wipe cX12_wipe 2 (some .int), Cond.fieldLink RX12 255 "SearchMillModel" "added" "Z", Cond.methodLink RX12 252 yX12_reads, Cond.instanceMethod yX12_reads, Cond.selects RX12 yX12_reads yX12_reads, Cond.methodLink RX12 259 yX12_stem, Cond.instanceMethod yX12_stem, Cond.selects RX12 yX12_stem yX12_stem, Cond.methodLink RX12 263 yX12_isStop, Cond.instanceMethod yX12_isStop, Cond.selects RX12 yX12_isStop yX12_isStop, Cond.code yX12_stop cX12_stop 3 (some .int), Cond.fieldLink RX12 267 "SearchMillModel" "synonyms" "I", Cond.code yX12_synonym cX12_synonym 1 (some .int), Cond.methodLink RX12 270 yX12_gives, Cond.instanceMethod yX12_gives, Cond.selects RX12 yX12_gives yX12_gives, Cond.code yX12_text cX12_text 7 (some .int), Cond.code yX12_columns cX12_columns 3 none, Cond.fieldLink RX12 274 "SearchMillModel" "draftCategory" "I", Cond.fieldLink RX12 277 "SearchMillModel" "draftNumber" "I", Cond.code yX12_isKey cX12_isKey 1 (some .boolean), Cond.code yX12_inBuffer cX12_inBuffer 4 (some .int), Cond.fieldLink RX12 280 "SearchMillModel" "buffered" "I", Cond.code yX12_moves cX12_moves 4 none, Cond.code yX12_deletes cX12_deletes 7 (some .boolean), Cond.fieldLink RX12 290 "SearchMillModel" "indexed" "I", Cond.methodLink RX12 283 yX12_inBuffer, Cond.instanceMethod yX12_inBuffer, Cond.selects RX12 yX12_inBuffer yX12_inBuffer, Cond.methodLink RX12 286 yX12_moves, Cond.instanceMethod yX12_moves, Cond.selects RX12 yX12_moves yX12_moves, Cond.fieldLink RX12 297 "SearchMillModel" "down" "Z", Cond.methodLink RX12 293 yX12_isKey, Cond.static yX12_isKey, Cond.methodLink RX12 300 yX12_deletes, Cond.instanceMethod yX12_deletes, Cond.selects RX12 yX12_deletes yX12_deletes, Cond.code yX12_add cX12_add 3 (some .int), Cond.code yX12_delete cX12_delete 2 (some .boolean), Cond.code yX12_writes1 cX12_writes1 2 (some .boolean), Cond.fieldLink RX12 303 "SearchMillModel" "merging" "Z", Cond.fieldLink RX12 306 "SearchMillModel" "isPrepared" "Z", Cond.fieldLink RX12 309 "SearchMillModel" "cached" "I", Cond.fieldLink RX12 312 "SearchMillModel" "hits" "I", Cond.fieldLink RX12 315 "SearchMillModel" "skips" "I", Cond.fieldLink RX12 318 "SearchMillModel" "taken" "I", Cond.fieldLink RX12 321 "SearchMillModel" "writes" "I", Cond.fieldLink RX12 328 "SearchMillModel" "documents" "I", Cond.fieldLink RX12 331 "SearchMillModel" "made" "I", Cond.methodLink RX12 324 yX12_writes1, Cond.instanceMethod yX12_writes1, Cond.selects RX12 yX12_writes1 yX12_writes1, Cond.code yX12_flushes cX12_flushes 4 (some .int), Cond.methodLink RX12 334 yX12_flushes, Cond.instanceMethod yX12_flushes, Cond.selects RX12 yX12_flushes yX12_flushes, Cond.code yX12_flush cX12_flush 1 (some .int), Cond.code yX12_tier cX12_tier 4 (some .int), Cond.code yX12_dueAt cX12_dueAt 2 (some .int), Cond.methodLink RX12 338 yX12_tier, Cond.instanceMethod yX12_tier, Cond.selects RX12 yX12_tier yX12_tier, Cond.code yX12_due cX12_due 1 (some .int), Cond.methodLink RX12 341 yX12_dueAt, Cond.instanceMethod yX12_dueAt, Cond.selects RX12 yX12_dueAt yX12_dueAt, Cond.fieldLink RX12 344 "SearchMillModel" "toCopy" "I", Cond.fieldLink RX12 347 "SearchMillModel" "copied" "I", Cond.code yX12_merge cX12_merge 5 (some .int), Cond.code yX12_ends1 cX12_ends1 4 none, Cond.methodLink RX12 350 yX12_ends1, Cond.instanceMethod yX12_ends1, Cond.selects RX12 yX12_ends1 yX12_ends1, Cond.code yX12_step cX12_step 1 (some .int), Cond.code yX12_giveUp cX12_giveUp 1 (some .int), Cond.code yX12_differs cX12_differs 4 (some .boolean), Cond.fieldLink RX12 356 "SearchMillModel" "preparedMany" "I", Cond.methodLink RX12 353 yX12_differs, Cond.instanceMethod yX12_differs, Cond.selects RX12 yX12_differs yX12_differs, Cond.code yX12_prepare cX12_prepare 3 (some .int), Cond.fieldLink RX12 359 "SearchMillModel" "isCommitted" "Z", Cond.fieldLink RX12 362 "SearchMillModel" "committedMany" "I", Cond.fieldLink RX12 365 "SearchMillModel" "commits" "I", Cond.code yX12_finish cX12_finish 2 (some .int), Cond.code yX12_drop cX12_drop 3 none, Cond.code yX12_crashAt cX12_crashAt 2 none, Cond.code yX12_open cX12_open 3 (some .int), Cond.code yX12_isDown cX12_isDown 1 (some .boolean), Cond.code yX12_isInIndex cX12_isInIndex 4 (some .boolean), Cond.code yX12_isInCommit cX12_isInCommit 4 (some .boolean), Cond.code yX12_isInPrepared cX12_isInPrepared 4 (some .boolean), Cond.code yX12_isInLooks cX12_isInLooks 5 (some .boolean), Cond.methodLink RX12 368 yX12_isInCommit, Cond.instanceMethod yX12_isInCommit, Cond.selects RX12 yX12_isInCommit yX12_isInCommit, Cond.methodLink RX12 371 yX12_isInPrepared, Cond.instanceMethod yX12_isInPrepared, Cond.selects RX12 yX12_isInPrepared yX12_isInPrepared, Cond.methodLink RX12 374 yX12_isInIndex, Cond.instanceMethod yX12_isInIndex, Cond.selects RX12 yX12_isInIndex yX12_isInIndex, Cond.methodLink RX12 377 yX12_isInLooks, Cond.instanceMethod yX12_isInLooks, Cond.selects RX12 yX12_isInLooks yX12_isInLooks, Cond.code yX12_filesNow cX12_filesNow 9 (some .int), Cond.methodLink RX12 380 yX12_filesNow, Cond.instanceMethod yX12_filesNow, Cond.selects RX12 yX12_filesNow yX12_filesNow, Cond.code yX12_files cX12_files 1 (some .int), Cond.code yX12_writes cX12_writes 1 (some .int), Cond.code yX12_isPlace cX12_isPlace 2 (some .boolean), Cond.code yX12_segments cX12_segments 1 (some .int), Cond.code yX12_segmentAt cX12_segmentAt 2 (some .int), Cond.methodLink RX12 383 yX12_isPlace, Cond.instanceMethod yX12_isPlace, Cond.selects RX12 yX12_isPlace yX12_isPlace, Cond.code yX12_live cX12_live 5 (some .int), Cond.code yX12_keyAt cX12_keyAt 4 (some .int), Cond.code yX12_hasAt cX12_hasAt 10 (some .boolean), Cond.code yX12_puts cX12_puts 5 none, Cond.fieldLink RX12 386 "SearchMillModel" "foundMany" "I", Cond.code yX12_finds cX12_finds 9 none, Cond.methodLink RX12 389 yX12_puts, Cond.instanceMethod yX12_puts, Cond.selects RX12 yX12_puts yX12_puts, Cond.code yX12_isField cX12_isField 2 (some .boolean), Cond.methodLink RX12 393 yX12_isField, Cond.instanceMethod yX12_isField, Cond.selects RX12 yX12_isField yX12_isField, Cond.methodLink RX12 396 yX12_finds, Cond.instanceMethod yX12_finds, Cond.selects RX12 yX12_finds yX12_finds, Cond.code yX12_hasWords cX12_hasWords 4 (some .boolean), Cond.methodLink RX12 399 yX12_hasWords, Cond.instanceMethod yX12_hasWords, Cond.selects RX12 yX12_hasWords yX12_hasWords, Cond.code yX12_hasWord cX12_hasWord 4 (some .boolean), Cond.code yX12_words cX12_words 3 (some .int), Cond.code yX12_sharedBy cX12_sharedBy 3 (some .int), Cond.methodLink RX12 403 yX12_hasWord, Cond.instanceMethod yX12_hasWord, Cond.selects RX12 yX12_hasWord yX12_hasWord, Cond.methodLink RX12 406 yX12_sharedBy, Cond.instanceMethod yX12_sharedBy, Cond.selects RX12 yX12_sharedBy yX12_sharedBy, Cond.code yX12_shared cX12_shared 4 (some .int), Cond.code yX12_wordBytes cX12_wordBytes 6 (some .int), Cond.code yX12_signAt cX12_signAt 6 (some .char), Cond.code yX12_writesBits cX12_writesBits 4 none, Cond.fieldLink RX12 409 "SearchMillModel" "packedBits" "I", Cond.methodLink RX12 412 yX12_hasAt, Cond.instanceMethod yX12_hasAt, Cond.selects RX12 yX12_hasAt yX12_hasAt, Cond.methodLink RX12 416 yX12_writesBits, Cond.instanceMethod yX12_writesBits, Cond.selects RX12 yX12_writesBits yX12_writesBits, Cond.code yX12_packs cX12_packs 13 none, Cond.methodLink RX12 419 yX12_packs, Cond.instanceMethod yX12_packs, Cond.selects RX12 yX12_packs yX12_packs, Cond.code yX12_bytes cX12_bytes 4 (some .int), Cond.code yX12_byteAt cX12_byteAt 6 (some .int), Cond.code yX12_slotOf cX12_slotOf 4 (some .int), Cond.code yX12_look cX12_look 6 (some .int), Cond.fieldLink RX12 423 "SearchMillModel" "looks" "I", Cond.methodLink RX12 426 yX12_slotOf, Cond.instanceMethod yX12_slotOf, Cond.selects RX12 yX12_slotOf yX12_slotOf, Cond.code yX12_shut cX12_shut 3 (some .int), Cond.code yX12_lays cX12_lays 5 none, Cond.fieldLink RX12 429 "SearchMillModel" "liveMany" "I", Cond.code yX12_documents cX12_documents 3 (some .int), Cond.methodLink RX12 432 yX12_lays, Cond.instanceMethod yX12_lays, Cond.selects RX12 yX12_lays yX12_lays, Cond.code yX12_draftAt cX12_draftAt 0 (some .int), Cond.fieldLink RX12 436 "SearchMillModel" "tokened" "I", Cond.code yX12_hasTokens cX12_hasTokens 4 (some .boolean), Cond.code yX12_hasRoom cX12_hasRoom 1 (some .boolean), Cond.fieldLink RX12 439 "SearchMillModel" "partsMany" "I", Cond.fieldLink RX12 442 "SearchMillModel" "leaves" "I", Cond.code yX12_leaf cX12_leaf 7 (some .int), Cond.methodLink RX12 445 yX12_draftAt, Cond.static yX12_draftAt, Cond.methodLink RX12 448 yX12_hasTokens, Cond.instanceMethod yX12_hasTokens, Cond.selects RX12 yX12_hasTokens yX12_hasTokens, Cond.methodLink RX12 451 yX12_hasRoom, Cond.instanceMethod yX12_hasRoom, Cond.selects RX12 yX12_hasRoom yX12_hasRoom, Cond.methodLink RX12 454 yX12_leaf, Cond.instanceMethod yX12_leaf, Cond.selects RX12 yX12_leaf yX12_leaf, Cond.code yX12_term cX12_term 2 (some .int), Cond.code yX12_phrase cX12_phrase 3 (some .int), Cond.code yX12_near cX12_near 4 (some .int), Cond.code yX12_hasWordAlone cX12_hasWordAlone 1 (some .boolean), Cond.methodLink RX12 458 yX12_hasWordAlone, Cond.instanceMethod yX12_hasWordAlone, Cond.selects RX12 yX12_hasWordAlone yX12_hasWordAlone, Cond.code yX12_prefix cX12_prefix 2 (some .int), Cond.code yX12_wild cX12_wild 6 (some .int), Cond.code yX12_fuzzy cX12_fuzzy 3 (some .int), Cond.code yX12_joins cX12_joins 5 (some .int), Cond.code yX12_least cX12_least 3 (some .int), Cond.methodLink RX12 461 yX12_joins, Cond.instanceMethod yX12_joins, Cond.selects RX12 yX12_joins yX12_joins, Cond.code yX12_but cX12_but 1 (some .int), Cond.code yX12_scraps cX12_scraps 1 none, Cond.fieldLink RX12 465 "SearchMillModel" "queries" "I", Cond.methodLink RX12 468 yX12_scraps, Cond.instanceMethod yX12_scraps, Cond.selects RX12 yX12_scraps yX12_scraps, Cond.code yX12_query cX12_query 5 (some .int), Cond.code yX12_scrap cX12_scrap 2 (some .int), Cond.code yX12_weigh cX12_weigh 4 (some .int), Cond.code yX12_begins cX12_begins 7 (some .boolean), Cond.code yX12_isLike cX12_isLike 9 (some .boolean), Cond.code yX12_edits cX12_edits 10 (some .int), Cond.methodLink RX12 471 yX12_begins, Cond.instanceMethod yX12_begins, Cond.selects RX12 yX12_begins yX12_begins, Cond.methodLink RX12 475 yX12_isLike, Cond.instanceMethod yX12_isLike, Cond.selects RX12 yX12_isLike yX12_isLike, Cond.methodLink RX12 479 yX12_edits, Cond.instanceMethod yX12_edits, Cond.selects RX12 yX12_edits yX12_edits, Cond.code yX12_fitsWord cX12_fitsWord 6 (some .boolean), Cond.methodLink RX12 483 yX12_fitsWord, Cond.instanceMethod yX12_fitsWord, Cond.selects RX12 yX12_fitsWord yX12_fitsWord, Cond.code yX12_fitsAt cX12_fitsAt 9 (some .boolean), Cond.code yX12_isPhraseAt cX12_isPhraseAt 8 (some .boolean), Cond.code yX12_isNearAt cX12_isNearAt 8 (some .boolean), Cond.methodLink RX12 486 yX12_fitsAt, Cond.instanceMethod yX12_fitsAt, Cond.selects RX12 yX12_fitsAt yX12_fitsAt, Cond.methodLink RX12 490 yX12_isPhraseAt, Cond.instanceMethod yX12_isPhraseAt, Cond.selects RX12 yX12_isPhraseAt yX12_isPhraseAt, Cond.methodLink RX12 493 yX12_isNearAt, Cond.instanceMethod yX12_isNearAt, Cond.selects RX12 yX12_isNearAt yX12_isNearAt, Cond.code yX12_marks cX12_marks 7 (some .int), Cond.code yX12_ones cX12_ones 3 (some .int), Cond.code yX12_strength cX12_strength 1 (some .int), Cond.methodLink RX12 496 yX12_marks, Cond.instanceMethod yX12_marks, Cond.selects RX12 yX12_marks yX12_marks, Cond.methodLink RX12 500 yX12_ones, Cond.static yX12_ones, Cond.methodLink RX12 503 yX12_strength, Cond.static yX12_strength, Cond.code yX12_gives1 cX12_gives1 9 (some .int), Cond.code yX12_rarity cX12_rarity 8 (some .int), Cond.methodLink RX12 506 yX12_rarity, Cond.instanceMethod yX12_rarity, Cond.selects RX12 yX12_rarity yX12_rarity, Cond.code yX12_laysGains cX12_laysGains 6 none, Cond.code yX12_laysSeconds cX12_laysSeconds 6 none, Cond.methodLink RX12 510 yX12_laysGains, Cond.instanceMethod yX12_laysGains, Cond.selects RX12 yX12_laysGains yX12_laysGains, Cond.methodLink RX12 513 yX12_laysSeconds, Cond.instanceMethod yX12_laysSeconds, Cond.selects RX12 yX12_laysSeconds yX12_laysSeconds, Cond.code yX12_readies cX12_readies 3 none, Cond.code yX12_takes cX12_takes 7 (some .boolean), Cond.code yX12_bound cX12_bound 12 (some .int), Cond.code yX12_holds cX12_holds 5 none, Cond.methodLink RX12 516 yX12_readies, Cond.instanceMethod yX12_readies, Cond.selects RX12 yX12_readies yX12_readies, Cond.methodLink RX12 519 yX12_takes, Cond.instanceMethod yX12_takes, Cond.selects RX12 yX12_takes yX12_takes, Cond.methodLink RX12 522 yX12_bound, Cond.instanceMethod yX12_bound, Cond.selects RX12 yX12_bound yX12_bound, Cond.methodLink RX12 525 yX12_gives1, Cond.instanceMethod yX12_gives1, Cond.selects RX12 yX12_gives1 yX12_gives1, Cond.methodLink RX12 528 yX12_holds, Cond.instanceMethod yX12_holds, Cond.selects RX12 yX12_holds yX12_holds, Cond.code yX12_find cX12_find 12 (some .int), Cond.code yX12_hitAt cX12_hitAt 2 (some .int), Cond.code yX12_rankAt cX12_rankAt 2 (some .int), Cond.code yX12_skipped cX12_skipped 1 (some .int), Cond.code yX12_cached cX12_cached 1 (some .int), Cond.code yX12_isAsked cX12_isAsked 3 (some .boolean), Cond.code yX12_withKey cX12_withKey 4 (some .int), Cond.methodLink RX12 532 yX12_isAsked, Cond.instanceMethod yX12_isAsked, Cond.selects RX12 yX12_isAsked yX12_isAsked, Cond.methodLink RX12 535 yX12_withKey, Cond.instanceMethod yX12_withKey, Cond.selects RX12 yX12_withKey yX12_withKey, Cond.code yX12_rankByScan cX12_rankByScan 6 (some .int), Cond.code yX12_matching cX12_matching 6 (some .int), Cond.methodLink RX12 538 yX12_matching, Cond.instanceMethod yX12_matching, Cond.selects RX12 yX12_matching yX12_matching, Cond.code yX12_matches cX12_matches 4 (some .int), Cond.methodLink RX12 541 yX12_matches, Cond.instanceMethod yX12_matches, Cond.selects RX12 yX12_matches yX12_matches, Cond.code yX12_matchesByScan cX12_matchesByScan 3 (some .int), Cond.code yX12_facet cX12_facet 5 (some .int), Cond.code yX12_sortedAt cX12_sortedAt 9 (some .int), Cond.fieldLink RX12 544 "SearchMillModel" "markedMany" "I", Cond.code yX12_laysMarks cX12_laysMarks 8 (some .int), Cond.code yX12_areMet cX12_areMet 5 (some .boolean), Cond.code yX12_goesOn cX12_goesOn 5 (some .boolean), Cond.code yX12_chooses cX12_chooses 3 none, Cond.code yX12_passes cX12_passes 5 (some .int), Cond.methodLink RX12 547 yX12_chooses, Cond.instanceMethod yX12_chooses, Cond.selects RX12 yX12_chooses yX12_chooses, Cond.methodLink RX12 550 yX12_areMet, Cond.instanceMethod yX12_areMet, Cond.selects RX12 yX12_areMet yX12_areMet, Cond.methodLink RX12 553 yX12_goesOn, Cond.instanceMethod yX12_goesOn, Cond.selects RX12 yX12_goesOn yX12_goesOn, Cond.methodLink RX12 556 yX12_laysMarks, Cond.instanceMethod yX12_laysMarks, Cond.selects RX12 yX12_laysMarks yX12_laysMarks, Cond.methodLink RX12 559 yX12_passes, Cond.instanceMethod yX12_passes, Cond.selects RX12 yX12_passes yX12_passes, Cond.code yX12_passagesOf cX12_passagesOf 7 (some .int), Cond.methodLink RX12 562 yX12_passagesOf, Cond.instanceMethod yX12_passagesOf, Cond.selects RX12 yX12_passagesOf yX12_passagesOf, Cond.code yX12_passages cX12_passages 6 (some .int), Cond.code yX12_passageAt cX12_passageAt 7 (some .int)]
def mWs : List Cond := mWs1 ++ wsX120
theorem mWs_good : GoodIn mWs mWs := goodIn_sub (fun _ h => h) (by decide +kernel)
theorem mWs_lay : ∀ w ∈ wsX120, w ∈ mWs := fun _ h => List.mem_append_right _ h
theorem mWs_in {w : Cond} (i : Nat) (h : mWs1[i]? = some w) : w ∈ mWs := List.mem_append_left _ (List.mem_of_getElem? h)
set_option maxRecDepth 20000 in
theorem mL_powers : Cond.fieldLink RX12 7 "SearchMillModel" (TX12 0).2.1 (TX12 0).2.2.1 ∈ mWs := mWs_in 4 rfl
set_option maxRecDepth 20000 in
theorem mL_pad : Cond.fieldLink RX12 13 "SearchMillModel" (TX12 1).2.1 (TX12 1).2.2.1 ∈ mWs := mWs_in 6 rfl
set_option maxRecDepth 20000 in
theorem mL_padded : Cond.fieldLink RX12 242 "SearchMillModel" (TX12 2).2.1 (TX12 2).2.2.1 ∈ mWs := mWs_in 104 rfl
set_option maxRecDepth 20000 in
theorem mL_words : Cond.fieldLink RX12 17 "SearchMillModel" (TX12 3).2.1 (TX12 3).2.2.1 ∈ mWs := mWs_in 7 rfl
set_option maxRecDepth 20000 in
theorem mL_worded : Cond.fieldLink RX12 239 "SearchMillModel" (TX12 4).2.1 (TX12 4).2.2.1 ∈ mWs := mWs_in 103 rfl
set_option maxRecDepth 20000 in
theorem mL_stops : Cond.fieldLink RX12 20 "SearchMillModel" (TX12 5).2.1 (TX12 5).2.2.1 ∈ mWs := mWs_in 8 rfl
set_option maxRecDepth 20000 in
theorem mL_stopped : Cond.fieldLink RX12 245 "SearchMillModel" (TX12 6).2.1 (TX12 6).2.2.1 ∈ mWs := mWs_in 106 rfl
set_option maxRecDepth 20000 in
theorem mL_firsts : Cond.fieldLink RX12 23 "SearchMillModel" (TX12 7).2.1 (TX12 7).2.2.1 ∈ mWs := mWs_in 9 rfl
set_option maxRecDepth 20000 in
theorem mL_seconds : Cond.fieldLink RX12 26 "SearchMillModel" (TX12 8).2.1 (TX12 8).2.2.1 ∈ mWs := mWs_in 10 rfl
set_option maxRecDepth 20000 in
theorem mL_synonyms : Cond.fieldLink RX12 267 "SearchMillModel" (TX12 9).2.1 (TX12 9).2.2.1 ∈ mWs := mWs_in 124 rfl
set_option maxRecDepth 20000 in
theorem mL_added : Cond.fieldLink RX12 255 "SearchMillModel" (TX12 10).2.1 (TX12 10).2.2.1 ∈ mWs := mWs_in 113 rfl
set_option maxRecDepth 20000 in
theorem mL_draftStems : Cond.fieldLink RX12 29 "SearchMillModel" (TX12 11).2.1 (TX12 11).2.2.1 ∈ mWs := mWs_in 11 rfl
set_option maxRecDepth 20000 in
theorem mL_draftPlaces : Cond.fieldLink RX12 32 "SearchMillModel" (TX12 12).2.1 (TX12 12).2.2.1 ∈ mWs := mWs_in 12 rfl
set_option maxRecDepth 20000 in
theorem mL_draftCategory : Cond.fieldLink RX12 274 "SearchMillModel" (TX12 13).2.1 (TX12 13).2.2.1 ∈ mWs := mWs_in 131 rfl
set_option maxRecDepth 20000 in
theorem mL_draftNumber : Cond.fieldLink RX12 277 "SearchMillModel" (TX12 14).2.1 (TX12 14).2.2.1 ∈ mWs := mWs_in 132 rfl
set_option maxRecDepth 20000 in
theorem mL_bufferKeys : Cond.fieldLink RX12 35 "SearchMillModel" (TX12 15).2.1 (TX12 15).2.2.1 ∈ mWs := mWs_in 13 rfl
set_option maxRecDepth 20000 in
theorem mL_bufferCategories : Cond.fieldLink RX12 38 "SearchMillModel" (TX12 16).2.1 (TX12 16).2.2.1 ∈ mWs := mWs_in 14 rfl
set_option maxRecDepth 20000 in
theorem mL_bufferNumbers : Cond.fieldLink RX12 41 "SearchMillModel" (TX12 17).2.1 (TX12 17).2.2.1 ∈ mWs := mWs_in 15 rfl
set_option maxRecDepth 20000 in
theorem mL_bufferStems : Cond.fieldLink RX12 44 "SearchMillModel" (TX12 18).2.1 (TX12 18).2.2.1 ∈ mWs := mWs_in 16 rfl
set_option maxRecDepth 20000 in
theorem mL_bufferPlaces : Cond.fieldLink RX12 47 "SearchMillModel" (TX12 19).2.1 (TX12 19).2.2.1 ∈ mWs := mWs_in 17 rfl
set_option maxRecDepth 20000 in
theorem mL_buffered : Cond.fieldLink RX12 280 "SearchMillModel" (TX12 20).2.1 (TX12 20).2.2.1 ∈ mWs := mWs_in 135 rfl
set_option maxRecDepth 20000 in
theorem mL_keys : Cond.fieldLink RX12 50 "SearchMillModel" (TX12 21).2.1 (TX12 21).2.2.1 ∈ mWs := mWs_in 18 rfl
set_option maxRecDepth 20000 in
theorem mL_categories : Cond.fieldLink RX12 53 "SearchMillModel" (TX12 22).2.1 (TX12 22).2.2.1 ∈ mWs := mWs_in 19 rfl
set_option maxRecDepth 20000 in
theorem mL_numbers : Cond.fieldLink RX12 56 "SearchMillModel" (TX12 23).2.1 (TX12 23).2.2.1 ∈ mWs := mWs_in 20 rfl
set_option maxRecDepth 20000 in
theorem mL_stems : Cond.fieldLink RX12 60 "SearchMillModel" (TX12 24).2.1 (TX12 24).2.2.1 ∈ mWs := mWs_in 22 rfl
set_option maxRecDepth 20000 in
theorem mL_places : Cond.fieldLink RX12 63 "SearchMillModel" (TX12 25).2.1 (TX12 25).2.2.1 ∈ mWs := mWs_in 23 rfl
set_option maxRecDepth 20000 in
theorem mL_documents : Cond.fieldLink RX12 328 "SearchMillModel" (TX12 26).2.1 (TX12 26).2.2.1 ∈ mWs := mWs_in 161 rfl
set_option maxRecDepth 20000 in
theorem mL_held : Cond.fieldLink RX12 66 "SearchMillModel" (TX12 27).2.1 (TX12 27).2.2.1 ∈ mWs := mWs_in 24 rfl
set_option maxRecDepth 20000 in
theorem mL_sizes : Cond.fieldLink RX12 69 "SearchMillModel" (TX12 28).2.1 (TX12 28).2.2.1 ∈ mWs := mWs_in 25 rfl
set_option maxRecDepth 20000 in
theorem mL_made : Cond.fieldLink RX12 331 "SearchMillModel" (TX12 29).2.1 (TX12 29).2.2.1 ∈ mWs := mWs_in 162 rfl
set_option maxRecDepth 20000 in
theorem mL_live : Cond.fieldLink RX12 72 "SearchMillModel" (TX12 30).2.1 (TX12 30).2.2.1 ∈ mWs := mWs_in 27 rfl
set_option maxRecDepth 20000 in
theorem mL_wrote : Cond.fieldLink RX12 76 "SearchMillModel" (TX12 31).2.1 (TX12 31).2.2.1 ∈ mWs := mWs_in 28 rfl
set_option maxRecDepth 20000 in
theorem mL_wroteAhead : Cond.fieldLink RX12 79 "SearchMillModel" (TX12 32).2.1 (TX12 32).2.2.1 ∈ mWs := mWs_in 29 rfl
set_option maxRecDepth 20000 in
theorem mL_index : Cond.fieldLink RX12 82 "SearchMillModel" (TX12 33).2.1 (TX12 33).2.2.1 ∈ mWs := mWs_in 30 rfl
set_option maxRecDepth 20000 in
theorem mL_indexed : Cond.fieldLink RX12 290 "SearchMillModel" (TX12 34).2.1 (TX12 34).2.2.1 ∈ mWs := mWs_in 138 rfl
set_option maxRecDepth 20000 in
theorem mL_isCommitted : Cond.fieldLink RX12 359 "SearchMillModel" (TX12 35).2.1 (TX12 35).2.2.1 ∈ mWs := mWs_in 195 rfl
set_option maxRecDepth 20000 in
theorem mL_committed : Cond.fieldLink RX12 85 "SearchMillModel" (TX12 36).2.1 (TX12 36).2.2.1 ∈ mWs := mWs_in 31 rfl
set_option maxRecDepth 20000 in
theorem mL_committedMany : Cond.fieldLink RX12 362 "SearchMillModel" (TX12 37).2.1 (TX12 37).2.2.1 ∈ mWs := mWs_in 196 rfl
set_option maxRecDepth 20000 in
theorem mL_committedLive : Cond.fieldLink RX12 88 "SearchMillModel" (TX12 38).2.1 (TX12 38).2.2.1 ∈ mWs := mWs_in 32 rfl
set_option maxRecDepth 20000 in
theorem mL_commits : Cond.fieldLink RX12 365 "SearchMillModel" (TX12 39).2.1 (TX12 39).2.2.1 ∈ mWs := mWs_in 197 rfl
set_option maxRecDepth 20000 in
theorem mL_isPrepared : Cond.fieldLink RX12 306 "SearchMillModel" (TX12 40).2.1 (TX12 40).2.2.1 ∈ mWs := mWs_in 155 rfl
set_option maxRecDepth 20000 in
theorem mL_prepared : Cond.fieldLink RX12 91 "SearchMillModel" (TX12 41).2.1 (TX12 41).2.2.1 ∈ mWs := mWs_in 33 rfl
set_option maxRecDepth 20000 in
theorem mL_preparedMany : Cond.fieldLink RX12 356 "SearchMillModel" (TX12 42).2.1 (TX12 42).2.2.1 ∈ mWs := mWs_in 190 rfl
set_option maxRecDepth 20000 in
theorem mL_preparedLive : Cond.fieldLink RX12 94 "SearchMillModel" (TX12 43).2.1 (TX12 43).2.2.1 ∈ mWs := mWs_in 34 rfl
set_option maxRecDepth 20000 in
theorem mL_lookNumbers : Cond.fieldLink RX12 97 "SearchMillModel" (TX12 44).2.1 (TX12 44).2.2.1 ∈ mWs := mWs_in 35 rfl
set_option maxRecDepth 20000 in
theorem mL_looked : Cond.fieldLink RX12 100 "SearchMillModel" (TX12 45).2.1 (TX12 45).2.2.1 ∈ mWs := mWs_in 36 rfl
set_option maxRecDepth 20000 in
theorem mL_lookedMany : Cond.fieldLink RX12 103 "SearchMillModel" (TX12 46).2.1 (TX12 46).2.2.1 ∈ mWs := mWs_in 37 rfl
set_option maxRecDepth 20000 in
theorem mL_lookedLive : Cond.fieldLink RX12 107 "SearchMillModel" (TX12 47).2.1 (TX12 47).2.2.1 ∈ mWs := mWs_in 39 rfl
set_option maxRecDepth 20000 in
theorem mL_looks : Cond.fieldLink RX12 423 "SearchMillModel" (TX12 48).2.1 (TX12 48).2.2.1 ∈ mWs := mWs_in 279 rfl
set_option maxRecDepth 20000 in
theorem mL_merging : Cond.fieldLink RX12 303 "SearchMillModel" (TX12 49).2.1 (TX12 49).2.2.1 ∈ mWs := mWs_in 154 rfl
set_option maxRecDepth 20000 in
theorem mL_sources : Cond.fieldLink RX12 110 "SearchMillModel" (TX12 50).2.1 (TX12 50).2.2.1 ∈ mWs := mWs_in 40 rfl
set_option maxRecDepth 20000 in
theorem mL_copies : Cond.fieldLink RX12 113 "SearchMillModel" (TX12 51).2.1 (TX12 51).2.2.1 ∈ mWs := mWs_in 41 rfl
set_option maxRecDepth 20000 in
theorem mL_toCopy : Cond.fieldLink RX12 344 "SearchMillModel" (TX12 52).2.1 (TX12 52).2.2.1 ∈ mWs := mWs_in 180 rfl
set_option maxRecDepth 20000 in
theorem mL_copied : Cond.fieldLink RX12 347 "SearchMillModel" (TX12 53).2.1 (TX12 53).2.2.1 ∈ mWs := mWs_in 181 rfl
set_option maxRecDepth 20000 in
theorem mL_found : Cond.fieldLink RX12 116 "SearchMillModel" (TX12 54).2.1 (TX12 54).2.2.1 ∈ mWs := mWs_in 42 rfl
set_option maxRecDepth 20000 in
theorem mL_foundMany : Cond.fieldLink RX12 386 "SearchMillModel" (TX12 55).2.1 (TX12 55).2.2.1 ∈ mWs := mWs_in 235 rfl
set_option maxRecDepth 20000 in
theorem mL_plain : Cond.fieldLink RX12 119 "SearchMillModel" (TX12 56).2.1 (TX12 56).2.2.1 ∈ mWs := mWs_in 43 rfl
set_option maxRecDepth 20000 in
theorem mL_packed : Cond.fieldLink RX12 122 "SearchMillModel" (TX12 57).2.1 (TX12 57).2.2.1 ∈ mWs := mWs_in 44 rfl
set_option maxRecDepth 20000 in
theorem mL_packedBits : Cond.fieldLink RX12 409 "SearchMillModel" (TX12 58).2.1 (TX12 58).2.2.1 ∈ mWs := mWs_in 264 rfl
set_option maxRecDepth 20000 in
theorem mL_alive : Cond.fieldLink RX12 125 "SearchMillModel" (TX12 59).2.1 (TX12 59).2.2.1 ∈ mWs := mWs_in 45 rfl
set_option maxRecDepth 20000 in
theorem mL_liveMany : Cond.fieldLink RX12 429 "SearchMillModel" (TX12 60).2.1 (TX12 60).2.2.1 ∈ mWs := mWs_in 285 rfl
set_option maxRecDepth 20000 in
theorem mL_sorted : Cond.fieldLink RX12 128 "SearchMillModel" (TX12 61).2.1 (TX12 61).2.2.1 ∈ mWs := mWs_in 46 rfl
set_option maxRecDepth 20000 in
theorem mL_kinds : Cond.fieldLink RX12 131 "SearchMillModel" (TX12 62).2.1 (TX12 62).2.2.1 ∈ mWs := mWs_in 47 rfl
set_option maxRecDepth 20000 in
theorem mL_fields : Cond.fieldLink RX12 134 "SearchMillModel" (TX12 63).2.1 (TX12 63).2.2.1 ∈ mWs := mWs_in 48 rfl
set_option maxRecDepth 20000 in
theorem mL_amounts : Cond.fieldLink RX12 137 "SearchMillModel" (TX12 64).2.1 (TX12 64).2.2.1 ∈ mWs := mWs_in 49 rfl
set_option maxRecDepth 20000 in
theorem mL_ordered : Cond.fieldLink RX12 140 "SearchMillModel" (TX12 65).2.1 (TX12 65).2.2.1 ∈ mWs := mWs_in 50 rfl
set_option maxRecDepth 20000 in
theorem mL_many : Cond.fieldLink RX12 143 "SearchMillModel" (TX12 66).2.1 (TX12 66).2.2.1 ∈ mWs := mWs_in 51 rfl
set_option maxRecDepth 20000 in
theorem mL_leafTokens : Cond.fieldLink RX12 146 "SearchMillModel" (TX12 67).2.1 (TX12 67).2.2.1 ∈ mWs := mWs_in 52 rfl
set_option maxRecDepth 20000 in
theorem mL_leafPlaces : Cond.fieldLink RX12 149 "SearchMillModel" (TX12 68).2.1 (TX12 68).2.2.1 ∈ mWs := mWs_in 53 rfl
set_option maxRecDepth 20000 in
theorem mL_wilds : Cond.fieldLink RX12 152 "SearchMillModel" (TX12 69).2.1 (TX12 69).2.2.1 ∈ mWs := mWs_in 54 rfl
set_option maxRecDepth 20000 in
theorem mL_opsMany : Cond.fieldLink RX12 155 "SearchMillModel" (TX12 70).2.1 (TX12 70).2.2.1 ∈ mWs := mWs_in 55 rfl
set_option maxRecDepth 20000 in
theorem mL_leaves : Cond.fieldLink RX12 442 "SearchMillModel" (TX12 71).2.1 (TX12 71).2.2.1 ∈ mWs := mWs_in 295 rfl
set_option maxRecDepth 20000 in
theorem mL_partsMany : Cond.fieldLink RX12 439 "SearchMillModel" (TX12 72).2.1 (TX12 72).2.2.1 ∈ mWs := mWs_in 294 rfl
set_option maxRecDepth 20000 in
theorem mL_queries : Cond.fieldLink RX12 465 "SearchMillModel" (TX12 73).2.1 (TX12 73).2.2.1 ∈ mWs := mWs_in 325 rfl
set_option maxRecDepth 20000 in
theorem mL_weights : Cond.fieldLink RX12 158 "SearchMillModel" (TX12 74).2.1 (TX12 74).2.2.1 ∈ mWs := mWs_in 56 rfl
set_option maxRecDepth 20000 in
theorem mL_tokens : Cond.fieldLink RX12 161 "SearchMillModel" (TX12 75).2.1 (TX12 75).2.2.1 ∈ mWs := mWs_in 57 rfl
set_option maxRecDepth 20000 in
theorem mL_tokenPlaces : Cond.fieldLink RX12 164 "SearchMillModel" (TX12 76).2.1 (TX12 76).2.2.1 ∈ mWs := mWs_in 58 rfl
set_option maxRecDepth 20000 in
theorem mL_tokened : Cond.fieldLink RX12 436 "SearchMillModel" (TX12 77).2.1 (TX12 77).2.2.1 ∈ mWs := mWs_in 291 rfl
set_option maxRecDepth 20000 in
theorem mL_row : Cond.fieldLink RX12 167 "SearchMillModel" (TX12 78).2.1 (TX12 78).2.2.1 ∈ mWs := mWs_in 59 rfl
set_option maxRecDepth 20000 in
theorem mL_next : Cond.fieldLink RX12 170 "SearchMillModel" (TX12 79).2.1 (TX12 79).2.2.1 ∈ mWs := mWs_in 60 rfl
set_option maxRecDepth 20000 in
theorem mL_pile : Cond.fieldLink RX12 173 "SearchMillModel" (TX12 80).2.1 (TX12 80).2.2.1 ∈ mWs := mWs_in 61 rfl
set_option maxRecDepth 20000 in
theorem mL_gains : Cond.fieldLink RX12 176 "SearchMillModel" (TX12 81).2.1 (TX12 81).2.2.1 ∈ mWs := mWs_in 62 rfl
set_option maxRecDepth 20000 in
theorem mL_inSecond : Cond.fieldLink RX12 179 "SearchMillModel" (TX12 82).2.1 (TX12 82).2.2.1 ∈ mWs := mWs_in 63 rfl
set_option maxRecDepth 20000 in
theorem mL_cacheQueries : Cond.fieldLink RX12 182 "SearchMillModel" (TX12 83).2.1 (TX12 83).2.2.1 ∈ mWs := mWs_in 64 rfl
set_option maxRecDepth 20000 in
theorem mL_cacheSegments : Cond.fieldLink RX12 185 "SearchMillModel" (TX12 84).2.1 (TX12 84).2.2.1 ∈ mWs := mWs_in 65 rfl
set_option maxRecDepth 20000 in
theorem mL_cached : Cond.fieldLink RX12 309 "SearchMillModel" (TX12 85).2.1 (TX12 85).2.2.1 ∈ mWs := mWs_in 156 rfl
set_option maxRecDepth 20000 in
theorem mL_hitKeys : Cond.fieldLink RX12 188 "SearchMillModel" (TX12 86).2.1 (TX12 86).2.2.1 ∈ mWs := mWs_in 66 rfl
set_option maxRecDepth 20000 in
theorem mL_hitRanks : Cond.fieldLink RX12 191 "SearchMillModel" (TX12 87).2.1 (TX12 87).2.2.1 ∈ mWs := mWs_in 67 rfl
set_option maxRecDepth 20000 in
theorem mL_hits : Cond.fieldLink RX12 312 "SearchMillModel" (TX12 88).2.1 (TX12 88).2.2.1 ∈ mWs := mWs_in 157 rfl
set_option maxRecDepth 20000 in
theorem mL_skips : Cond.fieldLink RX12 315 "SearchMillModel" (TX12 89).2.1 (TX12 89).2.2.1 ∈ mWs := mWs_in 158 rfl
set_option maxRecDepth 20000 in
theorem mL_taken : Cond.fieldLink RX12 318 "SearchMillModel" (TX12 90).2.1 (TX12 90).2.2.1 ∈ mWs := mWs_in 159 rfl
set_option maxRecDepth 20000 in
theorem mL_marked : Cond.fieldLink RX12 194 "SearchMillModel" (TX12 91).2.1 (TX12 91).2.2.1 ∈ mWs := mWs_in 68 rfl
set_option maxRecDepth 20000 in
theorem mL_markedMany : Cond.fieldLink RX12 544 "SearchMillModel" (TX12 92).2.1 (TX12 92).2.2.1 ∈ mWs := mWs_in 427 rfl
set_option maxRecDepth 20000 in
theorem mL_choices : Cond.fieldLink RX12 197 "SearchMillModel" (TX12 93).2.1 (TX12 93).2.2.1 ∈ mWs := mWs_in 69 rfl
set_option maxRecDepth 20000 in
theorem mL_picked : Cond.fieldLink RX12 200 "SearchMillModel" (TX12 94).2.1 (TX12 94).2.2.1 ∈ mWs := mWs_in 70 rfl
set_option maxRecDepth 20000 in
theorem mL_chosen : Cond.fieldLink RX12 203 "SearchMillModel" (TX12 95).2.1 (TX12 95).2.2.1 ∈ mWs := mWs_in 71 rfl
set_option maxRecDepth 20000 in
theorem mL_writes : Cond.fieldLink RX12 321 "SearchMillModel" (TX12 96).2.1 (TX12 96).2.2.1 ∈ mWs := mWs_in 160 rfl
set_option maxRecDepth 20000 in
theorem mL_crash : Cond.fieldLink RX12 206 "SearchMillModel" (TX12 97).2.1 (TX12 97).2.2.1 ∈ mWs := mWs_in 72 rfl
set_option maxRecDepth 20000 in
theorem mL_down : Cond.fieldLink RX12 297 "SearchMillModel" (TX12 98).2.1 (TX12 98).2.2.1 ∈ mWs := mWs_in 145 rfl
set_option maxRecDepth 20000 in
theorem mL_last : Cond.fieldLink RX12 212 "SearchMillModel" (TX12 99).2.1 (TX12 99).2.2.1 ∈ mWs := mWs_in 76 rfl
theorem mK_37 : Cond.constantLong RX12 210 37 ∈ mWs := mWs_in 73 rfl
theorem mWs_ini : Cond.initialized RX12 ∈ mWs := mWs_in 82 rfl
/-- a callee of the model, by its number in the pool of constants -/
def mCal (st : Bool) (idx : Nat) (y : MethodName) (cc : ByteArray) (nL : Nat) (ret : Option FieldType) (n : Nat) : Prop := y.cls = RX12 ∧ Cond.methodLink RX12 idx y ∈ mWs ∧ (if st then Cond.static y ∈ mWs else (Cond.instanceMethod y ∈ mWs ∧ Cond.selects RX12 y y ∈ mWs)) ∧ Cond.code y cc nL ret ∈ mWs ∧ (parseMethodDescriptor y.desc).map (fun d => d.parameters.length) = some n
set_option maxRecDepth 20000 in
theorem mCal_in : mCal true 215 yX12_in cX12_in 3 (some .boolean) 3 := ⟨rfl, mWs_in 80 rfl, mWs_in 81 rfl, mWs_in 77 rfl, by decide +kernel⟩
set_option maxRecDepth 20000 in
theorem mCal_at : mCal false 219 yX12_at cX12_at 4 (some .int) 2 := ⟨rfl, mWs_in 85 rfl, ⟨mWs_in 86 rfl, mWs_in 87 rfl⟩, mWs_in 83 rfl, by decide +kernel⟩
set_option maxRecDepth 20000 in
theorem mCal_figure : mCal true 223 yX12_figure cX12_figure 1 (some .int) 1 := ⟨rfl, mWs_in 90 rfl, mWs_in 91 rfl, mWs_in 79 rfl, by decide +kernel⟩
set_option maxRecDepth 20000 in
theorem mCal_length : mCal false 227 yX12_length cX12_length 4 (some .int) 1 := ⟨rfl, mWs_in 92 rfl, ⟨mWs_in 93 rfl, mWs_in 94 rfl⟩, mWs_in 84 rfl, by decide +kernel⟩
set_option maxRecDepth 20000 in
theorem mCal_ends : mCal false 231 yX12_ends cX12_ends 6 (some .boolean) 4 := ⟨rfl, mWs_in 95 rfl, ⟨mWs_in 96 rfl, mWs_in 97 rfl⟩, mWs_in 89 rfl, by decide +kernel⟩
set_option maxRecDepth 20000 in
theorem mCal_without : mCal false 235 yX12_without cX12_without 7 (some .long) 3 := ⟨rfl, mWs_in 98 rfl, ⟨mWs_in 99 rfl, mWs_in 100 rfl⟩, mWs_in 88 rfl, by decide +kernel⟩
set_option maxRecDepth 20000 in
theorem mCal_goes : mCal false 248 yX12_goes cX12_goes 4 (some .boolean) 3 := ⟨rfl, mWs_in 109 rfl, ⟨mWs_in 110 rfl, mWs_in 111 rfl⟩, mWs_in 78 rfl, by decide +kernel⟩
set_option maxRecDepth 20000 in
theorem mCal_reads : mCal false 252 yX12_reads cX12_reads 4 none 0 := ⟨rfl, mWs_in 114 rfl, ⟨mWs_in 115 rfl, mWs_in 116 rfl⟩, mWs_in 102 rfl, by decide +kernel⟩
set_option maxRecDepth 20000 in
theorem mCal_stem : mCal false 259 yX12_stem cX12_stem 4 (some .long) 1 := ⟨rfl, mWs_in 117 rfl, ⟨mWs_in 118 rfl, mWs_in 119 rfl⟩, mWs_in 101 rfl, by decide +kernel⟩
set_option maxRecDepth 20000 in
theorem mCal_isStop : mCal false 263 yX12_isStop cX12_isStop 5 (some .boolean) 1 := ⟨rfl, mWs_in 120 rfl, ⟨mWs_in 121 rfl, mWs_in 122 rfl⟩, mWs_in 105 rfl, by decide +kernel⟩
set_option maxRecDepth 20000 in
theorem mCal_gives : mCal false 270 yX12_gives cX12_gives 6 (some .boolean) 2 := ⟨rfl, mWs_in 126 rfl, ⟨mWs_in 127 rfl, mWs_in 128 rfl⟩, mWs_in 107 rfl, by decide +kernel⟩
set_option maxRecDepth 20000 in
theorem mCal_inBuffer : mCal false 283 yX12_inBuffer cX12_inBuffer 4 (some .int) 1 := ⟨rfl, mWs_in 139 rfl, ⟨mWs_in 140 rfl, mWs_in 141 rfl⟩, mWs_in 134 rfl, by decide +kernel⟩
set_option maxRecDepth 20000 in
theorem mCal_moves : mCal false 286 yX12_moves cX12_moves 4 none 2 := ⟨rfl, mWs_in 142 rfl, ⟨mWs_in 143 rfl, mWs_in 144 rfl⟩, mWs_in 136 rfl, by decide +kernel⟩
set_option maxRecDepth 20000 in
theorem mCal_isKey : mCal true 293 yX12_isKey cX12_isKey 1 (some .boolean) 1 := ⟨rfl, mWs_in 146 rfl, mWs_in 147 rfl, mWs_in 133 rfl, by decide +kernel⟩
set_option maxRecDepth 20000 in
theorem mCal_deletes : mCal false 300 yX12_deletes cX12_deletes 7 (some .boolean) 1 := ⟨rfl, mWs_in 148 rfl, ⟨mWs_in 149 rfl, mWs_in 150 rfl⟩, mWs_in 137 rfl, by decide +kernel⟩
set_option maxRecDepth 20000 in
theorem mCal_writes1 : mCal false 324 yX12_writes1 cX12_writes1 2 (some .boolean) 0 := ⟨rfl, mWs_in 163 rfl, ⟨mWs_in 164 rfl, mWs_in 165 rfl⟩, mWs_in 153 rfl, by decide +kernel⟩
set_option maxRecDepth 20000 in
theorem mCal_flushes : mCal false 334 yX12_flushes cX12_flushes 4 (some .int) 0 := ⟨rfl, mWs_in 167 rfl, ⟨mWs_in 168 rfl, mWs_in 169 rfl⟩, mWs_in 166 rfl, by decide +kernel⟩
set_option maxRecDepth 20000 in
theorem mCal_tier : mCal false 338 yX12_tier cX12_tier 4 (some .int) 1 := ⟨rfl, mWs_in 173 rfl, ⟨mWs_in 174 rfl, mWs_in 175 rfl⟩, mWs_in 171 rfl, by decide +kernel⟩
set_option maxRecDepth 20000 in
theorem mCal_dueAt : mCal false 341 yX12_dueAt cX12_dueAt 2 (some .int) 0 := ⟨rfl, mWs_in 177 rfl, ⟨mWs_in 178 rfl, mWs_in 179 rfl⟩, mWs_in 172 rfl, by decide +kernel⟩
set_option maxRecDepth 20000 in
theorem mCal_ends1 : mCal false 350 yX12_ends1 cX12_ends1 4 none 0 := ⟨rfl, mWs_in 184 rfl, ⟨mWs_in 185 rfl, mWs_in 186 rfl⟩, mWs_in 183 rfl, by decide +kernel⟩
set_option maxRecDepth 20000 in
theorem mCal_differs : mCal false 353 yX12_differs cX12_differs 4 (some .boolean) 1 := ⟨rfl, mWs_in 191 rfl, ⟨mWs_in 192 rfl, mWs_in 193 rfl⟩, mWs_in 189 rfl, by decide +kernel⟩
set_option maxRecDepth 20000 in
theorem mCal_isInCommit : mCal false 368 yX12_isInCommit cX12_isInCommit 4 (some .boolean) 1 := ⟨rfl, mWs_in 207 rfl, ⟨mWs_in 208 rfl, mWs_in 209 rfl⟩, mWs_in 204 rfl, by decide +kernel⟩
set_option maxRecDepth 20000 in
theorem mCal_isInPrepared : mCal false 371 yX12_isInPrepared cX12_isInPrepared 4 (some .boolean) 1 := ⟨rfl, mWs_in 210 rfl, ⟨mWs_in 211 rfl, mWs_in 212 rfl⟩, mWs_in 205 rfl, by decide +kernel⟩
set_option maxRecDepth 20000 in
theorem mCal_isInIndex : mCal false 374 yX12_isInIndex cX12_isInIndex 4 (some .boolean) 1 := ⟨rfl, mWs_in 213 rfl, ⟨mWs_in 214 rfl, mWs_in 215 rfl⟩, mWs_in 203 rfl, by decide +kernel⟩
set_option maxRecDepth 20000 in
theorem mCal_isInLooks : mCal false 377 yX12_isInLooks cX12_isInLooks 5 (some .boolean) 1 := ⟨rfl, mWs_in 216 rfl, ⟨mWs_in 217 rfl, mWs_in 218 rfl⟩, mWs_in 206 rfl, by decide +kernel⟩
set_option maxRecDepth 20000 in
theorem mCal_filesNow : mCal false 380 yX12_filesNow cX12_filesNow 9 (some .int) 0 := ⟨rfl, mWs_in 220 rfl, ⟨mWs_in 221 rfl, mWs_in 222 rfl⟩, mWs_in 219 rfl, by decide +kernel⟩
set_option maxRecDepth 20000 in
theorem mCal_isPlace : mCal false 383 yX12_isPlace cX12_isPlace 2 (some .boolean) 1 := ⟨rfl, mWs_in 228 rfl, ⟨mWs_in 229 rfl, mWs_in 230 rfl⟩, mWs_in 225 rfl, by decide +kernel⟩
set_option maxRecDepth 20000 in
theorem mCal_puts : mCal false 389 yX12_puts cX12_puts 5 none 1 := ⟨rfl, mWs_in 237 rfl, ⟨mWs_in 238 rfl, mWs_in 239 rfl⟩, mWs_in 234 rfl, by decide +kernel⟩
set_option maxRecDepth 20000 in
theorem mCal_isField : mCal false 393 yX12_isField cX12_isField 2 (some .boolean) 1 := ⟨rfl, mWs_in 241 rfl, ⟨mWs_in 242 rfl, mWs_in 243 rfl⟩, mWs_in 240 rfl, by decide +kernel⟩
set_option maxRecDepth 20000 in
theorem mCal_finds : mCal false 396 yX12_finds cX12_finds 9 none 2 := ⟨rfl, mWs_in 244 rfl, ⟨mWs_in 245 rfl, mWs_in 246 rfl⟩, mWs_in 236 rfl, by decide +kernel⟩
set_option maxRecDepth 20000 in
theorem mCal_hasWords : mCal false 399 yX12_hasWords cX12_hasWords 4 (some .boolean) 2 := ⟨rfl, mWs_in 248 rfl, ⟨mWs_in 249 rfl, mWs_in 250 rfl⟩, mWs_in 247 rfl, by decide +kernel⟩
set_option maxRecDepth 20000 in
theorem mCal_hasWord : mCal false 403 yX12_hasWord cX12_hasWord 4 (some .boolean) 3 := ⟨rfl, mWs_in 254 rfl, ⟨mWs_in 255 rfl, mWs_in 256 rfl⟩, mWs_in 251 rfl, by decide +kernel⟩
set_option maxRecDepth 20000 in
theorem mCal_sharedBy : mCal false 406 yX12_sharedBy cX12_sharedBy 3 (some .int) 1 := ⟨rfl, mWs_in 257 rfl, ⟨mWs_in 258 rfl, mWs_in 259 rfl⟩, mWs_in 253 rfl, by decide +kernel⟩
set_option maxRecDepth 20000 in
theorem mCal_hasAt : mCal false 412 yX12_hasAt cX12_hasAt 10 (some .boolean) 4 := ⟨rfl, mWs_in 265 rfl, ⟨mWs_in 266 rfl, mWs_in 267 rfl⟩, mWs_in 233 rfl, by decide +kernel⟩
set_option maxRecDepth 20000 in
theorem mCal_writesBits : mCal false 416 yX12_writesBits cX12_writesBits 4 none 2 := ⟨rfl, mWs_in 268 rfl, ⟨mWs_in 269 rfl, mWs_in 270 rfl⟩, mWs_in 263 rfl, by decide +kernel⟩
set_option maxRecDepth 20000 in
theorem mCal_packs : mCal false 419 yX12_packs cX12_packs 13 none 3 := ⟨rfl, mWs_in 272 rfl, ⟨mWs_in 273 rfl, mWs_in 274 rfl⟩, mWs_in 271 rfl, by decide +kernel⟩
set_option maxRecDepth 20000 in
theorem mCal_slotOf : mCal false 426 yX12_slotOf cX12_slotOf 4 (some .int) 1 := ⟨rfl, mWs_in 280 rfl, ⟨mWs_in 281 rfl, mWs_in 282 rfl⟩, mWs_in 277 rfl, by decide +kernel⟩
set_option maxRecDepth 20000 in
theorem mCal_lays : mCal false 432 yX12_lays cX12_lays 5 none 1 := ⟨rfl, mWs_in 287 rfl, ⟨mWs_in 288 rfl, mWs_in 289 rfl⟩, mWs_in 284 rfl, by decide +kernel⟩
set_option maxRecDepth 20000 in
theorem mCal_draftAt : mCal true 445 yX12_draftAt cX12_draftAt 0 (some .int) 0 := ⟨rfl, mWs_in 297 rfl, mWs_in 298 rfl, mWs_in 290 rfl, by decide +kernel⟩
set_option maxRecDepth 20000 in
theorem mCal_hasTokens : mCal false 448 yX12_hasTokens cX12_hasTokens 4 (some .boolean) 2 := ⟨rfl, mWs_in 299 rfl, ⟨mWs_in 300 rfl, mWs_in 301 rfl⟩, mWs_in 292 rfl, by decide +kernel⟩
set_option maxRecDepth 20000 in
theorem mCal_hasRoom : mCal false 451 yX12_hasRoom cX12_hasRoom 1 (some .boolean) 0 := ⟨rfl, mWs_in 302 rfl, ⟨mWs_in 303 rfl, mWs_in 304 rfl⟩, mWs_in 293 rfl, by decide +kernel⟩
set_option maxRecDepth 20000 in
theorem mCal_leaf : mCal false 454 yX12_leaf cX12_leaf 7 (some .int) 4 := ⟨rfl, mWs_in 305 rfl, ⟨mWs_in 306 rfl, mWs_in 307 rfl⟩, mWs_in 296 rfl, by decide +kernel⟩
set_option maxRecDepth 20000 in
theorem mCal_hasWordAlone : mCal false 458 yX12_hasWordAlone cX12_hasWordAlone 1 (some .boolean) 0 := ⟨rfl, mWs_in 312 rfl, ⟨mWs_in 313 rfl, mWs_in 314 rfl⟩, mWs_in 311 rfl, by decide +kernel⟩
set_option maxRecDepth 20000 in
theorem mCal_joins : mCal false 461 yX12_joins cX12_joins 5 (some .int) 3 := ⟨rfl, mWs_in 320 rfl, ⟨mWs_in 321 rfl, mWs_in 322 rfl⟩, mWs_in 318 rfl, by decide +kernel⟩
set_option maxRecDepth 20000 in
theorem mCal_scraps : mCal false 468 yX12_scraps cX12_scraps 1 none 0 := ⟨rfl, mWs_in 326 rfl, ⟨mWs_in 327 rfl, mWs_in 328 rfl⟩, mWs_in 324 rfl, by decide +kernel⟩
set_option maxRecDepth 20000 in
theorem mCal_begins : mCal false 471 yX12_begins cX12_begins 7 (some .boolean) 2 := ⟨rfl, mWs_in 335 rfl, ⟨mWs_in 336 rfl, mWs_in 337 rfl⟩, mWs_in 332 rfl, by decide +kernel⟩
set_option maxRecDepth 20000 in
theorem mCal_isLike : mCal false 475 yX12_isLike cX12_isLike 9 (some .boolean) 2 := ⟨rfl, mWs_in 338 rfl, ⟨mWs_in 339 rfl, mWs_in 340 rfl⟩, mWs_in 333 rfl, by decide +kernel⟩
set_option maxRecDepth 20000 in
theorem mCal_edits : mCal false 479 yX12_edits cX12_edits 10 (some .int) 2 := ⟨rfl, mWs_in 341 rfl, ⟨mWs_in 342 rfl, mWs_in 343 rfl⟩, mWs_in 334 rfl, by decide +kernel⟩
set_option maxRecDepth 20000 in
theorem mCal_fitsWord : mCal false 483 yX12_fitsWord cX12_fitsWord 6 (some .boolean) 2 := ⟨rfl, mWs_in 345 rfl, ⟨mWs_in 346 rfl, mWs_in 347 rfl⟩, mWs_in 344 rfl, by decide +kernel⟩
set_option maxRecDepth 20000 in
theorem mCal_fitsAt : mCal false 486 yX12_fitsAt cX12_fitsAt 9 (some .boolean) 4 := ⟨rfl, mWs_in 351 rfl, ⟨mWs_in 352 rfl, mWs_in 353 rfl⟩, mWs_in 348 rfl, by decide +kernel⟩
set_option maxRecDepth 20000 in
theorem mCal_isPhraseAt : mCal false 490 yX12_isPhraseAt cX12_isPhraseAt 8 (some .boolean) 3 := ⟨rfl, mWs_in 354 rfl, ⟨mWs_in 355 rfl, mWs_in 356 rfl⟩, mWs_in 349 rfl, by decide +kernel⟩
set_option maxRecDepth 20000 in
theorem mCal_isNearAt : mCal false 493 yX12_isNearAt cX12_isNearAt 8 (some .boolean) 3 := ⟨rfl, mWs_in 357 rfl, ⟨mWs_in 358 rfl, mWs_in 359 rfl⟩, mWs_in 350 rfl, by decide +kernel⟩
set_option maxRecDepth 20000 in
theorem mCal_marks : mCal false 496 yX12_marks cX12_marks 7 (some .int) 2 := ⟨rfl, mWs_in 363 rfl, ⟨mWs_in 364 rfl, mWs_in 365 rfl⟩, mWs_in 360 rfl, by decide +kernel⟩
set_option maxRecDepth 20000 in
theorem mCal_ones : mCal true 500 yX12_ones cX12_ones 3 (some .int) 1 := ⟨rfl, mWs_in 366 rfl, mWs_in 367 rfl, mWs_in 361 rfl, by decide +kernel⟩
set_option maxRecDepth 20000 in
theorem mCal_strength : mCal true 503 yX12_strength cX12_strength 1 (some .int) 1 := ⟨rfl, mWs_in 368 rfl, mWs_in 369 rfl, mWs_in 362 rfl, by decide +kernel⟩
set_option maxRecDepth 20000 in
theorem mCal_rarity : mCal false 506 yX12_rarity cX12_rarity 8 (some .int) 2 := ⟨rfl, mWs_in 372 rfl, ⟨mWs_in 373 rfl, mWs_in 374 rfl⟩, mWs_in 371 rfl, by decide +kernel⟩
set_option maxRecDepth 20000 in
theorem mCal_laysGains : mCal false 510 yX12_laysGains cX12_laysGains 6 none 1 := ⟨rfl, mWs_in 377 rfl, ⟨mWs_in 378 rfl, mWs_in 379 rfl⟩, mWs_in 375 rfl, by decide +kernel⟩
set_option maxRecDepth 20000 in
theorem mCal_laysSeconds : mCal false 513 yX12_laysSeconds cX12_laysSeconds 6 none 1 := ⟨rfl, mWs_in 380 rfl, ⟨mWs_in 381 rfl, mWs_in 382 rfl⟩, mWs_in 376 rfl, by decide +kernel⟩
set_option maxRecDepth 20000 in
theorem mCal_readies : mCal false 516 yX12_readies cX12_readies 3 none 2 := ⟨rfl, mWs_in 387 rfl, ⟨mWs_in 388 rfl, mWs_in 389 rfl⟩, mWs_in 383 rfl, by decide +kernel⟩
set_option maxRecDepth 20000 in
theorem mCal_takes : mCal false 519 yX12_takes cX12_takes 7 (some .boolean) 2 := ⟨rfl, mWs_in 390 rfl, ⟨mWs_in 391 rfl, mWs_in 392 rfl⟩, mWs_in 384 rfl, by decide +kernel⟩
set_option maxRecDepth 20000 in
theorem mCal_bound : mCal false 522 yX12_bound cX12_bound 12 (some .int) 3 := ⟨rfl, mWs_in 393 rfl, ⟨mWs_in 394 rfl, mWs_in 395 rfl⟩, mWs_in 385 rfl, by decide +kernel⟩
set_option maxRecDepth 20000 in
theorem mCal_gives1 : mCal false 525 yX12_gives1 cX12_gives1 9 (some .int) 2 := ⟨rfl, mWs_in 396 rfl, ⟨mWs_in 397 rfl, mWs_in 398 rfl⟩, mWs_in 370 rfl, by decide +kernel⟩
set_option maxRecDepth 20000 in
theorem mCal_holds : mCal false 528 yX12_holds cX12_holds 5 none 3 := ⟨rfl, mWs_in 399 rfl, ⟨mWs_in 400 rfl, mWs_in 401 rfl⟩, mWs_in 386 rfl, by decide +kernel⟩
set_option maxRecDepth 20000 in
theorem mCal_isAsked : mCal false 532 yX12_isAsked cX12_isAsked 3 (some .boolean) 2 := ⟨rfl, mWs_in 409 rfl, ⟨mWs_in 410 rfl, mWs_in 411 rfl⟩, mWs_in 407 rfl, by decide +kernel⟩
set_option maxRecDepth 20000 in
theorem mCal_withKey : mCal false 535 yX12_withKey cX12_withKey 4 (some .int) 1 := ⟨rfl, mWs_in 412 rfl, ⟨mWs_in 413 rfl, mWs_in 414 rfl⟩, mWs_in 408 rfl, by decide +kernel⟩
set_option maxRecDepth 20000 in
theorem mCal_matching : mCal false 538 yX12_matching cX12_matching 6 (some .int) 3 := ⟨rfl, mWs_in 417 rfl, ⟨mWs_in 418 rfl, mWs_in 419 rfl⟩, mWs_in 416 rfl, by decide +kernel⟩
set_option maxRecDepth 20000 in
theorem mCal_matches : mCal false 541 yX12_matches cX12_matches 4 (some .int) 2 := ⟨rfl, mWs_in 421 rfl, ⟨mWs_in 422 rfl, mWs_in 423 rfl⟩, mWs_in 420 rfl, by decide +kernel⟩
set_option maxRecDepth 20000 in
theorem mCal_chooses : mCal false 547 yX12_chooses cX12_chooses 3 none 1 := ⟨rfl, mWs_in 433 rfl, ⟨mWs_in 434 rfl, mWs_in 435 rfl⟩, mWs_in 431 rfl, by decide +kernel⟩
set_option maxRecDepth 20000 in
theorem mCal_areMet : mCal false 550 yX12_areMet cX12_areMet 5 (some .boolean) 1 := ⟨rfl, mWs_in 436 rfl, ⟨mWs_in 437 rfl, mWs_in 438 rfl⟩, mWs_in 429 rfl, by decide +kernel⟩
set_option maxRecDepth 20000 in
theorem mCal_goesOn : mCal false 553 yX12_goesOn cX12_goesOn 5 (some .boolean) 2 := ⟨rfl, mWs_in 439 rfl, ⟨mWs_in 440 rfl, mWs_in 441 rfl⟩, mWs_in 430 rfl, by decide +kernel⟩
set_option maxRecDepth 20000 in
theorem mCal_laysMarks : mCal false 556 yX12_laysMarks cX12_laysMarks 8 (some .int) 3 := ⟨rfl, mWs_in 442 rfl, ⟨mWs_in 443 rfl, mWs_in 444 rfl⟩, mWs_in 428 rfl, by decide +kernel⟩
set_option maxRecDepth 20000 in
theorem mCal_passes : mCal false 559 yX12_passes cX12_passes 5 (some .int) 1 := ⟨rfl, mWs_in 445 rfl, ⟨mWs_in 446 rfl, mWs_in 447 rfl⟩, mWs_in 432 rfl, by decide +kernel⟩
set_option maxRecDepth 20000 in
theorem mCal_passagesOf : mCal false 562 yX12_passagesOf cX12_passagesOf 7 (some .int) 4 := ⟨rfl, mWs_in 449 rfl, ⟨mWs_in 450 rfl, mWs_in 451 rfl⟩, mWs_in 448 rfl, by decide +kernel⟩
def mI : List Nat := [1, 2, 0, 3, 0, 4, 0, 5, 6, 0, 0, 7, 8, 0, 0, 9, 10, 11, 12, 13, 0, 14, 15, 16, 17, 18, 0, 19, 20, 0, 21, 22, 23, 24, 0, 0, 25, 0, 26, 0, 0, 27, 0, 28, 29, 30, 31, 32, 0, 0, 33, 34, 0, 0, 35, 0, 36, 37, 0, 38, 0, 39, 40, 41, 42, 43, 44, 45, 46, 47, 48, 0, 0, 0, 49, 50, 51, 0, 52, 53, 54, 55, 56, 57, 58, 0, 59, 60, 0, 0, 0, 61, 0, 62, 63, 64, 0, 0, 0, 0]
def mTy : List Nat := [9, 1, 0, 1, 1, 1, 1, 1, 0, 0, 0, 0, 1, 0, 0, 0, 0, 1, 0, 0, 0, 2, 2, 2, 0, 0, 2, 0, 2, 0, 0, 0, 2, 0, 0, 1, 0, 0, 0, 0, 0, 0, 0, 2, 0, 1, 0, 0, 0, 0, 1, 0, 0, 0, 0, 0, 2, 0, 0, 0, 0, 0, 0, 0, 0]
def mLn : List Nat := [0, 12, 40, 20, 10, 10, 10, 40, 2, 12, 12, 12, 480, 24, 2424, 2424, 2424, 96960, 4848, 20200, 202, 20200, 20200, 20200, 202, 202, 20200, 202, 20200, 5, 1010, 5, 101000, 3, 100, 2200, 2300, 2400, 2424, 2424, 1968, 1968, 1968, 1968, 1968, 11808, 11808, 23616, 41, 2, 20, 20, 14, 14, 50, 48, 48, 8, 8, 20, 20, 48, 20, 20, 20]
abbrev mS : Type := (Nat → Int32) × (Nat → Nat → Int32) × (Nat → Nat → Int64)
def mFv (a : Nat → Nat) (v : Nat → Int32) (k : Nat) : Value := if mI.getD k 0 = 0 then .int (v k) else .ref (a (mI.getD k 0))
def mEv (cI cJ cZ : ClassId) (f : Nat → Nat → Int32) (g : Nat → Nat → Int64) (j : Nat) : va_E := if mTy.getD j 9 = 0 then .inl (cI, mLn.getD j 0, .inl (f j)) else if mTy.getD j 9 = 1 then .inl (cJ, mLn.getD j 0, .inr (.inl (g j))) else .inl (cZ, mLn.getD j 0, .inl (f j))
def mW (cI cJ cZ : ClassId) (a : Nat → Nat) (v : Nat → Int32) (f : Nat → Nat → Int32) (g : Nat → Nat → Int64) : va_W := (a 0, .inr (15, (List.range 100).map (mFv a v))) :: (List.range 64).map (fun j => (a (j + 1), mEv cI cJ cZ f g (j + 1)))
/-- one place of one row -/
def mU {α : Type} (f : Nat → Nat → α) (j i : Nat) (x : α) : Nat → Nat → α := fun b => if b = j then (fun k => if k = i then x else f j k) else f b
theorem mU_s {α : Type} {f : Nat → Nat → α} {j i : Nat} {x : α} : mU f j i x j = fun k => if k = i then x else f j k := by simp [mU]
theorem mU_n {α : Type} {f : Nat → Nat → α} {j i b : Nat} {x : α} (h : b ≠ j) : mU f j i x b = f b := by simp [mU, h]
theorem mW_0 {cI cJ cZ : ClassId} {a : Nat → Nat} {v : Nat → Int32} {f : Nat → Nat → Int32} {g : Nat → Nat → Int64} : (mW cI cJ cZ a v f g)[0]? = some (a 0, .inr (15, (List.range 100).map (mFv a v))) := rfl
theorem mW_s {cI cJ cZ : ClassId} {a : Nat → Nat} {v : Nat → Int32} {f : Nat → Nat → Int32} {g : Nat → Nat → Int64} {j : Nat} (h : j < 64) : (mW cI cJ cZ a v f g)[j + 1]? = some (a (j + 1), mEv cI cJ cZ f g (j + 1)) := by
  simp [mW, h]
theorem mF_k {a : Nat → Nat} {v : Nat → Int32} {k : Nat} (h : k < 100) : ((List.range 100).map (mFv a v))[k]? = some (mFv a v k) := by
  simp [h]
theorem mF_set {a : Nat → Nat} {v : Nat → Int32} {k : Nat} {x : Int32} (h : k < 100) (hk : mI.getD k 0 = 0) : ((List.range 100).map (mFv a v)).set k (.int x) = (List.range 100).map (mFv a (upd v k x)) := by
  apply List.ext_getElem?
  intro i
  rw [List.getElem?_set]
  by_cases e : k = i
  · subst e
    simp [h, mFv, upd]
    simpa using hk
  · rw [if_neg e]
    by_cases hi : i < 100
    · simp [hi, mFv, upd, Ne.symm e]
    · simp [hi]
theorem mW_put {cI cJ cZ : ClassId} {a : Nat → Nat} {v : Nat → Int32} {f : Nat → Nat → Int32} {g : Nat → Nat → Int64} {k : Nat} {x : Int32} (h : k < 100) (hk : mI.getD k 0 = 0) : (mW cI cJ cZ a v f g).set 0 (a 0, .inr (15, ((List.range 100).map (mFv a v)).set k (.int x))) = mW cI cJ cZ a (upd v k x) f g := by
  rw [mF_set h hk]; rfl
theorem mW_row {cI cJ cZ : ClassId} {a : Nat → Nat} {v : Nat → Int32} {f f' : Nat → Nat → Int32} {g g' : Nat → Nat → Int64} {j : Nat} {e : va_E} (h : j < 64) (he : mEv cI cJ cZ f' g' (j + 1) = e) (hf : ∀ b, b ≠ j + 1 → mEv cI cJ cZ f' g' b = mEv cI cJ cZ f g b) : (mW cI cJ cZ a v f g).set (j + 1) (a (j + 1), e) = mW cI cJ cZ a v f' g' := by
  unfold mW
  rw [List.set_cons_succ]
  congr 1
  apply List.ext_getElem?
  intro i
  rw [List.getElem?_set]
  by_cases q : j = i
  · subst q
    simp [h, he]
  · rw [if_neg q]
    by_cases hi : i < 64
    · simp [hi]
      exact (hf (i + 1) (by omega)).symm
    · simp [hi]
theorem mE_I {cI cJ cZ : ClassId} {f : Nat → Nat → Int32} {g : Nat → Nat → Int64} {j n : Nat} (h : mTy.getD j 9 = 0) (hn : mLn.getD j 0 = n) : mEv cI cJ cZ f g j = .inl (cI, n, .inl (f j)) := by
  unfold mEv; rw [if_pos h, hn]
theorem mE_J {cI cJ cZ : ClassId} {f : Nat → Nat → Int32} {g : Nat → Nat → Int64} {j n : Nat} (h : mTy.getD j 9 = 1) (hn : mLn.getD j 0 = n) : mEv cI cJ cZ f g j = .inl (cJ, n, .inr (.inl (g j))) := by
  unfold mEv; rw [if_neg (by rw [h]; decide), if_pos h, hn]
theorem mE_Z {cI cJ cZ : ClassId} {f : Nat → Nat → Int32} {g : Nat → Nat → Int64} {j n : Nat} (h : mTy.getD j 9 = 2) (hn : mLn.getD j 0 = n) : mEv cI cJ cZ f g j = .inl (cZ, n, .inl (f j)) := by
  unfold mEv; rw [if_neg (by rw [h]; decide), if_neg (by rw [h]; decide), hn]
theorem mE_fn {cI cJ cZ : ClassId} {f f' : Nat → Nat → Int32} {g g' : Nat → Nat → Int64} {b : Nat} (hf : f' b = f b) (hg : g' b = g b) : mEv cI cJ cZ f' g' b = mEv cI cJ cZ f g b := by
  unfold mEv; rw [hf, hg]
theorem mW_ij {cI cJ cZ : ClassId} {a : Nat → Nat} {v v' : Nat → Int32} {f f' : Nat → Nat → Int32} {g g' : Nat → Nat → Int64} {i : Nat} {p : Nat × va_E} (h : (mW cI cJ cZ a v' f' g')[i]? = some p) : ∃ q : Nat × va_E, (mW cI cJ cZ a v f g)[i]? = some q ∧ q.1 = p.1 := by
  cases i with
  | zero => cases h; exact ⟨_, rfl, rfl⟩
  | succ j =>
    by_cases hj : j < 64
    · rw [mW_s hj] at h; cases h; exact ⟨_, mW_s hj, rfl⟩
    · simp [mW, hj] at h
theorem mW_D {A : Nat → Prop} {cI cJ cZ : ClassId} {a : Nat → Nat} {v v' : Nat → Int32} {f f' : Nat → Nat → Int32} {g g' : Nat → Nat → Int64} (h : va_D A (mW cI cJ cZ a v f g)) : va_D A (mW cI cJ cZ a v' f' g') := by
  refine ⟨fun i j p q hp hq e => ?_, fun k q hq => ?_⟩
  · obtain ⟨p1, hp1, ep⟩ := mW_ij (v := v) (f := f) (g := g) hp
    obtain ⟨q1, hq1, eq⟩ := mW_ij (v := v) (f := f) (g := g) hq
    exact h.1 i j p1 q1 hp1 hq1 (by rw [ep, eq, e])
  · obtain ⟨q1, hq1, eq⟩ := mW_ij (v := v) (f := f) (g := g) hq
    rw [← eq]; exact h.2 k q1 hq1
abbrev mTys (cI cJ cZ : ClassId) : List (ClassId × FieldType) := [(cI, .int), (cJ, .long), (cZ, .boolean)]
/-- what a method's proof stands on throughout -/
def mC (p : Program) (s : State) (m : MethodId) (args : Array Value) (meth : Method) (c : Code) (cc : ByteArray) (nL : Nat) (ret : Option FieldType) (A : Nat → Prop) (D : va_G) (cI cJ cZ : ClassId) : Prop :=
  p.tables.exec = Jvm.exec ∧ c.code = cc ∧ c.maxLocals = nL ∧ s.vm.findClass RX12 = some m.cls ∧ (∀ w ∈ mWs, w.before args s = true) ∧ va_K D vwCl (mTys cI cJ cZ) s ∧ meth.locks = false ∧ meth.sig.returnType = ret ∧ ∀ q, s.heap.size ≤ q → A q
/-- the judgement: from the frame at pc with these locals and this stack, over the world v f g, a state with Q is reached -/
def mG (p : Program) (l : Launch) (e : Env) (R : Room) (s : State) (m : MethodId) (args : Array Value) (below : List Frame) (meth : Method) (c : Code) (A : Nat → Prop) (D : va_G) (cI cJ cZ : ClassId) (a : Nat → Nat) (nL : Nat) (Q : State → Prop) (pc : Nat) (lv : List (Nat × Value)) (st : List Value) (v : Nat → Int32) (f : Nat → Nat → Int32) (g : Nat → Nat → Int64) : Prop :=
  ∀ (H : Heap) (locs : List Loc) (ls : Array Slot), va_P D vwCl (mW cI cJ cZ a v f g) H → va_D A (mW cI cJ cZ a v f g) → va_S A s.heap H locs → lv_has ls nL lv → W p l e R s m args below meth c H locs 0 0 Q (F0 m pc ls st)
abbrev mB (D : va_G) (cI cJ cZ : ClassId) (a : Nat → Nat) (u : mS) (t : State) : Prop := va_P D vwCl (mW cI cJ cZ a u.1 u.2.1 u.2.2) t.heap ∧ va_K D vwCl (mTys cI cJ cZ) t
def mAv (st : Bool) (a : Nat → Nat) (As : List Value) : List Value := match st with
  | true => As
  | false => .ref (a 0) :: As
abbrev mPre (D : va_G) (cI cJ cZ : ClassId) (a : Nat → Nat) (v : Nat → Int32) (f : Nat → Nat → Int32) (g : Nat → Nat → Int64) (sz : Nat) (U : State) : Prop := U.heap.size = sz ∧ va_P D vwCl (mW cI cJ cZ a v f g) U.heap ∧ va_K D vwCl (mTys cI cJ cZ) U ∧ va_D (fun _ => True) (mW cI cJ cZ a v f g)
abbrev mRm (fr lo : Nat) : Room := { frames := fr, cells := 0, slots := 0, locals := lo }
/-- contracts: an int (or a truth), a long, nothing comes back -/
def mMi (l : Launch) (y : MethodName) (cc : ByteArray) (nL : Nat) (ret : Option FieldType) (fr lo : Nat) (st : Bool) (As : List Value) (v : Nat → Int32) (f : Nat → Nat → Int32) (g : Nat → Nat → Int64) (post : Int32 → mS → Prop) : Prop := ∀ (D : va_G) (cI cJ cZ : ClassId) (a : Nat → Nat) (sz : Nat), Met l y (.code y cc nL ret :: mWs) (mRm fr lo) (va_Pc (mAv st a As) (mPre D cI cJ cZ a v f g sz)) (va_Qi post (mB D cI cJ cZ a) (va_A (mW cI cJ cZ a v f g) sz)) 0 0 (va_A (mW cI cJ cZ a v f g) sz)
def mMl (l : Launch) (y : MethodName) (cc : ByteArray) (nL : Nat) (ret : Option FieldType) (fr lo : Nat) (st : Bool) (As : List Value) (v : Nat → Int32) (f : Nat → Nat → Int32) (g : Nat → Nat → Int64) (post : Int64 → mS → Prop) : Prop := ∀ (D : va_G) (cI cJ cZ : ClassId) (a : Nat → Nat) (sz : Nat), Met l y (.code y cc nL ret :: mWs) (mRm fr lo) (va_Pc (mAv st a As) (mPre D cI cJ cZ a v f g sz)) (va_Ql post (mB D cI cJ cZ a) (va_A (mW cI cJ cZ a v f g) sz)) 0 0 (va_A (mW cI cJ cZ a v f g) sz)
def mMv (l : Launch) (y : MethodName) (cc : ByteArray) (nL : Nat) (ret : Option FieldType) (fr lo : Nat) (st : Bool) (As : List Value) (v : Nat → Int32) (f : Nat → Nat → Int32) (g : Nat → Nat → Int64) (post : mS → Prop) : Prop := ∀ (D : va_G) (cI cJ cZ : ClassId) (a : Nat → Nat) (sz : Nat), Met l y (.code y cc nL ret :: mWs) (mRm fr lo) (va_Pc (mAv st a As) (mPre D cI cJ cZ a v f g sz)) (va_Qv post (mB D cI cJ cZ a) (va_A (mW cI cJ cZ a v f g) sz)) 0 0 (va_A (mW cI cJ cZ a v f g) sz)
section MG
variable {p : Program} {l : Launch} {e : Env} {R : Room} {s : State} {m : MethodId} {args : Array Value} {below : List Frame} {meth : Method} {c : Code} {cc : ByteArray} {nL : Nat} {ret : Option FieldType} {A : Nat → Prop} {D : va_G} {cI cJ cZ : ClassId} {a : Nat → Nat} {Q : State → Prop}
variable {pc : Nat} {lv lv' : List (Nat × Value)} {st : List Value} {v : Nat → Int32} {f : Nat → Nat → Int32} {g : Nat → Nat → Int64}
theorem mg_body {y : MethodName} {fr lo sz : Nat} {sb : Bool} {As : List Value} {Qc : Array Value → State → Outcome → State → Prop} (hy : plainName y.cls = true) (hc : y.cls = RX12) (hlen : (lg_sl (mAv sb a As)).length ≤ nL)
    (body : ∀ (p : Program) (e : Env) (s : State) (m : MethodId) (args : Array Value) (below : List Frame) (meth : Method) (c : Code), s.heap.size = sz → mC p s m args meth c cc nL ret (va_A (mW cI cJ cZ a v f g) sz) D cI cJ cZ → mG p l e (mRm fr lo) s m args below meth c (va_A (mW cI cJ cZ a v f g) sz) D cI cJ cZ a nL (MQ below Qc args s 0 0 (va_A (mW cI cJ cZ a v f g) sz)) 0 (lv_args 0 (mAv sb a As)) [] v f g) : Met l y (.code y cc nL ret :: mWs) (mRm fr lo) (va_Pc (mAv sb a As) (mPre D cI cJ cZ a v f g sz)) Qc 0 0 (va_A (mW cI cJ cZ a v f g) sz) := by
  refine Met.ofW (cc := cc) (maxL := nL) (ret := ret) hy rfl ?_
  intro p e s m args below meth c s₁ B hml hv
  obtain ⟨rfl, hsz, hP, hK, hD0⟩ := hv
  have hts := atoms_spec (ws := Cond.code y cc nL ret :: mWs) B.pre
  have hown : s.vm.findClass RX12 = some m.cls := by rw [← hc]; exact findClass_of_methodNamed B.named
  have hl := lv_entry (mAv sb a As) (n := nL) hlen
  rw [lg_entry_eq]
  subst hsz
  exact body p e s m _ below meth c rfl ⟨B.exec, B.bytes, hml, hown, fun w h => hts w (List.mem_cons_of_mem _ h), hK, B.notSynchronized, B.returns, fun q h => Or.inr h⟩ s.heap [] _ hP hD0.self va_S.rf hl
theorem mg_lv (h : lv = lv') (k : mG p l e R s m args below meth c A D cI cJ cZ a nL Q pc lv' st v f g) : mG p l e R s m args below meth c A D cI cJ cZ a nL Q pc lv st v f g := by rw [h]; exact k
theorem mg_sub (ks : List Nat) (h : lv_pick lv ks = lv') (k : mG p l e R s m args below meth c A D cI cJ cZ a nL Q pc lv' st v f g) : mG p l e R s m args below meth c A D cI cJ cZ a nL Q pc lv st v f g := fun H locs ls hP hD hS hl => k H locs ls hP hD hS (lv_sub hl ks h)
theorem mg_get (C : mC p s m args meth c cc nL ret A D cI cJ cZ) {k idx j : Nat} (hk : k < 100) (hj : mI.getD k 0 = j + 1) (hl : Cond.fieldLink RX12 idx "SearchMillModel" (TX12 k).2.1 (TX12 k).2.2.1 ∈ mWs) (hR : (TX12 k).1 = "SearchMillModel") (d : decode cc pc = .ok (.getfield idx, 3)) (kk : mG p l e R s m args below meth c A D cI cJ cZ a nL Q (pc + 3) lv (.ref (a (j + 1)) :: st) v f g) : mG p l e R s m args below meth c A D cI cJ cZ a nL Q pc lv (.ref (a 0) :: st) v f g := by
  intro H locs ls hP hD hS hlv
  obtain ⟨hx, hb, hml, hown, hts, hK, hlo, hr, hA⟩ := C
  exact va_get (ref := "SearchMillModel") (C := RX12) (T := TX12) (N := 100) (ci := 15) hx hb hts mWs_lay hown hK hP 0 mW_0 rfl k hk (hts _ hl) (fun x h => by rw [← hR]; exact h) ((mF_k hk).trans (by unfold mFv; rw [hj, if_neg (Nat.succ_ne_zero j)])) d (kk H locs ls hP hD hS hlv)
theorem mg_getI (C : mC p s m args meth c cc nL ret A D cI cJ cZ) {k idx : Nat} (hk : k < 100) (hj : mI.getD k 0 = 0) (hl : Cond.fieldLink RX12 idx "SearchMillModel" (TX12 k).2.1 (TX12 k).2.2.1 ∈ mWs) (hR : (TX12 k).1 = "SearchMillModel") (d : decode cc pc = .ok (.getfield idx, 3)) (kk : mG p l e R s m args below meth c A D cI cJ cZ a nL Q (pc + 3) lv (.int (v k) :: st) v f g) : mG p l e R s m args below meth c A D cI cJ cZ a nL Q pc lv (.ref (a 0) :: st) v f g := by
  intro H locs ls hP hD hS hlv
  obtain ⟨hx, hb, hml, hown, hts, hK, hlo, hr, hA⟩ := C
  exact va_get (ref := "SearchMillModel") (C := RX12) (T := TX12) (N := 100) (ci := 15) hx hb hts mWs_lay hown hK hP 0 mW_0 rfl k hk (hts _ hl) (fun x h => by rw [← hR]; exact h) ((mF_k hk).trans (by unfold mFv; rw [if_pos hj])) d (kk H locs ls hP hD hS hlv)
theorem mg_put (C : mC p s m args meth c cc nL ret A D cI cJ cZ) {k idx : Nat} {ty : FieldType} {x : Int32} (hk : k < 100) (hj : mI.getD k 0 = 0) (hl : Cond.fieldLink RX12 idx "SearchMillModel" (TX12 k).2.1 (TX12 k).2.2.1 ∈ mWs) (hR : (TX12 k).1 = "SearchMillModel") (hf : (TX12 k).2.2.2 = false) (hd : parseFieldDescriptor (TX12 k).2.2.1 = some ty) (hn : narrow ty (.int x) = .int x) (hfit : fits ty (.int x) = true) (d : decode cc pc = .ok (.putfield idx, 3)) (kk : mG p l e R s m args below meth c A D cI cJ cZ a nL Q (pc + 3) lv st (upd v k x) f g) : mG p l e R s m args below meth c A D cI cJ cZ a nL Q pc lv (.int x :: .ref (a 0) :: st) v f g := by
  intro H locs ls hP hD hS hlv
  obtain ⟨hx, hb, hml, hown, hts, hK, hlo, hr, hA⟩ := C
  refine va_put (ref := "SearchMillModel") (C := RX12) (T := TX12) (N := 100) (ci := 15) (v := .int x) (ty := ty) hx hb hts mWs_lay tyX12 tyX12_ok nmX12 hown hK hP hD hS 0 mW_0 rfl k hk (hts _ hl) (fun x h => by rw [← hR]; exact h) hf hd hn hfit (by simp [hk]) d (fun H1 locs1 hP1 hD1 hS1 => ?_)
  rw [mW_put hk hj] at hP1 hD1
  exact kk H1 locs1 ls hP1 hD1 hS1 hlv
theorem mg_ialoadA (C : mC p s m args meth c cc nL ret A D cI cJ cZ) {j n : Nat} {i : Int32} (hj : j < 64) (ht : mTy.getD (j + 1) 9 = 0) (hn : mLn.getD (j + 1) 0 = n) (hi : vp_in i n) (d : decode cc pc = .ok (.iaload, 1)) (kk : mG p l e R s m args below meth c A D cI cJ cZ a nL Q (pc + 1) lv (.int (f (j + 1) i.toNatClampNeg) :: st) v f g) : mG p l e R s m args below meth c A D cI cJ cZ a nL Q pc lv (.int i :: .ref (a (j + 1)) :: st) v f g := by
  intro H locs ls hP hD hS hlv
  obtain ⟨hx, hb, hml, hown, hts, hK, hlo, hr, hA⟩ := C
  exact va_iald hx hb hK hP (j + 1) 0 ((mW_s hj).trans (by rw [mE_I ht hn])) rfl hi d (kk H locs ls hP hD hS hlv)
theorem mg_baloadA (C : mC p s m args meth c cc nL ret A D cI cJ cZ) {j n : Nat} {i : Int32} (hj : j < 64) (ht : mTy.getD (j + 1) 9 = 2) (hn : mLn.getD (j + 1) 0 = n) (hi : vp_in i n) (d : decode cc pc = .ok (.baload, 1)) (kk : mG p l e R s m args below meth c A D cI cJ cZ a nL Q (pc + 1) lv (.int (f (j + 1) i.toNatClampNeg) :: st) v f g) : mG p l e R s m args below meth c A D cI cJ cZ a nL Q pc lv (.int i :: .ref (a (j + 1)) :: st) v f g := by
  intro H locs ls hP hD hS hlv
  obtain ⟨hx, hb, hml, hown, hts, hK, hlo, hr, hA⟩ := C
  exact va_zald hx hb hK hP (j + 1) 2 ((mW_s hj).trans (by rw [mE_Z ht hn])) rfl hi d (kk H locs ls hP hD hS hlv)
theorem mg_laloadA (C : mC p s m args meth c cc nL ret A D cI cJ cZ) {j n : Nat} {i : Int32} (hj : j < 64) (ht : mTy.getD (j + 1) 9 = 1) (hn : mLn.getD (j + 1) 0 = n) (hi : vp_in i n) (d : decode cc pc = .ok (.laload, 1)) (kk : mG p l e R s m args below meth c A D cI cJ cZ a nL Q (pc + 1) lv (.long (g (j + 1) i.toNatClampNeg) :: st) v f g) : mG p l e R s m args below meth c A D cI cJ cZ a nL Q pc lv (.int i :: .ref (a (j + 1)) :: st) v f g := by
  intro H locs ls hP hD hS hlv
  obtain ⟨hx, hb, hml, hown, hts, hK, hlo, hr, hA⟩ := C
  exact va_lald hx hb hK hP (j + 1) 1 ((mW_s hj).trans (by rw [mE_J ht hn])) rfl hi d (kk H locs ls hP hD hS hlv)
theorem mg_iastoreA (C : mC p s m args meth c cc nL ret A D cI cJ cZ) {j n : Nat} {i x : Int32} (hj : j < 64) (ht : mTy.getD (j + 1) 9 = 0) (hn : mLn.getD (j + 1) 0 = n) (hi : vp_in i n) (d : decode cc pc = .ok (.iastore, 1)) (kk : mG p l e R s m args below meth c A D cI cJ cZ a nL Q (pc + 1) lv st v (mU f (j + 1) i.toNatClampNeg x) g) : mG p l e R s m args below meth c A D cI cJ cZ a nL Q pc lv (.int x :: .int i :: .ref (a (j + 1)) :: st) v f g := by
  intro H locs ls hP hD hS hlv
  obtain ⟨hx, hb, hml, hown, hts, hK, hlo, hr, hA⟩ := C
  refine va_iast hx hb hK hP hD hS (j + 1) 0 ((mW_s hj).trans (by rw [mE_I ht hn])) rfl hi d (fun H1 locs1 hP1 hD1 hS1 => ?_)
  have hq : (mW cI cJ cZ a v f g).set (j + 1) (a (j + 1), .inl (cI, n, .inl (upd (f (j + 1)) i.toNatClampNeg x))) = mW cI cJ cZ a v (mU f (j + 1) i.toNatClampNeg x) g := mW_row hj (by rw [mE_I ht hn, mU_s]; rfl) (fun b hb => mE_fn (mU_n hb) rfl)
  rw [hq] at hP1 hD1
  exact kk H1 locs1 ls hP1 hD1 hS1 hlv
theorem mg_bastoreA (C : mC p s m args meth c cc nL ret A D cI cJ cZ) {j n : Nat} {i x : Int32} (hj : j < 64) (ht : mTy.getD (j + 1) 9 = 2) (hn : mLn.getD (j + 1) 0 = n) (hi : vp_in i n) (hx2 : vp_nar .boolean x = x) (d : decode cc pc = .ok (.bastore, 1)) (kk : mG p l e R s m args below meth c A D cI cJ cZ a nL Q (pc + 1) lv st v (mU f (j + 1) i.toNatClampNeg x) g) : mG p l e R s m args below meth c A D cI cJ cZ a nL Q pc lv (.int x :: .int i :: .ref (a (j + 1)) :: st) v f g := by
  intro H locs ls hP hD hS hlv
  obtain ⟨hx, hb, hml, hown, hts, hK, hlo, hr, hA⟩ := C
  refine va_zast hx hb hK hP hD hS (j + 1) 2 ((mW_s hj).trans (by rw [mE_Z ht hn])) rfl hi d (fun H1 locs1 hP1 hD1 hS1 => ?_)
  rw [hx2] at hP1 hD1
  have hq : (mW cI cJ cZ a v f g).set (j + 1) (a (j + 1), .inl (cZ, n, .inl (upd (f (j + 1)) i.toNatClampNeg x))) = mW cI cJ cZ a v (mU f (j + 1) i.toNatClampNeg x) g := mW_row hj (by rw [mE_Z ht hn, mU_s]; rfl) (fun b hb => mE_fn (mU_n hb) rfl)
  rw [hq] at hP1 hD1
  exact kk H1 locs1 ls hP1 hD1 hS1 hlv
theorem mg_lastoreA (C : mC p s m args meth c cc nL ret A D cI cJ cZ) {j n : Nat} {i : Int32} {x : Int64} (hj : j < 64) (ht : mTy.getD (j + 1) 9 = 1) (hn : mLn.getD (j + 1) 0 = n) (hi : vp_in i n) (d : decode cc pc = .ok (.lastore, 1)) (kk : mG p l e R s m args below meth c A D cI cJ cZ a nL Q (pc + 1) lv st v f (mU g (j + 1) i.toNatClampNeg x)) : mG p l e R s m args below meth c A D cI cJ cZ a nL Q pc lv (.long x :: .int i :: .ref (a (j + 1)) :: st) v f g := by
  intro H locs ls hP hD hS hlv
  obtain ⟨hx, hb, hml, hown, hts, hK, hlo, hr, hA⟩ := C
  refine va_last hx hb hK hP hD hS (j + 1) 1 ((mW_s hj).trans (by rw [mE_J ht hn])) rfl hi d (fun H1 locs1 hP1 hD1 hS1 => ?_)
  have hq : (mW cI cJ cZ a v f g).set (j + 1) (a (j + 1), .inl (cJ, n, .inr (.inl (vp_updL (g (j + 1)) i.toNatClampNeg x)))) = mW cI cJ cZ a v f (mU g (j + 1) i.toNatClampNeg x) := mW_row hj (by rw [mE_J ht hn, mU_s]; rfl) (fun b hb => mE_fn rfl (mU_n hb))
  rw [hq] at hP1 hD1
  exact kk H1 locs1 ls hP1 hD1 hS1 hlv
theorem mg_iret (C : mC p s m args meth c cc nL (some .int) A D cI cJ cZ) {x : Int32} {post : Int32 → mS → Prop} (h : post x (v, f, g)) (d : decode cc pc = .ok (.ireturn, 1)) : mG p l e R s m args below meth c A D cI cJ cZ a nL (MQ below (va_Qi post (mB D cI cJ cZ a) A) args s 0 0 A) pc lv [.int x] v f g := by
  intro H locs ls hP hD hS hlv
  obtain ⟨hx, hb, hml, hown, hts, hK, hlo, hr, hA⟩ := C
  exact W.iret hx hb hr (fun t ht hW => ⟨⟨x, (v, f, g), rfl, h, by rw [ht]; exact hP, va_K.moved hW.alike hK⟩, hS.F ht⟩) hS.2.2 d hlo
theorem mg_zret (C : mC p s m args meth c cc nL (some .boolean) A D cI cJ cZ) {x : Int32} {post : Int32 → mS → Prop} (hn : narrow .boolean (.int x) = .int x) (h : post x (v, f, g)) (d : decode cc pc = .ok (.ireturn, 1)) : mG p l e R s m args below meth c A D cI cJ cZ a nL (MQ below (va_Qi post (mB D cI cJ cZ a) A) args s 0 0 A) pc lv [.int x] v f g := by
  intro H locs ls hP hD hS hlv
  obtain ⟨hx, hb, hml, hown, hts, hK, hlo, hr, hA⟩ := C
  exact W.zret hx hb hr hn (fun t ht hW => ⟨⟨x, (v, f, g), rfl, h, by rw [ht]; exact hP, va_K.moved hW.alike hK⟩, hS.F ht⟩) hS.2.2 d hlo
theorem mg_cret (C : mC p s m args meth c cc nL (some .char) A D cI cJ cZ) {x : Int32} {post : Int32 → mS → Prop} (hn : narrow .char (.int x) = .int x) (h : post x (v, f, g)) (d : decode cc pc = .ok (.ireturn, 1)) : mG p l e R s m args below meth c A D cI cJ cZ a nL (MQ below (va_Qi post (mB D cI cJ cZ a) A) args s 0 0 A) pc lv [.int x] v f g := by
  intro H locs ls hP hD hS hlv
  obtain ⟨hx, hb, hml, hown, hts, hK, hlo, hr, hA⟩ := C
  exact W.zret hx hb hr hn (fun t ht hW => ⟨⟨x, (v, f, g), rfl, h, by rw [ht]; exact hP, va_K.moved hW.alike hK⟩, hS.F ht⟩) hS.2.2 d hlo
theorem mg_lret (C : mC p s m args meth c cc nL (some .long) A D cI cJ cZ) {x : Int64} {post : Int64 → mS → Prop} (h : post x (v, f, g)) (d : decode cc pc = .ok (.lreturn, 1)) : mG p l e R s m args below meth c A D cI cJ cZ a nL (MQ below (va_Ql post (mB D cI cJ cZ a) A) args s 0 0 A) pc lv [.long x] v f g := by
  intro H locs ls hP hD hS hlv
  obtain ⟨hx, hb, hml, hown, hts, hK, hlo, hr, hA⟩ := C
  exact W.lret hx hb hr (fun t ht hW => ⟨⟨x, (v, f, g), rfl, h, by rw [ht]; exact hP, va_K.moved hW.alike hK⟩, hS.F ht⟩) hS.2.2 d hlo
theorem mg_vret (C : mC p s m args meth c cc nL none A D cI cJ cZ) {post : mS → Prop} (h : post (v, f, g)) (d : decode cc pc = .ok (.return_, 1)) : mG p l e R s m args below meth c A D cI cJ cZ a nL (MQ below (va_Qv post (mB D cI cJ cZ a) A) args s 0 0 A) pc lv [] v f g := by
  intro H locs ls hP hD hS hlv
  obtain ⟨hx, hb, hml, hown, hts, hK, hlo, hr, hA⟩ := C
  exact W.vret hx hb hr (fun t ht hW => ⟨⟨(v, f, g), rfl, h, by rw [ht]; exact hP, va_K.moved hW.alike hK⟩, hS.F ht⟩) hS.2.2 d hlo
theorem mcal_good {sb : Bool} {idx n nL' : Nat} {y : MethodName} {cc' : ByteArray} {ret' : Option FieldType} (h : mCal sb idx y cc' nL' ret' n) : GoodIn mWs (Cond.code y cc' nL' ret' :: mWs) := by
  intro w hw
  rcases List.mem_cons.mp hw with rfl | hw
  · exact mWs_good _ h.2.2.2.1
  · exact mWs_good _ hw
theorem m_pre {v : Nat → Int32} {f : Nat → Nat → Int32} {g : Nat → Nat → Int64} {H : Heap} {av : List Value} (hK : va_K D vwCl (mTys cI cJ cZ) s) (hP : va_P D vwCl (mW cI cJ cZ a v f g) H) (hD : va_D A (mW cI cJ cZ a v f g)) : FrameBlind (va_Pc av (mPre D cI cJ cZ a v f g H.size)) ∧ ∀ U : State, U.heap = H → s.WarmedH U.vm → va_Pc av (mPre D cI cJ cZ a v f g H.size) av.toArray U :=
  ⟨fun a' U g' mk q => by obtain ⟨q0, q1, qP, qK, qD⟩ := q; exact ⟨q0, q1, qP, va_K.moved (u := U) (U := U.calling g' mk a') (Vm.Alike.refl U.vm) qK, qD⟩, fun U hU hW => ⟨rfl, by rw [hU], by rw [hU]; exact hP, va_K.moved hW.alike hK, hD.weaken (fun _ _ _ _ => trivial)⟩⟩
theorem m_free {v : Nat → Int32} {f : Nat → Nat → Int32} {g : Nat → Nat → Int64} {H : Heap} {locs : List Loc} (hD : va_D A (mW cI cJ cZ a v f g)) (hS : va_S A s.heap H locs) (hA : ∀ q, s.heap.size ≤ q → A q) : ∀ q, va_A (mW cI cJ cZ a v f g) H.size q → A q := by
  intro q h
  rcases h with ⟨k, e, h⟩ | h
  · exact hD.2 k _ h
  · exact hA q (Nat.le_trans hS.1 h)
theorem mg_calli (C : mC p s m args meth c cc nL ret A D cI cJ cZ) {y : MethodName} {cc' : ByteArray} {nL' idx n fr lo F L : Nat} {ret' : Option FieldType} {As : List Value} {stk : List Value} {post : Int32 → mS → Prop} (hM : mMi l y cc' nL' ret' fr lo false As v f g post) (hc : mCal false idx y cc' nL' ret' n) (hn : As.length = n) (hR : fr + 1 ≤ F ∧ 8 + (nL' + 11) + lo ≤ L) (hst : stk = As.reverse ++ .ref (a 0) :: st) (hsz : (st.map fun v => v.category).sum ≤ 8) (d : decode cc pc = .ok (.invokevirtual idx, 3)) (kk : ∀ (r : Int32) (v' : Nat → Int32) (f' : Nat → Nat → Int32) (g' : Nat → Nat → Int64), post r (v', f', g') → mG p l e (mRm F L) s m args below meth c A D cI cJ cZ a nL Q (pc + 3) lv (.int r :: st) v' f' g') : mG p l e (mRm F L) s m args below meth c A D cI cJ cZ a nL Q pc lv stk v f g := by
  intro H locs ls hP hD hS hlv
  obtain ⟨hx, hb, hml, hown, hts, hK, hlo, hr, hA⟩ := C
  have hF := m_free hD hS hA
  obtain ⟨h1, h2, h3, h4, h5⟩ := hc
  have hb1 : CallB (mRm F L) s args RX12 idx y cc' nL' ret' (Cond.code y cc' nL' ret' :: mWs) (mRm fr lo) 0 0 n := callB_of n hts (mcal_good ⟨h1, h2, h3, h4, h5⟩) rfl rfl rfl (by rw [h1]; exact hts _ mWs_ini) (hts _ h2) ⟨by rw [h1]; decide, by rw [h1]; decide, h5⟩ hR
  refine va_calli (va_runV (As := As) (rest := st) (C := RX12) ⟨hx, hb, hml, hown, hts⟩ (hM D cI cJ cZ a H.size) ⟨hb1, hts _ h3.1, hts _ h3.2⟩ ⟨(m_pre hK hP hD).1, va_recv hK hP (ci := 15) (q0 := 0) rfl mW_0, (m_pre (av := .ref (a 0) :: As) hK hP hD).2⟩ rfl hn hlv.1 hst (lv_room hsz) d ⟨Nat.zero_le _, Nat.zero_le _⟩) hS (fun q _ h => hF q h) hF (fun r u t H1 locs1 ht hvm hw hB hz1 hk1 hS1 => ?_)
  obtain ⟨hP1, hK1⟩ := hB
  rw [ht] at hP1
  exact kk r u.1 u.2.1 u.2.2 hw H1 locs1 ls hP1 (mW_D hD) hS1 hlv
theorem mg_calll (C : mC p s m args meth c cc nL ret A D cI cJ cZ) {y : MethodName} {cc' : ByteArray} {nL' idx n fr lo F L : Nat} {ret' : Option FieldType} {As : List Value} {stk : List Value} {post : Int64 → mS → Prop} (hM : mMl l y cc' nL' ret' fr lo false As v f g post) (hc : mCal false idx y cc' nL' ret' n) (hn : As.length = n) (hR : fr + 1 ≤ F ∧ 8 + (nL' + 11) + lo ≤ L) (hst : stk = As.reverse ++ .ref (a 0) :: st) (hsz : (st.map fun v => v.category).sum ≤ 8) (d : decode cc pc = .ok (.invokevirtual idx, 3)) (kk : ∀ (r : Int64) (v' : Nat → Int32) (f' : Nat → Nat → Int32) (g' : Nat → Nat → Int64), post r (v', f', g') → mG p l e (mRm F L) s m args below meth c A D cI cJ cZ a nL Q (pc + 3) lv (.long r :: st) v' f' g') : mG p l e (mRm F L) s m args below meth c A D cI cJ cZ a nL Q pc lv stk v f g := by
  intro H locs ls hP hD hS hlv
  obtain ⟨hx, hb, hml, hown, hts, hK, hlo, hr, hA⟩ := C
  have hF := m_free hD hS hA
  obtain ⟨h1, h2, h3, h4, h5⟩ := hc
  have hb1 : CallB (mRm F L) s args RX12 idx y cc' nL' ret' (Cond.code y cc' nL' ret' :: mWs) (mRm fr lo) 0 0 n := callB_of n hts (mcal_good ⟨h1, h2, h3, h4, h5⟩) rfl rfl rfl (by rw [h1]; exact hts _ mWs_ini) (hts _ h2) ⟨by rw [h1]; decide, by rw [h1]; decide, h5⟩ hR
  refine va_calll (va_runV (As := As) (rest := st) (C := RX12) ⟨hx, hb, hml, hown, hts⟩ (hM D cI cJ cZ a H.size) ⟨hb1, hts _ h3.1, hts _ h3.2⟩ ⟨(m_pre hK hP hD).1, va_recv hK hP (ci := 15) (q0 := 0) rfl mW_0, (m_pre (av := .ref (a 0) :: As) hK hP hD).2⟩ rfl hn hlv.1 hst (lv_room hsz) d ⟨Nat.zero_le _, Nat.zero_le _⟩) hS (fun q _ h => hF q h) hF (fun r u t H1 locs1 ht hvm hw hB hz1 hk1 hS1 => ?_)
  obtain ⟨hP1, hK1⟩ := hB
  rw [ht] at hP1
  exact kk r u.1 u.2.1 u.2.2 hw H1 locs1 ls hP1 (mW_D hD) hS1 hlv
theorem mg_callv (C : mC p s m args meth c cc nL ret A D cI cJ cZ) {y : MethodName} {cc' : ByteArray} {nL' idx n fr lo F L : Nat} {ret' : Option FieldType} {As : List Value} {stk : List Value} {post : mS → Prop} (hM : mMv l y cc' nL' ret' fr lo false As v f g post) (hc : mCal false idx y cc' nL' ret' n) (hn : As.length = n) (hR : fr + 1 ≤ F ∧ 8 + (nL' + 11) + lo ≤ L) (hst : stk = As.reverse ++ .ref (a 0) :: st) (hsz : (st.map fun v => v.category).sum ≤ 8) (d : decode cc pc = .ok (.invokevirtual idx, 3)) (kk : ∀ (v' : Nat → Int32) (f' : Nat → Nat → Int32) (g' : Nat → Nat → Int64), post (v', f', g') → mG p l e (mRm F L) s m args below meth c A D cI cJ cZ a nL Q (pc + 3) lv st v' f' g') : mG p l e (mRm F L) s m args below meth c A D cI cJ cZ a nL Q pc lv stk v f g := by
  intro H locs ls hP hD hS hlv
  obtain ⟨hx, hb, hml, hown, hts, hK, hlo, hr, hA⟩ := C
  have hF := m_free hD hS hA
  obtain ⟨h1, h2, h3, h4, h5⟩ := hc
  have hb1 : CallB (mRm F L) s args RX12 idx y cc' nL' ret' (Cond.code y cc' nL' ret' :: mWs) (mRm fr lo) 0 0 n := callB_of n hts (mcal_good ⟨h1, h2, h3, h4, h5⟩) rfl rfl rfl (by rw [h1]; exact hts _ mWs_ini) (hts _ h2) ⟨by rw [h1]; decide, by rw [h1]; decide, h5⟩ hR
  refine va_callv (va_runV (As := As) (rest := st) (C := RX12) ⟨hx, hb, hml, hown, hts⟩ (hM D cI cJ cZ a H.size) ⟨hb1, hts _ h3.1, hts _ h3.2⟩ ⟨(m_pre hK hP hD).1, va_recv hK hP (ci := 15) (q0 := 0) rfl mW_0, (m_pre (av := .ref (a 0) :: As) hK hP hD).2⟩ rfl hn hlv.1 hst (lv_room hsz) d ⟨Nat.zero_le _, Nat.zero_le _⟩) hS (fun q _ h => hF q h) hF (fun u t H1 locs1 ht hvm hw hB hz1 hk1 hS1 => ?_)
  obtain ⟨hP1, hK1⟩ := hB
  rw [ht] at hP1
  exact kk u.1 u.2.1 u.2.2 hw H1 locs1 ls hP1 (mW_D hD) hS1 hlv
theorem mg_callsi (C : mC p s m args meth c cc nL ret A D cI cJ cZ) {y : MethodName} {cc' : ByteArray} {nL' idx n fr lo F L : Nat} {ret' : Option FieldType} {As : List Value} {stk : List Value} {post : Int32 → mS → Prop} (hM : mMi l y cc' nL' ret' fr lo true As v f g post) (hc : mCal true idx y cc' nL' ret' n) (hn : As.length = n) (hR : fr + 1 ≤ F ∧ 8 + (nL' + 11) + lo ≤ L) (hst : stk = As.reverse ++ st) (hsz : (st.map fun v => v.category).sum ≤ 8) (d : decode cc pc = .ok (.invokestatic idx, 3)) (kk : ∀ (r : Int32) (v' : Nat → Int32) (f' : Nat → Nat → Int32) (g' : Nat → Nat → Int64), post r (v', f', g') → mG p l e (mRm F L) s m args below meth c A D cI cJ cZ a nL Q (pc + 3) lv (.int r :: st) v' f' g') : mG p l e (mRm F L) s m args below meth c A D cI cJ cZ a nL Q pc lv stk v f g := by
  intro H locs ls hP hD hS hlv
  obtain ⟨hx, hb, hml, hown, hts, hK, hlo, hr, hA⟩ := C
  have hF := m_free hD hS hA
  obtain ⟨h1, h2, h3, h4, h5⟩ := hc
  have hb1 : CallB (mRm F L) s args RX12 idx y cc' nL' ret' (Cond.code y cc' nL' ret' :: mWs) (mRm fr lo) 0 0 n := callB_of n hts (mcal_good ⟨h1, h2, h3, h4, h5⟩) rfl rfl rfl (by rw [h1]; exact hts _ mWs_ini) (hts _ h2) ⟨by rw [h1]; decide, by rw [h1]; decide, h5⟩ hR
  refine va_calli (va_runS (As := As) (rest := st) ⟨hx, hb, hml, hown, hts⟩ (hM D cI cJ cZ a H.size) ⟨hb1, hts _ h3⟩ ⟨(m_pre hK hP hD).1, (m_pre (av := As) hK hP hD).2⟩ rfl hn hlv.1 hst (lv_room hsz) d ⟨Nat.zero_le _, Nat.zero_le _⟩) hS (fun q _ h => hF q h) hF (fun r u t H1 locs1 ht hvm hw hB hz1 hk1 hS1 => ?_)
  obtain ⟨hP1, hK1⟩ := hB
  rw [ht] at hP1
  exact kk r u.1 u.2.1 u.2.2 hw H1 locs1 ls hP1 (mW_D hD) hS1 hlv

theorem mg_iadd (C : mC p s m args meth c cc nL ret A D cI cJ cZ) {x y : Int32} (d : decode cc pc = .ok (.iadd, 1)) (kk : mG p l e R s m args below meth c A D cI cJ cZ a nL Q (pc + 1) lv (.int (x + y) :: st) v f g) : mG p l e R s m args below meth c A D cI cJ cZ a nL Q pc lv (.int y :: .int x :: st) v f g := fun H locs ls hP hD hS hl => lv_iadd C.1 C.2.1 d (kk H locs ls hP hD hS hl)
theorem mg_isub (C : mC p s m args meth c cc nL ret A D cI cJ cZ) {x y : Int32} (d : decode cc pc = .ok (.isub, 1)) (kk : mG p l e R s m args below meth c A D cI cJ cZ a nL Q (pc + 1) lv (.int (x - y) :: st) v f g) : mG p l e R s m args below meth c A D cI cJ cZ a nL Q pc lv (.int y :: .int x :: st) v f g := fun H locs ls hP hD hS hl => lv_isub C.1 C.2.1 d (kk H locs ls hP hD hS hl)
theorem mg_imul (C : mC p s m args meth c cc nL ret A D cI cJ cZ) {x y : Int32} (d : decode cc pc = .ok (.imul, 1)) (kk : mG p l e R s m args below meth c A D cI cJ cZ a nL Q (pc + 1) lv (.int (x * y) :: st) v f g) : mG p l e R s m args below meth c A D cI cJ cZ a nL Q pc lv (.int y :: .int x :: st) v f g := fun H locs ls hP hD hS hl => lv_imul C.1 C.2.1 d (kk H locs ls hP hD hS hl)
theorem mg_iand (C : mC p s m args meth c cc nL ret A D cI cJ cZ) {x y : Int32} (d : decode cc pc = .ok (.iand, 1)) (kk : mG p l e R s m args below meth c A D cI cJ cZ a nL Q (pc + 1) lv (.int (x &&& y) :: st) v f g) : mG p l e R s m args below meth c A D cI cJ cZ a nL Q pc lv (.int y :: .int x :: st) v f g := fun H locs ls hP hD hS hl => lv_iand C.1 C.2.1 d (kk H locs ls hP hD hS hl)
theorem mg_ior (C : mC p s m args meth c cc nL ret A D cI cJ cZ) {x y : Int32} (d : decode cc pc = .ok (.ior, 1)) (kk : mG p l e R s m args below meth c A D cI cJ cZ a nL Q (pc + 1) lv (.int (x ||| y) :: st) v f g) : mG p l e R s m args below meth c A D cI cJ cZ a nL Q pc lv (.int y :: .int x :: st) v f g := fun H locs ls hP hD hS hl => lv_ior C.1 C.2.1 d (kk H locs ls hP hD hS hl)
theorem mg_ishl (C : mC p s m args meth c cc nL ret A D cI cJ cZ) {x y : Int32} (d : decode cc pc = .ok (.ishl, 1)) (kk : mG p l e R s m args below meth c A D cI cJ cZ a nL Q (pc + 1) lv (.int (x <<< (y &&& 31)) :: st) v f g) : mG p l e R s m args below meth c A D cI cJ cZ a nL Q pc lv (.int y :: .int x :: st) v f g := fun H locs ls hP hD hS hl => lv_ishl C.1 C.2.1 d (kk H locs ls hP hD hS hl)
theorem mg_ishr (C : mC p s m args meth c cc nL ret A D cI cJ cZ) {x y : Int32} (d : decode cc pc = .ok (.ishr, 1)) (kk : mG p l e R s m args below meth c A D cI cJ cZ a nL Q (pc + 1) lv (.int (x >>> (y &&& 31)) :: st) v f g) : mG p l e R s m args below meth c A D cI cJ cZ a nL Q pc lv (.int y :: .int x :: st) v f g := fun H locs ls hP hD hS hl => lv_ishr C.1 C.2.1 d (kk H locs ls hP hD hS hl)
theorem mg_idiv (C : mC p s m args meth c cc nL ret A D cI cJ cZ) {x y : Int32} (hne : ¬ y = 0) (d : decode cc pc = .ok (.idiv, 1)) (kk : mG p l e R s m args below meth c A D cI cJ cZ a nL Q (pc + 1) lv (.int (x / y) :: st) v f g) : mG p l e R s m args below meth c A D cI cJ cZ a nL Q pc lv (.int y :: .int x :: st) v f g := fun H locs ls hP hD hS hl => lv_idiv C.1 C.2.1 d hne (kk H locs ls hP hD hS hl)
theorem mg_irem (C : mC p s m args meth c cc nL ret A D cI cJ cZ) {x y : Int32} (hne : ¬ y = 0) (d : decode cc pc = .ok (.irem, 1)) (kk : mG p l e R s m args below meth c A D cI cJ cZ a nL Q (pc + 1) lv (.int (x - x / y * y) :: st) v f g) : mG p l e R s m args below meth c A D cI cJ cZ a nL Q pc lv (.int y :: .int x :: st) v f g := fun H locs ls hP hD hS hl => lv_irem C.1 C.2.1 d hne (kk H locs ls hP hD hS hl)
theorem mg_ladd (C : mC p s m args meth c cc nL ret A D cI cJ cZ) {x y : Int64} (d : decode cc pc = .ok (.ladd, 1)) (kk : mG p l e R s m args below meth c A D cI cJ cZ a nL Q (pc + 1) lv (.long (x + y) :: st) v f g) : mG p l e R s m args below meth c A D cI cJ cZ a nL Q pc lv (.long y :: .long x :: st) v f g := fun H locs ls hP hD hS hl => lv_ladd C.1 C.2.1 d (kk H locs ls hP hD hS hl)
theorem mg_lmul (C : mC p s m args meth c cc nL ret A D cI cJ cZ) {x y : Int64} (d : decode cc pc = .ok (.lmul, 1)) (kk : mG p l e R s m args below meth c A D cI cJ cZ a nL Q (pc + 1) lv (.long (x * y) :: st) v f g) : mG p l e R s m args below meth c A D cI cJ cZ a nL Q pc lv (.long y :: .long x :: st) v f g := fun H locs ls hP hD hS hl => lv_lmul C.1 C.2.1 d (kk H locs ls hP hD hS hl)
theorem mg_lsub (C : mC p s m args meth c cc nL ret A D cI cJ cZ) {x y : Int64} (d : decode cc pc = .ok (.lsub, 1)) (kk : mG p l e R s m args below meth c A D cI cJ cZ a nL Q (pc + 1) lv (.long (x - y) :: st) v f g) : mG p l e R s m args below meth c A D cI cJ cZ a nL Q pc lv (.long y :: .long x :: st) v f g := fun H locs ls hP hD hS hl => lv_lsub C.1 C.2.1 d (kk H locs ls hP hD hS hl)
theorem mg_ldiv (C : mC p s m args meth c cc nL ret A D cI cJ cZ) {x y : Int64} (hne : ¬ y = 0) (d : decode cc pc = .ok (.ldiv, 1)) (kk : mG p l e R s m args below meth c A D cI cJ cZ a nL Q (pc + 1) lv (.long (x / y) :: st) v f g) : mG p l e R s m args below meth c A D cI cJ cZ a nL Q pc lv (.long y :: .long x :: st) v f g := fun H locs ls hP hD hS hl => lv_ldiv C.1 C.2.1 d hne (kk H locs ls hP hD hS hl)
theorem mg_lrem (C : mC p s m args meth c cc nL ret A D cI cJ cZ) {x y : Int64} (hne : ¬ y = 0) (d : decode cc pc = .ok (.lrem, 1)) (kk : mG p l e R s m args below meth c A D cI cJ cZ a nL Q (pc + 1) lv (.long (x - x / y * y) :: st) v f g) : mG p l e R s m args below meth c A D cI cJ cZ a nL Q pc lv (.long y :: .long x :: st) v f g := fun H locs ls hP hD hS hl => lv_lrem C.1 C.2.1 d hne (kk H locs ls hP hD hS hl)
theorem mg_iconst (C : mC p s m args meth c cc nL ret A D cI cJ cZ) {n : Int} {x : Int32} (h : Int32.ofInt n = x) (d : decode cc pc = .ok (.iconst n, 1)) (kk : mG p l e R s m args below meth c A D cI cJ cZ a nL Q (pc + 1) lv (.int x :: st) v f g) : mG p l e R s m args below meth c A D cI cJ cZ a nL Q pc lv (st) v f g := fun H locs ls hP hD hS hl => lv_iconst C.1 C.2.1 d h (kk H locs ls hP hD hS hl)
theorem mg_lconst (C : mC p s m args meth c cc nL ret A D cI cJ cZ) {n : Fin 2} {x : Int64} (h : Int64.ofNat (n : Nat) = x) (d : decode cc pc = .ok (.lconst n, 1)) (kk : mG p l e R s m args below meth c A D cI cJ cZ a nL Q (pc + 1) lv (.long x :: st) v f g) : mG p l e R s m args below meth c A D cI cJ cZ a nL Q pc lv (st) v f g := fun H locs ls hP hD hS hl => lv_lconst C.1 C.2.1 d h (kk H locs ls hP hD hS hl)
theorem mg_bipush (C : mC p s m args meth c cc nL ret A D cI cJ cZ) {n : Int} {x : Int32} (h : (Int8.ofInt n).toInt32 = x) (d : decode cc pc = .ok (.bipush n, 2)) (kk : mG p l e R s m args below meth c A D cI cJ cZ a nL Q (pc + 2) lv (.int x :: st) v f g) : mG p l e R s m args below meth c A D cI cJ cZ a nL Q pc lv (st) v f g := fun H locs ls hP hD hS hl => lv_bipush C.1 C.2.1 d h (kk H locs ls hP hD hS hl)
theorem mg_sipush (C : mC p s m args meth c cc nL ret A D cI cJ cZ) {n : Int} {x : Int32} (h : (Int16.ofInt n).toInt32 = x) (d : decode cc pc = .ok (.sipush n, 3)) (kk : mG p l e R s m args below meth c A D cI cJ cZ a nL Q (pc + 3) lv (.int x :: st) v f g) : mG p l e R s m args below meth c A D cI cJ cZ a nL Q pc lv (st) v f g := fun H locs ls hP hD hS hl => lv_sipush C.1 C.2.1 d h (kk H locs ls hP hD hS hl)
theorem mg_ldc2 (C : mC p s m args meth c cc nL ret A D cI cJ cZ) {idx : Nat} {x : Int64} (h : Cond.constantLong RX12 idx x ∈ mWs) (d : decode cc pc = .ok (.ldc2_w idx, 3)) (kk : mG p l e R s m args below meth c A D cI cJ cZ a nL Q (pc + 3) lv (.long x :: st) v f g) : mG p l e R s m args below meth c A D cI cJ cZ a nL Q pc lv (st) v f g := fun H locs ls hP hD hS hl => lv_ldc2 C.1 C.2.1 C.2.2.2.1 (C.2.2.2.2.1 _ h) d (kk H locs ls hP hD hS hl)
theorem mg_iload (C : mC p s m args meth c cc nL ret A D cI cJ cZ) {i : Nat} {x : Int32} (k : Nat) (h : lv[k]? = some (i, .int x)) (d : decode cc pc = .ok (.iload i, 2)) (kk : mG p l e R s m args below meth c A D cI cJ cZ a nL Q (pc + 2) lv (.int x :: st) v f g) : mG p l e R s m args below meth c A D cI cJ cZ a nL Q pc lv (st) v f g := fun H locs ls hP hD hS hl => lv_iload C.1 C.2.1 d (lv_at hl k h) (kk H locs ls hP hD hS hl)
theorem mg_iload_n (C : mC p s m args meth c cc nL ret A D cI cJ cZ) {j : Fin 4} {i : Nat} {x : Int32} (hi : (j : Nat) = i) (k : Nat) (h : lv[k]? = some (i, .int x)) (d : decode cc pc = .ok (.iload_n j, 1)) (kk : mG p l e R s m args below meth c A D cI cJ cZ a nL Q (pc + 1) lv (.int x :: st) v f g) : mG p l e R s m args below meth c A D cI cJ cZ a nL Q pc lv (st) v f g := fun H locs ls hP hD hS hl => lv_iload_n C.1 C.2.1 d hi (lv_at hl k h) (kk H locs ls hP hD hS hl)
theorem mg_lload (C : mC p s m args meth c cc nL ret A D cI cJ cZ) {i : Nat} {x : Int64} (k : Nat) (h : lv[k]? = some (i, .long x)) (d : decode cc pc = .ok (.lload i, 2)) (kk : mG p l e R s m args below meth c A D cI cJ cZ a nL Q (pc + 2) lv (.long x :: st) v f g) : mG p l e R s m args below meth c A D cI cJ cZ a nL Q pc lv (st) v f g := fun H locs ls hP hD hS hl => lv_lload C.1 C.2.1 d (lv_at hl k h) (kk H locs ls hP hD hS hl)
theorem mg_lload_n (C : mC p s m args meth c cc nL ret A D cI cJ cZ) {j : Fin 4} {i : Nat} {x : Int64} (hi : (j : Nat) = i) (k : Nat) (h : lv[k]? = some (i, .long x)) (d : decode cc pc = .ok (.lload_n j, 1)) (kk : mG p l e R s m args below meth c A D cI cJ cZ a nL Q (pc + 1) lv (.long x :: st) v f g) : mG p l e R s m args below meth c A D cI cJ cZ a nL Q pc lv (st) v f g := fun H locs ls hP hD hS hl => lv_lload_n C.1 C.2.1 d hi (lv_at hl k h) (kk H locs ls hP hD hS hl)
theorem mg_aload (C : mC p s m args meth c cc nL ret A D cI cJ cZ) {i : Nat} {x : Nat} (k : Nat) (h : lv[k]? = some (i, .ref x)) (d : decode cc pc = .ok (.aload i, 2)) (kk : mG p l e R s m args below meth c A D cI cJ cZ a nL Q (pc + 2) lv (.ref x :: st) v f g) : mG p l e R s m args below meth c A D cI cJ cZ a nL Q pc lv (st) v f g := fun H locs ls hP hD hS hl => lv_aload C.1 C.2.1 d (lv_at hl k h) (kk H locs ls hP hD hS hl)
theorem mg_aload_n (C : mC p s m args meth c cc nL ret A D cI cJ cZ) {j : Fin 4} {i : Nat} {x : Nat} (hi : (j : Nat) = i) (k : Nat) (h : lv[k]? = some (i, .ref x)) (d : decode cc pc = .ok (.aload_n j, 1)) (kk : mG p l e R s m args below meth c A D cI cJ cZ a nL Q (pc + 1) lv (.ref x :: st) v f g) : mG p l e R s m args below meth c A D cI cJ cZ a nL Q pc lv (st) v f g := fun H locs ls hP hD hS hl => lv_aload_n C.1 C.2.1 d hi (lv_at hl k h) (kk H locs ls hP hD hS hl)
theorem mg_istore (C : mC p s m args meth c cc nL ret A D cI cJ cZ) {i : Nat} {x : Int32} (hn : i < nL) (h : (i, Value.int x) :: lv.filter (fun q => !(q.1 == i) && !(q.1 + 1 == i && q.2.category == 2)) = lv') (d : decode cc pc = .ok (.istore i, 2)) (kk : mG p l e R s m args below meth c A D cI cJ cZ a nL Q (pc + 2) lv' (st) v f g) : mG p l e R s m args below meth c A D cI cJ cZ a nL Q pc lv (.int x :: st) v f g := fun H locs ls hP hD hS hl => lv_istore C.1 C.2.1 d hl hn h (fun ls' hl' => kk H locs ls' hP hD hS hl')
theorem mg_istore_n (C : mC p s m args meth c cc nL ret A D cI cJ cZ) {j : Fin 4} {i : Nat} {x : Int32} (hi : (j : Nat) = i) (hn : i < nL) (h : (i, Value.int x) :: lv.filter (fun q => !(q.1 == i) && !(q.1 + 1 == i && q.2.category == 2)) = lv') (d : decode cc pc = .ok (.istore_n j, 1)) (kk : mG p l e R s m args below meth c A D cI cJ cZ a nL Q (pc + 1) lv' (st) v f g) : mG p l e R s m args below meth c A D cI cJ cZ a nL Q pc lv (.int x :: st) v f g := fun H locs ls hP hD hS hl => lv_istore_n C.1 C.2.1 d hi hl hn h (fun ls' hl' => kk H locs ls' hP hD hS hl')
theorem mg_lstore (C : mC p s m args meth c cc nL ret A D cI cJ cZ) {i : Nat} {x : Int64} (hn : i + 1 < nL) (h : (i, Value.long x) :: lv.filter (fun q => !(q.1 == i) && (!(q.1 == i + 1) && !(q.1 + 1 == i && q.2.category == 2))) = lv') (d : decode cc pc = .ok (.lstore i, 2)) (kk : mG p l e R s m args below meth c A D cI cJ cZ a nL Q (pc + 2) lv' (st) v f g) : mG p l e R s m args below meth c A D cI cJ cZ a nL Q pc lv (.long x :: st) v f g := fun H locs ls hP hD hS hl => lv_lstore C.1 C.2.1 d hl hn h (fun ls' hl' => kk H locs ls' hP hD hS hl')
theorem mg_lstore_n (C : mC p s m args meth c cc nL ret A D cI cJ cZ) {j : Fin 4} {i : Nat} {x : Int64} (hi : (j : Nat) = i) (hn : i + 1 < nL) (h : (i, Value.long x) :: lv.filter (fun q => !(q.1 == i) && (!(q.1 == i + 1) && !(q.1 + 1 == i && q.2.category == 2))) = lv') (d : decode cc pc = .ok (.lstore_n j, 1)) (kk : mG p l e R s m args below meth c A D cI cJ cZ a nL Q (pc + 1) lv' (st) v f g) : mG p l e R s m args below meth c A D cI cJ cZ a nL Q pc lv (.long x :: st) v f g := fun H locs ls hP hD hS hl => lv_lstore_n C.1 C.2.1 d hi hl hn h (fun ls' hl' => kk H locs ls' hP hD hS hl')
theorem mg_iinc (C : mC p s m args meth c cc nL ret A D cI cJ cZ) {i : Nat} {n : Int} {x y : Int32} (k : Nat) (hk : lv[k]? = some (i, .int x)) (hy : x + Int32.ofInt n = y) (hn : i < nL) (h : (i, Value.int y) :: lv.filter (fun q => !(q.1 == i) && !(q.1 + 1 == i && q.2.category == 2)) = lv') (d : decode cc pc = .ok (.iinc i n, 3)) (kk : mG p l e R s m args below meth c A D cI cJ cZ a nL Q (pc + 3) lv' (st) v f g) : mG p l e R s m args below meth c A D cI cJ cZ a nL Q pc lv (st) v f g := fun H locs ls hP hD hS hl => lv_iinc C.1 C.2.1 d hl hk hy hn h (fun ls' hl' => kk H locs ls' hP hD hS hl')
theorem mg_i2l (C : mC p s m args meth c cc nL ret A D cI cJ cZ) {x : Int32} (d : decode cc pc = .ok (.i2l, 1)) (kk : mG p l e R s m args below meth c A D cI cJ cZ a nL Q (pc + 1) lv (.long x.toInt64 :: st) v f g) : mG p l e R s m args below meth c A D cI cJ cZ a nL Q pc lv (.int x :: st) v f g := fun H locs ls hP hD hS hl => lv_i2l C.1 C.2.1 d rfl (kk H locs ls hP hD hS hl)
theorem mg_l2i (C : mC p s m args meth c cc nL ret A D cI cJ cZ) {x : Int64} (d : decode cc pc = .ok (.l2i, 1)) (kk : mG p l e R s m args below meth c A D cI cJ cZ a nL Q (pc + 1) lv (.int x.toInt32 :: st) v f g) : mG p l e R s m args below meth c A D cI cJ cZ a nL Q pc lv (.long x :: st) v f g := fun H locs ls hP hD hS hl => lv_l2i C.1 C.2.1 d rfl (kk H locs ls hP hD hS hl)
theorem mg_i2c (C : mC p s m args meth c cc nL ret A D cI cJ cZ) {x : Int32} (d : decode cc pc = .ok (.i2c, 1)) (kk : mG p l e R s m args below meth c A D cI cJ cZ a nL Q (pc + 1) lv (.int (x.toUInt32 % 65536).toInt32 :: st) v f g) : mG p l e R s m args below meth c A D cI cJ cZ a nL Q pc lv (.int x :: st) v f g := fun H locs ls hP hD hS hl => lv_i2c C.1 C.2.1 d rfl (kk H locs ls hP hD hS hl)
theorem mg_i2b (C : mC p s m args meth c cc nL ret A D cI cJ cZ) {x : Int32} (d : decode cc pc = .ok (.i2b, 1)) (kk : mG p l e R s m args below meth c A D cI cJ cZ a nL Q (pc + 1) lv (.int x.toInt8.toInt32 :: st) v f g) : mG p l e R s m args below meth c A D cI cJ cZ a nL Q pc lv (.int x :: st) v f g := fun H locs ls hP hD hS hl => lv_i2b C.1 C.2.1 d rfl (kk H locs ls hP hD hS hl)
theorem mg_lcmp (C : mC p s m args meth c cc nL ret A D cI cJ cZ) {x y : Int64} (d : decode cc pc = .ok (.lcmp, 1)) (kk : mG p l e R s m args below meth c A D cI cJ cZ a nL Q (pc + 1) lv (.int (lg_cmp x y) :: st) v f g) : mG p l e R s m args below meth c A D cI cJ cZ a nL Q pc lv (.long y :: .long x :: st) v f g := fun H locs ls hP hD hS hl => W.lcmp C.1 C.2.1 d (kk H locs ls hP hD hS hl)
theorem mg_dup (C : mC p s m args meth c cc nL ret A D cI cJ cZ) {x : Value} (h : x.category = 1) (d : decode cc pc = .ok (.dup, 1)) (kk : mG p l e R s m args below meth c A D cI cJ cZ a nL Q (pc + 1) lv (x :: x :: st) v f g) : mG p l e R s m args below meth c A D cI cJ cZ a nL Q pc lv (x :: st) v f g := fun H locs ls hP hD hS hl => lv_dup C.1 C.2.1 d h (kk H locs ls hP hD hS hl)
theorem mg_dup2 (C : mC p s m args meth c cc nL ret A D cI cJ cZ) {x y : Value} (h : x.category = 1) (h2 : y.category = 1) (d : decode cc pc = .ok (.dup2, 1)) (kk : mG p l e R s m args below meth c A D cI cJ cZ a nL Q (pc + 1) lv (x :: y :: x :: y :: st) v f g) : mG p l e R s m args below meth c A D cI cJ cZ a nL Q pc lv (x :: y :: st) v f g := fun H locs ls hP hD hS hl => lv_dup2_11 C.1 C.2.1 d h h2 (kk H locs ls hP hD hS hl)
theorem mg_pop (C : mC p s m args meth c cc nL ret A D cI cJ cZ) {x : Value} (h : x.category = 1) (d : decode cc pc = .ok (.pop, 1)) (kk : mG p l e R s m args below meth c A D cI cJ cZ a nL Q (pc + 1) lv (st) v f g) : mG p l e R s m args below meth c A D cI cJ cZ a nL Q pc lv (x :: st) v f g := fun H locs ls hP hD hS hl => lv_pop C.1 C.2.1 d h (kk H locs ls hP hD hS hl)
theorem mg_goto (C : mC p s m args meth c cc nL ret A D cI cJ cZ) {off : Int} (t : Nat) (ht : (pc : Int) + off = (t : Int)) (d : decode cc pc = .ok (.goto off, 3)) (kk : mG p l e R s m args below meth c A D cI cJ cZ a nL Q t lv st v f g) : mG p l e R s m args below meth c A D cI cJ cZ a nL Q pc lv st v f g := fun H locs ls hP hD hS hl => lv_goto C.1 C.2.1 d ht (kk H locs ls hP hD hS hl)
theorem mg_if_eq (C : mC p s m args meth c cc nL ret A D cI cJ cZ) {x : Int32} {off : Int} (t : Nat) (ht : (pc : Int) + off = (t : Int)) (d : decode cc pc = .ok (.ifCond .eq off, 3)) (kt : x = 0 → mG p l e R s m args below meth c A D cI cJ cZ a nL Q t lv st v f g) (kf : ¬ x = 0 → mG p l e R s m args below meth c A D cI cJ cZ a nL Q (pc + 3) lv st v f g) : mG p l e R s m args below meth c A D cI cJ cZ a nL Q pc lv (.int x :: st) v f g := fun H locs ls hP hD hS hl => lv_if_eq C.1 C.2.1 d ht (fun q => kt q H locs ls hP hD hS hl) (fun q => kf q H locs ls hP hD hS hl)
theorem mg_if_ne (C : mC p s m args meth c cc nL ret A D cI cJ cZ) {x : Int32} {off : Int} (t : Nat) (ht : (pc : Int) + off = (t : Int)) (d : decode cc pc = .ok (.ifCond .ne off, 3)) (kt : ¬ x = 0 → mG p l e R s m args below meth c A D cI cJ cZ a nL Q t lv st v f g) (kf : x = 0 → mG p l e R s m args below meth c A D cI cJ cZ a nL Q (pc + 3) lv st v f g) : mG p l e R s m args below meth c A D cI cJ cZ a nL Q pc lv (.int x :: st) v f g := fun H locs ls hP hD hS hl => lv_if_ne C.1 C.2.1 d ht (fun q => kt q H locs ls hP hD hS hl) (fun q => kf q H locs ls hP hD hS hl)
theorem mg_if_lt (C : mC p s m args meth c cc nL ret A D cI cJ cZ) {x : Int32} {off : Int} (t : Nat) (ht : (pc : Int) + off = (t : Int)) (d : decode cc pc = .ok (.ifCond .lt off, 3)) (kt : x < 0 → mG p l e R s m args below meth c A D cI cJ cZ a nL Q t lv st v f g) (kf : ¬ x < 0 → mG p l e R s m args below meth c A D cI cJ cZ a nL Q (pc + 3) lv st v f g) : mG p l e R s m args below meth c A D cI cJ cZ a nL Q pc lv (.int x :: st) v f g := fun H locs ls hP hD hS hl => lv_if_lt C.1 C.2.1 d ht (fun q => kt q H locs ls hP hD hS hl) (fun q => kf q H locs ls hP hD hS hl)
theorem mg_if_ge (C : mC p s m args meth c cc nL ret A D cI cJ cZ) {x : Int32} {off : Int} (t : Nat) (ht : (pc : Int) + off = (t : Int)) (d : decode cc pc = .ok (.ifCond .ge off, 3)) (kt : 0 ≤ x → mG p l e R s m args below meth c A D cI cJ cZ a nL Q t lv st v f g) (kf : ¬ 0 ≤ x → mG p l e R s m args below meth c A D cI cJ cZ a nL Q (pc + 3) lv st v f g) : mG p l e R s m args below meth c A D cI cJ cZ a nL Q pc lv (.int x :: st) v f g := fun H locs ls hP hD hS hl => lv_if_ge C.1 C.2.1 d ht (fun q => kt q H locs ls hP hD hS hl) (fun q => kf q H locs ls hP hD hS hl)
theorem mg_if_gt (C : mC p s m args meth c cc nL ret A D cI cJ cZ) {x : Int32} {off : Int} (t : Nat) (ht : (pc : Int) + off = (t : Int)) (d : decode cc pc = .ok (.ifCond .gt off, 3)) (kt : 0 < x → mG p l e R s m args below meth c A D cI cJ cZ a nL Q t lv st v f g) (kf : ¬ 0 < x → mG p l e R s m args below meth c A D cI cJ cZ a nL Q (pc + 3) lv st v f g) : mG p l e R s m args below meth c A D cI cJ cZ a nL Q pc lv (.int x :: st) v f g := fun H locs ls hP hD hS hl => lv_if_gt C.1 C.2.1 d ht (fun q => kt q H locs ls hP hD hS hl) (fun q => kf q H locs ls hP hD hS hl)
theorem mg_if_le (C : mC p s m args meth c cc nL ret A D cI cJ cZ) {x : Int32} {off : Int} (t : Nat) (ht : (pc : Int) + off = (t : Int)) (d : decode cc pc = .ok (.ifCond .le off, 3)) (kt : x ≤ 0 → mG p l e R s m args below meth c A D cI cJ cZ a nL Q t lv st v f g) (kf : ¬ x ≤ 0 → mG p l e R s m args below meth c A D cI cJ cZ a nL Q (pc + 3) lv st v f g) : mG p l e R s m args below meth c A D cI cJ cZ a nL Q pc lv (.int x :: st) v f g := fun H locs ls hP hD hS hl => lv_if_le C.1 C.2.1 d ht (fun q => kt q H locs ls hP hD hS hl) (fun q => kf q H locs ls hP hD hS hl)
theorem mg_icmp_eq (C : mC p s m args meth c cc nL ret A D cI cJ cZ) {x y : Int32} {off : Int} (t : Nat) (ht : (pc : Int) + off = (t : Int)) (d : decode cc pc = .ok (.if_icmp .eq off, 3)) (kt : x = y → mG p l e R s m args below meth c A D cI cJ cZ a nL Q t lv st v f g) (kf : ¬ x = y → mG p l e R s m args below meth c A D cI cJ cZ a nL Q (pc + 3) lv st v f g) : mG p l e R s m args below meth c A D cI cJ cZ a nL Q pc lv (.int y :: .int x :: st) v f g := fun H locs ls hP hD hS hl => lv_icmp_eq C.1 C.2.1 d ht (fun q => kt q H locs ls hP hD hS hl) (fun q => kf q H locs ls hP hD hS hl)
theorem mg_icmp_ne (C : mC p s m args meth c cc nL ret A D cI cJ cZ) {x y : Int32} {off : Int} (t : Nat) (ht : (pc : Int) + off = (t : Int)) (d : decode cc pc = .ok (.if_icmp .ne off, 3)) (kt : ¬ x = y → mG p l e R s m args below meth c A D cI cJ cZ a nL Q t lv st v f g) (kf : x = y → mG p l e R s m args below meth c A D cI cJ cZ a nL Q (pc + 3) lv st v f g) : mG p l e R s m args below meth c A D cI cJ cZ a nL Q pc lv (.int y :: .int x :: st) v f g := fun H locs ls hP hD hS hl => lv_icmp_ne C.1 C.2.1 d ht (fun q => kt q H locs ls hP hD hS hl) (fun q => kf q H locs ls hP hD hS hl)
theorem mg_icmp_lt (C : mC p s m args meth c cc nL ret A D cI cJ cZ) {x y : Int32} {off : Int} (t : Nat) (ht : (pc : Int) + off = (t : Int)) (d : decode cc pc = .ok (.if_icmp .lt off, 3)) (kt : x < y → mG p l e R s m args below meth c A D cI cJ cZ a nL Q t lv st v f g) (kf : ¬ x < y → mG p l e R s m args below meth c A D cI cJ cZ a nL Q (pc + 3) lv st v f g) : mG p l e R s m args below meth c A D cI cJ cZ a nL Q pc lv (.int y :: .int x :: st) v f g := fun H locs ls hP hD hS hl => lv_icmp_lt C.1 C.2.1 d ht (fun q => kt q H locs ls hP hD hS hl) (fun q => kf q H locs ls hP hD hS hl)
theorem mg_icmp_ge (C : mC p s m args meth c cc nL ret A D cI cJ cZ) {x y : Int32} {off : Int} (t : Nat) (ht : (pc : Int) + off = (t : Int)) (d : decode cc pc = .ok (.if_icmp .ge off, 3)) (kt : y ≤ x → mG p l e R s m args below meth c A D cI cJ cZ a nL Q t lv st v f g) (kf : ¬ y ≤ x → mG p l e R s m args below meth c A D cI cJ cZ a nL Q (pc + 3) lv st v f g) : mG p l e R s m args below meth c A D cI cJ cZ a nL Q pc lv (.int y :: .int x :: st) v f g := fun H locs ls hP hD hS hl => lv_icmp_ge C.1 C.2.1 d ht (fun q => kt q H locs ls hP hD hS hl) (fun q => kf q H locs ls hP hD hS hl)
theorem mg_icmp_gt (C : mC p s m args meth c cc nL ret A D cI cJ cZ) {x y : Int32} {off : Int} (t : Nat) (ht : (pc : Int) + off = (t : Int)) (d : decode cc pc = .ok (.if_icmp .gt off, 3)) (kt : y < x → mG p l e R s m args below meth c A D cI cJ cZ a nL Q t lv st v f g) (kf : ¬ y < x → mG p l e R s m args below meth c A D cI cJ cZ a nL Q (pc + 3) lv st v f g) : mG p l e R s m args below meth c A D cI cJ cZ a nL Q pc lv (.int y :: .int x :: st) v f g := fun H locs ls hP hD hS hl => lv_icmp_gt C.1 C.2.1 d ht (fun q => kt q H locs ls hP hD hS hl) (fun q => kf q H locs ls hP hD hS hl)
theorem mg_icmp_le (C : mC p s m args meth c cc nL ret A D cI cJ cZ) {x y : Int32} {off : Int} (t : Nat) (ht : (pc : Int) + off = (t : Int)) (d : decode cc pc = .ok (.if_icmp .le off, 3)) (kt : x ≤ y → mG p l e R s m args below meth c A D cI cJ cZ a nL Q t lv st v f g) (kf : ¬ x ≤ y → mG p l e R s m args below meth c A D cI cJ cZ a nL Q (pc + 3) lv st v f g) : mG p l e R s m args below meth c A D cI cJ cZ a nL Q pc lv (.int y :: .int x :: st) v f g := fun H locs ls hP hD hS hl => lv_icmp_le C.1 C.2.1 d ht (fun q => kt q H locs ls hP hD hS hl) (fun q => kf q H locs ls hP hD hS hl)
end MG
