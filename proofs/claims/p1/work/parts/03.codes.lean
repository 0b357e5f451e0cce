theorem kGm {w : Cond} (h : w ∈ lw_tbl) (g : goodWord w = true) : w ∈ wsG := List.mem_filter.mpr ⟨h, g⟩
theorem tab_1 {w : Cond} (h : w ∈ tables_1_1) : w ∈ lw_tbl := List.mem_append_right (k2_sels lw_privs) (show w ∈ tables_1 from List.mem_append_left _ h)
theorem tab_2 {w : Cond} (h : w ∈ tables_1_2) : w ∈ lw_tbl := List.mem_append_right (k2_sels lw_privs) (show w ∈ tables_1 from List.mem_append_right _ (List.mem_append_left _ h))
theorem tab_3 {w : Cond} (h : w ∈ tables_1_3) : w ∈ lw_tbl := List.mem_append_right (k2_sels lw_privs) (show w ∈ tables_1 from List.mem_append_right _ (List.mem_append_right _ (List.mem_append_left _ h)))
theorem tab_4 {w : Cond} (h : w ∈ tables_1_4) : w ∈ lw_tbl := List.mem_append_right (k2_sels lw_privs) (show w ∈ tables_1 from List.mem_append_right _ (List.mem_append_right _ (List.mem_append_right _ (List.mem_append_left _ h))))
theorem tab_5 {w : Cond} (h : w ∈ tables_1_5) : w ∈ lw_tbl := List.mem_append_right (k2_sels lw_privs) (show w ∈ tables_1 from List.mem_append_right _ (List.mem_append_right _ (List.mem_append_right _ (List.mem_append_right _ (List.mem_append_left _ h)))))
theorem tab_6 {w : Cond} (h : w ∈ tables_1_6) : w ∈ lw_tbl := List.mem_append_right (k2_sels lw_privs) (show w ∈ tables_1 from List.mem_append_right _ (List.mem_append_right _ (List.mem_append_right _ (List.mem_append_right _ (List.mem_append_right _ (List.mem_append_left _ h))))))
theorem tab_7 {w : Cond} (h : w ∈ tables_1_7) : w ∈ lw_tbl := List.mem_append_right (k2_sels lw_privs) (show w ∈ tables_1 from List.mem_append_right _ (List.mem_append_right _ (List.mem_append_right _ (List.mem_append_right _ (List.mem_append_right _ (List.mem_append_right _ (List.mem_append_left _ h)))))))
theorem tab_8 {w : Cond} (h : w ∈ tables_1_8) : w ∈ lw_tbl := List.mem_append_right (k2_sels lw_privs) (show w ∈ tables_1 from List.mem_append_right _ (List.mem_append_right _ (List.mem_append_right _ (List.mem_append_right _ (List.mem_append_right _ (List.mem_append_right _ (List.mem_append_right _ (List.mem_append_left _ h))))))))
theorem tab_9 {w : Cond} (h : w ∈ tables_1_9) : w ∈ lw_tbl := List.mem_append_right (k2_sels lw_privs) (show w ∈ tables_1 from List.mem_append_right _ (List.mem_append_right _ (List.mem_append_right _ (List.mem_append_right _ (List.mem_append_right _ (List.mem_append_right _ (List.mem_append_right _ (List.mem_append_right _ (List.mem_append_left _ h)))))))))
theorem tab_10 {w : Cond} (h : w ∈ tables_1_10) : w ∈ lw_tbl := List.mem_append_right (k2_sels lw_privs) (show w ∈ tables_1 from List.mem_append_right _ (List.mem_append_right _ (List.mem_append_right _ (List.mem_append_right _ (List.mem_append_right _ (List.mem_append_right _ (List.mem_append_right _ (List.mem_append_right _ (List.mem_append_right _ (h))))))))))
set_option maxRecDepth 20000 in
theorem kc_X1_init : Cond.code yX1_init cX1_init 3 none ∈ wsG := kGm (tab_1 (List.mem_of_getElem? (i := 186) rfl)) rfl
set_option maxRecDepth 20000 in
theorem kc_X1_has : Cond.code yX1_has cX1_has 2 (some .boolean) ∈ wsG := kGm (tab_4 (List.mem_of_getElem? (i := 100) rfl)) rfl
set_option maxRecDepth 20000 in
theorem kc_X1_resultValue : Cond.code yX1_resultValue cX1_resultValue 1 (some .long) ∈ wsG := kGm (tab_6 (List.mem_of_getElem? (i := 98) rfl)) rfl
set_option maxRecDepth 20000 in
theorem kc_X1_resultBlank : Cond.code yX1_resultBlank cX1_resultBlank 1 (some .byte) ∈ wsG := kGm (tab_6 (List.mem_of_getElem? (i := 102) rfl)) rfl
set_option maxRecDepth 20000 in
theorem kc_X1_push : Cond.code yX1_push cX1_push 4 none ∈ wsG := kGm (tab_6 (List.mem_of_getElem? (i := 38) rfl)) rfl
set_option maxRecDepth 20000 in
theorem kc_X1_one : Cond.code yX1_one cX1_one 5 none ∈ wsG := kGm (tab_6 (List.mem_of_getElem? (i := 50) rfl)) rfl
set_option maxRecDepth 20000 in
theorem kc_X1_two : Cond.code yX1_two cX1_two 10 none ∈ wsG := kGm (tab_6 (List.mem_of_getElem? (i := 62) rfl)) rfl
set_option maxRecDepth 20000 in
theorem kc_X1_hasResult : Cond.code yX1_hasResult cX1_hasResult 3 (some .boolean) ∈ wsG := kGm (tab_6 (List.mem_of_getElem? (i := 65) rfl)) rfl
set_option maxRecDepth 20000 in
theorem kc_X1_reckon : Cond.code yX1_reckon cX1_reckon 5 (some .long) ∈ wsG := kGm (tab_6 (List.mem_of_getElem? (i := 68) rfl)) rfl
set_option maxRecDepth 20000 in
theorem kc_X1_weigh : Cond.code yX1_weigh cX1_weigh 4 (some .int) ∈ wsG := kGm (tab_7 (List.mem_of_getElem? (i := 47) rfl)) rfl
set_option maxRecDepth 20000 in
theorem kc_X2_init : Cond.code yX2_init cX2_init 1 none ∈ wsG := kGm (tab_2 (List.mem_of_getElem? (i := 206) rfl)) rfl
set_option maxRecDepth 20000 in
theorem kc_X2_isFull : Cond.code yX2_isFull cX2_isFull 1 (some .boolean) ∈ wsG := kGm (tab_4 (List.mem_of_getElem? (i := 38) rfl)) rfl
set_option maxRecDepth 20000 in
theorem kc_X2_add : Cond.code yX2_add cX2_add 6 none ∈ wsG := kGm (tab_4 (List.mem_of_getElem? (i := 137) rfl)) rfl
set_option maxRecDepth 20000 in
theorem kc_X3_init : Cond.code yX3_init cX3_init 2 none ∈ wsG := kGm (tab_3 (List.mem_of_getElem? (i := 78) rfl)) rfl
set_option maxRecDepth 20000 in
theorem kc_X5_init : Cond.code yX5_init cX5_init 1 none ∈ wsG := kGm (tab_2 (List.mem_of_getElem? (i := 200) rfl)) rfl
set_option maxRecDepth 20000 in
theorem kc_X6_init : Cond.code yX6_init cX6_init 1 none ∈ wsG := kGm (tab_4 (List.mem_of_getElem? (i := 150) rfl)) rfl
set_option maxRecDepth 20000 in
theorem kc_X7_init : Cond.code yX7_init cX7_init 1 none ∈ wsG := kGm (tab_1 (List.mem_of_getElem? (i := 40) rfl)) rfl
set_option maxRecDepth 20000 in
theorem kc_X7_open : Cond.code yX7_open cX7_open 2 (some .int) ∈ wsG := kGm (tab_2 (List.mem_of_getElem? (i := 76) rfl)) rfl
set_option maxRecDepth 20000 in
theorem kc_X7_exists : Cond.code yX7_exists cX7_exists 2 (some .boolean) ∈ wsG := kGm (tab_5 (List.mem_of_getElem? (i := 92) rfl)) rfl
set_option maxRecDepth 20000 in
theorem kc_X7_draft : Cond.code yX7_draft cX7_draft 4 (some .int) ∈ wsG := kGm (tab_6 (List.mem_of_getElem? (i := 193) rfl)) rfl
set_option maxRecDepth 20000 in
theorem kc_X7_settle : Cond.code yX7_settle cX7_settle 6 (some .int) ∈ wsG := kGm (tab_6 (List.mem_of_getElem? (i := 205) rfl)) rfl
set_option maxRecDepth 20000 in
theorem kc_X7_holds : Cond.code yX7_holds cX7_holds 3 (some .boolean) ∈ wsG := kGm (tab_6 (List.mem_of_getElem? (i := 12) rfl)) rfl
set_option maxRecDepth 20000 in
theorem kc_X7_remove : Cond.code yX7_remove cX7_remove 3 (some .boolean) ∈ wsG := kGm (tab_6 (List.mem_of_getElem? (i := 223) rfl)) rfl
set_option maxRecDepth 20000 in
theorem kc_X7_rowCount : Cond.code yX7_rowCount cX7_rowCount 3 (some .int) ∈ wsG := kGm (tab_7 (List.mem_of_getElem? (i := 57) rfl)) rfl
set_option maxRecDepth 20000 in
theorem kc_X8_init : Cond.code yX8_init cX8_init 1 none ∈ wsG := kGm (tab_1 (List.mem_of_getElem? (i := 167) rfl)) rfl
set_option maxRecDepth 20000 in
theorem kc_X9_init : Cond.code yX9_init cX9_init 3 none ∈ wsG := kGm (tab_2 (List.mem_of_getElem? (i := 187) rfl)) rfl
set_option maxRecDepth 20000 in
theorem kc_X9_read : Cond.code yX9_read cX9_read 1 none ∈ wsG := kGm (tab_4 (List.mem_of_getElem? (i := 2) rfl)) rfl
set_option maxRecDepth 20000 in
theorem kc_X9_refuse : Cond.code yX9_refuse cX9_refuse 3 none ∈ wsG := kGm (tab_4 (List.mem_of_getElem? (i := 30) rfl)) rfl
set_option maxRecDepth 20000 in
theorem kc_X9_kind : Cond.code yX9_kind cX9_kind 1 (some .int) ∈ wsG := kGm (tab_4 (List.mem_of_getElem? (i := 10) rfl)) rfl
set_option maxRecDepth 20000 in
theorem kc_X9_here : Cond.code yX9_here cX9_here 1 (some .int) ∈ wsG := kGm (tab_4 (List.mem_of_getElem? (i := 26) rfl)) rfl
set_option maxRecDepth 20000 in
theorem kc_X9_number : Cond.code yX9_number cX9_number 1 (some .long) ∈ wsG := kGm (tab_4 (List.mem_of_getElem? (i := 86) rfl)) rfl
set_option maxRecDepth 20000 in
theorem kc_X9_accept : Cond.code yX9_accept cX9_accept 3 (some .boolean) ∈ wsG := kGm (tab_4 (List.mem_of_getElem? (i := 6) rfl)) rfl
set_option maxRecDepth 20000 in
theorem kc_X9_expect : Cond.code yX9_expect cX9_expect 2 none ∈ wsG := kGm (tab_4 (List.mem_of_getElem? (i := 22) rfl)) rfl
set_option maxRecDepth 20000 in
theorem kc_X9_readName : Cond.code yX9_readName cX9_readName 3 (some .long) ∈ wsG := kGm (tab_4 (List.mem_of_getElem? (i := 133) rfl)) rfl
set_option maxRecDepth 20000 in
theorem kc_X9_readQuery : Cond.code yX9_readQuery cX9_readQuery 7 (some (.object "StreamQueries$Query")) ∈ wsG := kGm (tab_4 (List.mem_of_getElem? (i := 14) rfl)) rfl
set_option maxRecDepth 20000 in
theorem kc_X9_beginsSet : Cond.code yX9_beginsSet cX9_beginsSet 1 (some .boolean) ∈ wsG := kGm (tab_4 (List.mem_of_getElem? (i := 234) rfl)) rfl
set_option maxRecDepth 20000 in
theorem kc_X9_refuseNinth : Cond.code yX9_refuseNinth cX9_refuseNinth 3 none ∈ wsG := kGm (tab_4 (List.mem_of_getElem? (i := 42) rfl)) rfl
set_option maxRecDepth 20000 in
theorem kc_X9_beginsExpr : Cond.code yX9_beginsExpr cX9_beginsExpr 3 (some .boolean) ∈ wsG := kGm (tab_4 (List.mem_of_getElem? (i := 46) rfl)) rfl
set_option maxRecDepth 20000 in
theorem kc_X9_readSelect : Cond.code yX9_readSelect cX9_readSelect 5 (some (.object "StreamQueries$Select")) ∈ wsG := kGm (tab_4 (List.mem_of_getElem? (i := 18) rfl)) rfl
set_option maxRecDepth 20000 in
theorem kc_X9_readItem : Cond.code yX9_readItem cX9_readItem 6 none ∈ wsG := kGm (tab_4 (List.mem_of_getElem? (i := 34) rfl)) rfl
set_option maxRecDepth 20000 in
theorem kc_X9_readSources : Cond.code yX9_readSources cX9_readSources 6 none ∈ wsG := kGm (tab_4 (List.mem_of_getElem? (i := 142) rfl)) rfl
set_option maxRecDepth 20000 in
theorem kc_X9_addSource : Cond.code yX9_addSource cX9_addSource 2 none ∈ wsG := kGm (tab_4 (List.mem_of_getElem? (i := 227) rfl)) rfl
set_option maxRecDepth 20000 in
theorem kc_X9_readSource : Cond.code yX9_readSource cX9_readSource 2 (some (.object "StreamQueries$Source")) ∈ wsG := kGm (tab_4 (List.mem_of_getElem? (i := 146) rfl)) rfl
set_option maxRecDepth 20000 in
theorem kc_X9_readLeaf : Cond.code yX9_readLeaf cX9_readLeaf 4 none ∈ wsG := kGm (tab_4 (List.mem_of_getElem? (i := 217) rfl)) rfl
set_option maxRecDepth 20000 in
theorem kc_X9_readExpr : Cond.code yX9_readExpr cX9_readExpr 5 (some .int) ∈ wsG := kGm (tab_4 (List.mem_of_getElem? (i := 50) rfl)) rfl
set_option maxRecDepth 20000 in
theorem kc_X9_readConjunction : Cond.code yX9_readConjunction cX9_readConjunction 5 none ∈ wsG := kGm (tab_4 (List.mem_of_getElem? (i := 54) rfl)) rfl
set_option maxRecDepth 20000 in
theorem kc_X9_readNegation : Cond.code yX9_readNegation cX9_readNegation 3 none ∈ wsG := kGm (tab_4 (List.mem_of_getElem? (i := 58) rfl)) rfl
set_option maxRecDepth 20000 in
theorem kc_X9_readTest : Cond.code yX9_readTest cX9_readTest 6 none ∈ wsG := kGm (tab_4 (List.mem_of_getElem? (i := 62) rfl)) rfl
set_option maxRecDepth 20000 in
theorem kc_X9_readSum : Cond.code yX9_readSum cX9_readSum 6 none ∈ wsG := kGm (tab_4 (List.mem_of_getElem? (i := 66) rfl)) rfl
set_option maxRecDepth 20000 in
theorem kc_X9_readPart : Cond.code yX9_readPart cX9_readPart 6 none ∈ wsG := kGm (tab_4 (List.mem_of_getElem? (i := 70) rfl)) rfl
set_option maxRecDepth 20000 in
theorem kc_X9_readSign : Cond.code yX9_readSign cX9_readSign 3 none ∈ wsG := kGm (tab_4 (List.mem_of_getElem? (i := 74) rfl)) rfl
set_option maxRecDepth 20000 in
theorem kc_X9_readOne : Cond.code yX9_readOne cX9_readOne 1 none ∈ wsG := kGm (tab_4 (List.mem_of_getElem? (i := 78) rfl)) rfl
set_option maxRecDepth 20000 in
theorem kc_X10_init : Cond.code yX10_init cX10_init 6 none ∈ wsG := kGm (tab_1 (List.mem_of_getElem? (i := 80) rfl)) rfl
set_option maxRecDepth 20000 in
theorem kc_X10_scan : Cond.code yX10_scan cX10_scan 5 none ∈ wsG := kGm (tab_2 (List.mem_of_getElem? (i := 84) rfl)) rfl
set_option maxRecDepth 20000 in
theorem kc_X10_scanToken : Cond.code yX10_scanToken cX10_scanToken 3 none ∈ wsG := kGm (tab_2 (List.mem_of_getElem? (i := 102) rfl)) rfl
set_option maxRecDepth 20000 in
theorem kc_X10_byteAt : Cond.code yX10_byteAt cX10_byteAt 2 (some .int) ∈ wsG := kGm (tab_2 (List.mem_of_getElem? (i := 95) rfl)) rfl
set_option maxRecDepth 20000 in
theorem kc_X10_skipBlanks : Cond.code yX10_skipBlanks cX10_skipBlanks 1 none ∈ wsG := kGm (tab_2 (List.mem_of_getElem? (i := 91) rfl)) rfl
set_option maxRecDepth 20000 in
theorem kc_X10_isBlankByte : Cond.code yX10_isBlankByte cX10_isBlankByte 1 (some .boolean) ∈ wsG := kGm (tab_2 (List.mem_of_getElem? (i := 98) rfl)) rfl
set_option maxRecDepth 20000 in
theorem kc_X10_isLetter : Cond.code yX10_isLetter cX10_isLetter 1 (some .boolean) ∈ wsG := kGm (tab_2 (List.mem_of_getElem? (i := 105) rfl)) rfl
set_option maxRecDepth 20000 in
theorem kc_X10_isDigit : Cond.code yX10_isDigit cX10_isDigit 1 (some .boolean) ∈ wsG := kGm (tab_1 (List.mem_of_getElem? (i := 137) rfl)) rfl
set_option maxRecDepth 20000 in
theorem kc_X10_letterCode : Cond.code yX10_letterCode cX10_letterCode 1 (some .int) ∈ wsG := kGm (tab_1 (List.mem_of_getElem? (i := 134) rfl)) rfl
set_option maxRecDepth 20000 in
theorem kc_X10_scanWord : Cond.code yX10_scanWord cX10_scanWord 5 none ∈ wsG := kGm (tab_2 (List.mem_of_getElem? (i := 109) rfl)) rfl
set_option maxRecDepth 20000 in
theorem kc_X10_wordKind : Cond.code yX10_wordKind cX10_wordKind 4 (some .int) ∈ wsG := kGm (tab_2 (List.mem_of_getElem? (i := 113) rfl)) rfl
set_option maxRecDepth 20000 in
theorem kc_X10_scanNumber : Cond.code yX10_scanNumber cX10_scanNumber 5 none ∈ wsG := kGm (tab_2 (List.mem_of_getElem? (i := 117) rfl)) rfl
set_option maxRecDepth 20000 in
theorem kc_X10_scanSign : Cond.code yX10_scanSign cX10_scanSign 5 (some .int) ∈ wsG := kGm (tab_2 (List.mem_of_getElem? (i := 123) rfl)) rfl
set_option maxRecDepth 20000 in
theorem kc_X10_longerSign : Cond.code yX10_longerSign cX10_longerSign 2 (some .int) ∈ wsG := kGm (tab_2 (List.mem_of_getElem? (i := 182) rfl)) rfl
set_option maxRecDepth 20000 in
theorem kc_X11_init : Cond.code yX11_init cX11_init 1 none ∈ wsG := kGm (tab_1 (List.mem_of_getElem? (i := 32) rfl)) rfl
set_option maxRecDepth 20000 in
theorem kc_X11_feed : Cond.code yX11_feed cX11_feed 6 (some .int) ∈ wsG := kGm (tab_2 (List.mem_of_getElem? (i := 60) rfl)) rfl
set_option maxRecDepth 20000 in
theorem kc_X11_takeFour : Cond.code yX11_takeFour cX11_takeFour 3 none ∈ wsG := kGm (tab_2 (List.mem_of_getElem? (i := 64) rfl)) rfl
set_option maxRecDepth 20000 in
theorem kc_X11_cut : Cond.code yX11_cut cX11_cut 3 (some .int) ∈ wsG := kGm (tab_2 (List.mem_of_getElem? (i := 68) rfl)) rfl
set_option maxRecDepth 20000 in
theorem kc_X11_stream : Cond.code yX11_stream cX11_stream 2 (some .int) ∈ wsG := kGm (tab_2 (List.mem_of_getElem? (i := 72) rfl)) rfl
set_option maxRecDepth 20000 in
theorem kc_X11_query : Cond.code yX11_query cX11_query 3 (some .int) ∈ wsG := kGm (tab_2 (List.mem_of_getElem? (i := 80) rfl)) rfl
set_option maxRecDepth 20000 in
theorem kc_X11_fault : Cond.code yX11_fault cX11_fault 1 (some .int) ∈ wsG := kGm (tab_6 (List.mem_of_getElem? (i := 185) rfl)) rfl
set_option maxRecDepth 20000 in
theorem kc_X11_value : Cond.code yX11_value cX11_value 3 (some .int) ∈ wsG := kGm (tab_6 (List.mem_of_getElem? (i := 189) rfl)) rfl
set_option maxRecDepth 20000 in
theorem kc_X11_nothing : Cond.code yX11_nothing cX11_nothing 1 (some .int) ∈ wsG := kGm (tab_6 (List.mem_of_getElem? (i := 197) rfl)) rfl
set_option maxRecDepth 20000 in
theorem kc_X11_row : Cond.code yX11_row cX11_row 5 (some .int) ∈ wsG := kGm (tab_6 (List.mem_of_getElem? (i := 201) rfl)) rfl
set_option maxRecDepth 20000 in
theorem kc_X11_back : Cond.code yX11_back cX11_back 3 (some .boolean) ∈ wsG := kGm (tab_6 (List.mem_of_getElem? (i := 219) rfl)) rfl
set_option maxRecDepth 20000 in
theorem kc_X11_watermark : Cond.code yX11_watermark cX11_watermark 3 (some .int) ∈ wsG := kGm (tab_6 (List.mem_of_getElem? (i := 227) rfl)) rfl
set_option maxRecDepth 20000 in
theorem kc_X11_changes : Cond.code yX11_changes cX11_changes 1 (some .int) ∈ wsG := kGm (tab_6 (List.mem_of_getElem? (i := 231) rfl)) rfl
set_option maxRecDepth 20000 in
theorem kc_X11_change : Cond.code yX11_change cX11_change 2 (some .int) ∈ wsG := kGm (tab_6 (List.mem_of_getElem? (i := 235) rfl)) rfl
set_option maxRecDepth 20000 in
theorem kc_X11_changed : Cond.code yX11_changed cX11_changed 4 (some .long) ∈ wsG := kGm (tab_6 (List.mem_of_getElem? (i := 239) rfl)) rfl
set_option maxRecDepth 20000 in
theorem kc_X11_changedNull : Cond.code yX11_changedNull cX11_changedNull 4 (some .boolean) ∈ wsG := kGm (tab_7 (List.mem_of_getElem? (i := 9) rfl)) rfl
set_option maxRecDepth 20000 in
theorem kc_X11_rows : Cond.code yX11_rows cX11_rows 1 (some .int) ∈ wsG := kGm (tab_7 (List.mem_of_getElem? (i := 14) rfl)) rfl
set_option maxRecDepth 20000 in
theorem kc_X11_at : Cond.code yX11_at cX11_at 4 (some .long) ∈ wsG := kGm (tab_7 (List.mem_of_getElem? (i := 18) rfl)) rfl
set_option maxRecDepth 20000 in
theorem kc_X11_isNull : Cond.code yX11_isNull cX11_isNull 4 (some .boolean) ∈ wsG := kGm (tab_7 (List.mem_of_getElem? (i := 30) rfl)) rfl
set_option maxRecDepth 20000 in
theorem kc_X11_type : Cond.code yX11_type cX11_type 2 (some .int) ∈ wsG := kGm (tab_7 (List.mem_of_getElem? (i := 34) rfl)) rfl
set_option maxRecDepth 20000 in
theorem kc_X11_three : Cond.code yX11_three cX11_three 4 (some .int) ∈ wsG := kGm (tab_7 (List.mem_of_getElem? (i := 43) rfl)) rfl
set_option maxRecDepth 20000 in
theorem kc_X11_told : Cond.code yX11_told cX11_told 2 (some .int) ∈ wsG := kGm (tab_7 (List.mem_of_getElem? (i := 53) rfl)) rfl
set_option maxRecDepth 20000 in
theorem kc_X11_answerCell : Cond.code yX11_answerCell cX11_answerCell 3 (some .int) ∈ wsG := kGm (tab_7 (List.mem_of_getElem? (i := 22) rfl)) rfl
set_option maxRecDepth 20000 in
theorem kc_X11_changeCell : Cond.code yX11_changeCell cX11_changeCell 3 (some .int) ∈ wsG := kGm (tab_7 (List.mem_of_getElem? (i := 3) rfl)) rfl
set_option maxRecDepth 20000 in
theorem kc_X11_answer : Cond.code yX11_answer cX11_answer 4 none ∈ wsG := kGm (tab_5 (List.mem_of_getElem? (i := 189) rfl)) rfl
set_option maxRecDepth 20000 in
theorem kc_X12_init : Cond.code yX12_init cX12_init 1 none ∈ wsG := kGm (tab_7 (List.mem_of_getElem? (i := 67) rfl)) rfl
set_option maxRecDepth 20000 in
theorem kc_X12_feed : Cond.code yX12_feed cX12_feed 6 (some .int) ∈ wsG := kGm (tab_8 (List.mem_of_getElem? (i := 181) rfl)) rfl
set_option maxRecDepth 20000 in
theorem kc_X12_lay : Cond.code yX12_lay cX12_lay 3 none ∈ wsG := kGm (tab_8 (List.mem_of_getElem? (i := 185) rfl)) rfl
set_option maxRecDepth 20000 in
theorem kc_X12_cut : Cond.code yX12_cut cX12_cut 3 (some .int) ∈ wsG := kGm (tab_8 (List.mem_of_getElem? (i := 189) rfl)) rfl
set_option maxRecDepth 20000 in
theorem kc_X12_stream : Cond.code yX12_stream cX12_stream 2 (some .int) ∈ wsG := kGm (tab_8 (List.mem_of_getElem? (i := 193) rfl)) rfl
set_option maxRecDepth 20000 in
theorem kc_X12_value : Cond.code yX12_value cX12_value 3 (some .int) ∈ wsG := kGm (tab_8 (List.mem_of_getElem? (i := 197) rfl)) rfl
set_option maxRecDepth 20000 in
theorem kc_X12_nothing : Cond.code yX12_nothing cX12_nothing 1 (some .int) ∈ wsG := kGm (tab_8 (List.mem_of_getElem? (i := 205) rfl)) rfl
set_option maxRecDepth 20000 in
theorem kc_X12_draft : Cond.code yX12_draft cX12_draft 4 (some .int) ∈ wsG := kGm (tab_8 (List.mem_of_getElem? (i := 201) rfl)) rfl
set_option maxRecDepth 20000 in
theorem kc_X12_row : Cond.code yX12_row cX12_row 8 (some .int) ∈ wsG := kGm (tab_8 (List.mem_of_getElem? (i := 209) rfl)) rfl
set_option maxRecDepth 20000 in
theorem kc_X12_back : Cond.code yX12_back cX12_back 3 (some .boolean) ∈ wsG := kGm (tab_9 (List.mem_of_getElem? (i := 112) rfl)) rfl
set_option maxRecDepth 20000 in
theorem kc_X12_watermark : Cond.code yX12_watermark cX12_watermark 3 (some .int) ∈ wsG := kGm (tab_9 (List.mem_of_getElem? (i := 116) rfl)) rfl
set_option maxRecDepth 20000 in
theorem kc_X12_isLetter : Cond.code yX12_isLetter cX12_isLetter 1 (some .boolean) ∈ wsG := kGm (tab_9 (List.mem_of_getElem? (i := 131) rfl)) rfl
set_option maxRecDepth 20000 in
theorem kc_X12_isDigit : Cond.code yX12_isDigit cX12_isDigit 1 (some .boolean) ∈ wsG := kGm (tab_9 (List.mem_of_getElem? (i := 134) rfl)) rfl
set_option maxRecDepth 20000 in
theorem kc_X12_tokens : Cond.code yX12_tokens cX12_tokens 9 none ∈ wsG := kGm (tab_9 (List.mem_of_getElem? (i := 128) rfl)) rfl
set_option maxRecDepth 20000 in
theorem kc_X12_tell : Cond.code yX12_tell cX12_tell 3 none ∈ wsG := kGm (tab_9 (List.mem_of_getElem? (i := 172) rfl)) rfl
set_option maxRecDepth 20000 in
theorem kc_X12_wrong : Cond.code yX12_wrong cX12_wrong 1 none ∈ wsG := kGm (tab_9 (List.mem_of_getElem? (i := 168) rfl)) rfl
set_option maxRecDepth 20000 in
theorem kc_X12_isWord : Cond.code yX12_isWord cX12_isWord 2 (some .boolean) ∈ wsG := kGm (tab_9 (List.mem_of_getElem? (i := 145) rfl)) rfl
set_option maxRecDepth 20000 in
theorem kc_X12_takeWord : Cond.code yX12_takeWord cX12_takeWord 3 (some .boolean) ∈ wsG := kGm (tab_9 (List.mem_of_getElem? (i := 141) rfl)) rfl
set_option maxRecDepth 20000 in
theorem kc_X12_needWord : Cond.code yX12_needWord cX12_needWord 2 none ∈ wsG := kGm (tab_9 (List.mem_of_getElem? (i := 164) rfl)) rfl
set_option maxRecDepth 20000 in
theorem kc_X12_queryOf : Cond.code yX12_queryOf cX12_queryOf 8 (some .int) ∈ wsG := kGm (tab_9 (List.mem_of_getElem? (i := 155) rfl)) rfl
set_option maxRecDepth 20000 in
theorem kc_X12_selectOf : Cond.code yX12_selectOf cX12_selectOf 9 (some .int) ∈ wsG := kGm (tab_9 (List.mem_of_getElem? (i := 159) rfl)) rfl
set_option maxRecDepth 20000 in
theorem kc_X12_source : Cond.code yX12_source cX12_source 7 none ∈ wsG := kGm (tab_10 (List.mem_of_getElem? (i := 35) rfl)) rfl
set_option maxRecDepth 20000 in
theorem kc_X12_take : Cond.code yX12_take cX12_take 2 none ∈ wsG := kGm (tab_9 (List.mem_of_getElem? (i := 124) rfl)) rfl
set_option maxRecDepth 20000 in
theorem kc_X12_query : Cond.code yX12_query cX12_query 3 (some .int) ∈ wsG := kGm (tab_9 (List.mem_of_getElem? (i := 120) rfl)) rfl
set_option maxRecDepth 20000 in
theorem kc_X12_fault : Cond.code yX12_fault cX12_fault 1 (some .int) ∈ wsG := kGm (tab_10 (List.mem_of_getElem? (i := 119) rfl)) rfl
set_option maxRecDepth 20000 in
theorem kc_X12_both : Cond.code yX12_both cX12_both 4 (some .int) ∈ wsG := kGm (tab_9 (List.mem_of_getElem? (i := 36) rfl)) rfl
set_option maxRecDepth 20000 in
theorem kc_X12_renew : Cond.code yX12_renew cX12_renew 8 none ∈ wsG := kGm (tab_8 (List.mem_of_getElem? (i := 213) rfl)) rfl
set_option maxRecDepth 20000 in
theorem kc_X12_changes : Cond.code yX12_changes cX12_changes 1 (some .int) ∈ wsG := kGm (tab_10 (List.mem_of_getElem? (i := 123) rfl)) rfl
set_option maxRecDepth 20000 in
theorem kc_X12_isChange : Cond.code yX12_isChange cX12_isChange 3 (some .boolean) ∈ wsG := kGm (tab_10 (List.mem_of_getElem? (i := 135) rfl)) rfl
set_option maxRecDepth 20000 in
theorem kc_X12_change : Cond.code yX12_change cX12_change 2 (some .int) ∈ wsG := kGm (tab_10 (List.mem_of_getElem? (i := 127) rfl)) rfl
set_option maxRecDepth 20000 in
theorem kc_X12_changed : Cond.code yX12_changed cX12_changed 3 (some .long) ∈ wsG := kGm (tab_10 (List.mem_of_getElem? (i := 131) rfl)) rfl
set_option maxRecDepth 20000 in
theorem kc_X12_changedNull : Cond.code yX12_changedNull cX12_changedNull 3 (some .boolean) ∈ wsG := kGm (tab_10 (List.mem_of_getElem? (i := 139) rfl)) rfl
set_option maxRecDepth 20000 in
theorem kc_X12_rows : Cond.code yX12_rows cX12_rows 1 (some .int) ∈ wsG := kGm (tab_10 (List.mem_of_getElem? (i := 143) rfl)) rfl
set_option maxRecDepth 20000 in
theorem kc_X12_isAnswer : Cond.code yX12_isAnswer cX12_isAnswer 3 (some .boolean) ∈ wsG := kGm (tab_10 (List.mem_of_getElem? (i := 151) rfl)) rfl
set_option maxRecDepth 20000 in
theorem kc_X12_at : Cond.code yX12_at cX12_at 3 (some .long) ∈ wsG := kGm (tab_10 (List.mem_of_getElem? (i := 147) rfl)) rfl
set_option maxRecDepth 20000 in
theorem kc_X12_isNull : Cond.code yX12_isNull cX12_isNull 3 (some .boolean) ∈ wsG := kGm (tab_10 (List.mem_of_getElem? (i := 155) rfl)) rfl
set_option maxRecDepth 20000 in
theorem kc_X12_type : Cond.code yX12_type cX12_type 2 (some .int) ∈ wsG := kGm (tab_10 (List.mem_of_getElem? (i := 159) rfl)) rfl
set_option maxRecDepth 20000 in
theorem kc_X12_three : Cond.code yX12_three cX12_three 7 (some .int) ∈ wsG := kGm (tab_10 (List.mem_of_getElem? (i := 163) rfl)) rfl
set_option maxRecDepth 20000 in
theorem kc_X12_told : Cond.code yX12_told cX12_told 7 (some .int) ∈ wsG := kGm (tab_10 (List.mem_of_getElem? (i := 167) rfl)) rfl
set_option maxRecDepth 20000 in
theorem kc_objectInit : Cond.code objectInit ⟨#[0xb1]⟩ 1 none ∈ wsG := kGm (tab_1 (List.mem_of_getElem? (i := 35) rfl)) rfl

