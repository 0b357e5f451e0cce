/-! the codes' words -/
theorem kGm {w : Cond} (h : w ∈ lw_tbl) (g : goodWord w = true) : w ∈ wsG := List.mem_filter.mpr ⟨h, g⟩
theorem tab_1 {w : Cond} (h : w ∈ tables_1_1) : w ∈ lw_tbl := List.mem_append_right (k2_sels lw_privs) (show w ∈ tables_1 from List.mem_append_left _ h)
theorem tab_2 {w : Cond} (h : w ∈ tables_1_2) : w ∈ lw_tbl := List.mem_append_right (k2_sels lw_privs) (show w ∈ tables_1 from List.mem_append_right _ (List.mem_append_left _ h))
theorem tab_3 {w : Cond} (h : w ∈ tables_1_3) : w ∈ lw_tbl := List.mem_append_right (k2_sels lw_privs) (show w ∈ tables_1 from List.mem_append_right _ (List.mem_append_right _ (List.mem_append_left _ h)))
theorem tab_4 {w : Cond} (h : w ∈ tables_1_4) : w ∈ lw_tbl := List.mem_append_right (k2_sels lw_privs) (show w ∈ tables_1 from List.mem_append_right _ (List.mem_append_right _ (List.mem_append_right _ (List.mem_append_left _ h))))
theorem tab_5 {w : Cond} (h : w ∈ tables_1_5) : w ∈ lw_tbl := List.mem_append_right (k2_sels lw_privs) (show w ∈ tables_1 from List.mem_append_right _ (List.mem_append_right _ (List.mem_append_right _ (List.mem_append_right _ (List.mem_append_left _ h)))))
theorem tab_6 {w : Cond} (h : w ∈ tables_1_6) : w ∈ lw_tbl := List.mem_append_right (k2_sels lw_privs) (show w ∈ tables_1 from List.mem_append_right _ (List.mem_append_right _ (List.mem_append_right _ (List.mem_append_right _ (List.mem_append_right _ (List.mem_append_left _ h))))))
theorem tab_7 {w : Cond} (h : w ∈ tables_1_7) : w ∈ lw_tbl := List.mem_append_right (k2_sels lw_privs) (show w ∈ tables_1 from List.mem_append_right _ (List.mem_append_right _ (List.mem_append_right _ (List.mem_append_right _ (List.mem_append_right _ (List.mem_append_right _ (List.mem_append_left _ h)))))))
theorem tab_8 {w : Cond} (h : w ∈ tables_1_8) : w ∈ lw_tbl := List.mem_append_right (k2_sels lw_privs) (show w ∈ tables_1 from List.mem_append_right _ (List.mem_append_right _ (List.mem_append_right _ (List.mem_append_right _ (List.mem_append_right _ (List.mem_append_right _ (List.mem_append_right _ (List.mem_append_left _ h))))))))
theorem tab_9 {w : Cond} (h : w ∈ tables_1_9) : w ∈ lw_tbl := List.mem_append_right (k2_sels lw_privs) (show w ∈ tables_1 from List.mem_append_right _ (List.mem_append_right _ (List.mem_append_right _ (List.mem_append_right _ (List.mem_append_right _ (List.mem_append_right _ (List.mem_append_right _ (List.mem_append_right _ (List.mem_append_left _ h)))))))))
theorem tab_10 {w : Cond} (h : w ∈ tables_1_10) : w ∈ lw_tbl := List.mem_append_right (k2_sels lw_privs) (show w ∈ tables_1 from List.mem_append_right _ (List.mem_append_right _ (List.mem_append_right _ (List.mem_append_right _ (List.mem_append_right _ (List.mem_append_right _ (List.mem_append_right _ (List.mem_append_right _ (List.mem_append_right _ (h))))))))))
set_option maxRecDepth 20000 in
theorem kc_X0_init : Cond.code yX0_init cX0_init 3 none ∈ wsG := kGm (tab_5 (List.mem_of_getElem? (i := 9) rfl)) rfl
set_option maxRecDepth 20000 in
theorem kc_X0_isFaulty : Cond.code yX0_isFaulty cX0_isFaulty 1 (some .boolean) ∈ wsG := kGm (tab_5 (List.mem_of_getElem? (i := 41) rfl)) rfl
set_option maxRecDepth 20000 in
theorem kc_X0_checkQuery : Cond.code yX0_checkQuery cX0_checkQuery 4 none ∈ wsG := kGm (tab_5 (List.mem_of_getElem? (i := 33) rfl)) rfl
set_option maxRecDepth 20000 in
theorem kc_X0_checkBound : Cond.code yX0_checkBound cX0_checkBound 3 none ∈ wsG := kGm (tab_5 (List.mem_of_getElem? (i := 100) rfl)) rfl
set_option maxRecDepth 20000 in
theorem kc_X0_checkSet : Cond.code yX0_checkSet cX0_checkSet 3 none ∈ wsG := kGm (tab_5 (List.mem_of_getElem? (i := 160) rfl)) rfl
set_option maxRecDepth 20000 in
theorem kc_X0_checkOrder : Cond.code yX0_checkOrder cX0_checkOrder 3 none ∈ wsG := kGm (tab_5 (List.mem_of_getElem? (i := 168) rfl)) rfl
set_option maxRecDepth 20000 in
theorem kc_X0_checkSelect : Cond.code yX0_checkSelect cX0_checkSelect 3 none ∈ wsG := kGm (tab_5 (List.mem_of_getElem? (i := 58) rfl)) rfl
set_option maxRecDepth 20000 in
theorem kc_X0_checkSource : Cond.code yX0_checkSource cX0_checkSource 6 none ∈ wsG := kGm (tab_5 (List.mem_of_getElem? (i := 62) rfl)) rfl
set_option maxRecDepth 20000 in
theorem kc_X0_checkLeaf : Cond.code yX0_checkLeaf cX0_checkLeaf 3 none ∈ wsG := kGm (tab_5 (List.mem_of_getElem? (i := 87) rfl)) rfl
set_option maxRecDepth 20000 in
theorem kc_X0_checkInner : Cond.code yX0_checkInner cX0_checkInner 5 none ∈ wsG := kGm (tab_5 (List.mem_of_getElem? (i := 66) rfl)) rfl
set_option maxRecDepth 20000 in
theorem kc_X0_checkGroups : Cond.code yX0_checkGroups cX0_checkGroups 4 none ∈ wsG := kGm (tab_5 (List.mem_of_getElem? (i := 143) rfl)) rfl
set_option maxRecDepth 20000 in
theorem kc_X0_checkColumns : Cond.code yX0_checkColumns cX0_checkColumns 3 none ∈ wsG := kGm (tab_5 (List.mem_of_getElem? (i := 156) rfl)) rfl
set_option maxRecDepth 20000 in
theorem kc_X0_checkTruth : Cond.code yX0_checkTruth cX0_checkTruth 2 none ∈ wsG := kGm (tab_5 (List.mem_of_getElem? (i := 104) rfl)) rfl
set_option maxRecDepth 20000 in
theorem kc_X0_typeOf : Cond.code yX0_typeOf cX0_typeOf 2 (some .int) ∈ wsG := kGm (tab_5 (List.mem_of_getElem? (i := 139) rfl)) rfl
set_option maxRecDepth 20000 in
theorem kc_X0_checkExpr : Cond.code yX0_checkExpr cX0_checkExpr 4 none ∈ wsG := kGm (tab_5 (List.mem_of_getElem? (i := 108) rfl)) rfl
set_option maxRecDepth 20000 in
theorem kc_X0_findInSources : Cond.code yX0_findInSources cX0_findInSources 7 none ∈ wsG := kGm (tab_5 (List.mem_of_getElem? (i := 125) rfl)) rfl
set_option maxRecDepth 20000 in
theorem kc_X0_findInNames : Cond.code yX0_findInNames cX0_findInNames 4 none ∈ wsG := kGm (tab_5 (List.mem_of_getElem? (i := 135) rfl)) rfl
set_option maxRecDepth 20000 in
theorem kc_X0_refuseUnlessOne : Cond.code yX0_refuseUnlessOne cX0_refuseUnlessOne 3 none ∈ wsG := kGm (tab_5 (List.mem_of_getElem? (i := 131) rfl)) rfl
set_option maxRecDepth 20000 in
theorem kc_X0_checkAct : Cond.code yX0_checkAct cX0_checkAct 2 none ∈ wsG := kGm (tab_5 (List.mem_of_getElem? (i := 113) rfl)) rfl
set_option maxRecDepth 20000 in
theorem kc_X0_wantParts : Cond.code yX0_wantParts cX0_wantParts 7 none ∈ wsG := kGm (tab_5 (List.mem_of_getElem? (i := 117) rfl)) rfl
set_option maxRecDepth 20000 in
theorem kc_X0_checkCase : Cond.code yX0_checkCase cX0_checkCase 5 none ∈ wsG := kGm (tab_5 (List.mem_of_getElem? (i := 121) rfl)) rfl
set_option maxRecDepth 20000 in
theorem kc_X1_init : Cond.code yX1_init cX1_init 3 none ∈ wsG := kGm (tab_1 (List.mem_of_getElem? (i := 186) rfl)) rfl
set_option maxRecDepth 20000 in
theorem kc_X1_has : Cond.code yX1_has cX1_has 2 (some .boolean) ∈ wsG := kGm (tab_4 (List.mem_of_getElem? (i := 99) rfl)) rfl
set_option maxRecDepth 20000 in
theorem kc_X1_add : Cond.code yX1_add cX1_add 6 (some .int) ∈ wsG := kGm (tab_4 (List.mem_of_getElem? (i := 94) rfl)) rfl
set_option maxRecDepth 20000 in
theorem kc_X1_compute : Cond.code yX1_compute cX1_compute 5 (some .boolean) ∈ wsG := kGm (tab_6 (List.mem_of_getElem? (i := 36) rfl)) rfl
set_option maxRecDepth 20000 in
theorem kc_X1_resultValue : Cond.code yX1_resultValue cX1_resultValue 1 (some .long) ∈ wsG := kGm (tab_6 (List.mem_of_getElem? (i := 98) rfl)) rfl
set_option maxRecDepth 20000 in
theorem kc_X1_resultBlank : Cond.code yX1_resultBlank cX1_resultBlank 1 (some .byte) ∈ wsG := kGm (tab_6 (List.mem_of_getElem? (i := 102) rfl)) rfl
set_option maxRecDepth 20000 in
theorem kc_X1_push : Cond.code yX1_push cX1_push 4 none ∈ wsG := kGm (tab_6 (List.mem_of_getElem? (i := 41) rfl)) rfl
set_option maxRecDepth 20000 in
theorem kc_X1_one : Cond.code yX1_one cX1_one 5 none ∈ wsG := kGm (tab_6 (List.mem_of_getElem? (i := 53) rfl)) rfl
set_option maxRecDepth 20000 in
theorem kc_X1_two : Cond.code yX1_two cX1_two 10 none ∈ wsG := kGm (tab_6 (List.mem_of_getElem? (i := 65) rfl)) rfl
set_option maxRecDepth 20000 in
theorem kc_X1_hasResult : Cond.code yX1_hasResult cX1_hasResult 3 (some .boolean) ∈ wsG := kGm (tab_6 (List.mem_of_getElem? (i := 68) rfl)) rfl
set_option maxRecDepth 20000 in
theorem kc_X1_reckon : Cond.code yX1_reckon cX1_reckon 7 (some .long) ∈ wsG := kGm (tab_6 (List.mem_of_getElem? (i := 71) rfl)) rfl
set_option maxRecDepth 20000 in
theorem kc_X1_choose : Cond.code yX1_choose cX1_choose 2 none ∈ wsG := kGm (tab_6 (List.mem_of_getElem? (i := 57) rfl)) rfl
set_option maxRecDepth 20000 in
theorem kc_X1_search : Cond.code yX1_search cX1_search 6 none ∈ wsG := kGm (tab_6 (List.mem_of_getElem? (i := 61) rfl)) rfl
set_option maxRecDepth 20000 in
theorem kc_X1_weigh : Cond.code yX1_weigh cX1_weigh 4 (some .int) ∈ wsG := kGm (tab_7 (List.mem_of_getElem? (i := 50) rfl)) rfl
set_option maxRecDepth 20000 in
theorem kc_X2_init : Cond.code yX2_init cX2_init 1 none ∈ wsG := kGm (tab_2 (List.mem_of_getElem? (i := 206) rfl)) rfl
set_option maxRecDepth 20000 in
theorem kc_X2_isFull : Cond.code yX2_isFull cX2_isFull 1 (some .boolean) ∈ wsG := kGm (tab_4 (List.mem_of_getElem? (i := 38) rfl)) rfl
set_option maxRecDepth 20000 in
theorem kc_X2_add : Cond.code yX2_add cX2_add 6 none ∈ wsG := kGm (tab_4 (List.mem_of_getElem? (i := 136) rfl)) rfl
set_option maxRecDepth 20000 in
theorem kc_X2_has : Cond.code yX2_has cX2_has 2 (some .boolean) ∈ wsG := kGm (tab_5 (List.mem_of_getElem? (i := 82) rfl)) rfl
set_option maxRecDepth 20000 in
theorem kc_X2_find : Cond.code yX2_find cX2_find 5 (some .int) ∈ wsG := kGm (tab_5 (List.mem_of_getElem? (i := 76) rfl)) rfl
set_option maxRecDepth 20000 in
theorem kc_X2_allNamedApart : Cond.code yX2_allNamedApart cX2_allNamedApart 2 (some .boolean) ∈ wsG := kGm (tab_5 (List.mem_of_getElem? (i := 71) rfl)) rfl
set_option maxRecDepth 20000 in
theorem kc_X2_settleType : Cond.code yX2_settleType cX2_settleType 3 none ∈ wsG := kGm (tab_5 (List.mem_of_getElem? (i := 147) rfl)) rfl
set_option maxRecDepth 20000 in
theorem kc_X2_sameTypes : Cond.code yX2_sameTypes cX2_sameTypes 3 (some .boolean) ∈ wsG := kGm (tab_5 (List.mem_of_getElem? (i := 164) rfl)) rfl
set_option maxRecDepth 20000 in
theorem kc_X2_markBits : Cond.code yX2_markBits cX2_markBits 3 (some .int) ∈ wsG := kGm (tab_6 (List.mem_of_getElem? (i := 168) rfl)) rfl
set_option maxRecDepth 20000 in
theorem kc_X3_init : Cond.code yX3_init cX3_init 2 none ∈ wsG := kGm (tab_3 (List.mem_of_getElem? (i := 78) rfl)) rfl
set_option maxRecDepth 20000 in
theorem kc_X4_init : Cond.code yX4_init cX4_init 4 none ∈ wsG := kGm (tab_5 (List.mem_of_getElem? (i := 173) rfl)) rfl
set_option maxRecDepth 20000 in
theorem kc_X4_runQuery : Cond.code yX4_runQuery cX4_runQuery 9 (some .int) ∈ wsG := kGm (tab_5 (List.mem_of_getElem? (i := 227) rfl)) rfl
set_option maxRecDepth 20000 in
theorem kc_X4_combine : Cond.code yX4_combine cX4_combine 7 (some .int) ∈ wsG := kGm (tab_6 (List.mem_of_getElem? (i := 156) rfl)) rfl
set_option maxRecDepth 20000 in
theorem kc_X4_sift : Cond.code yX4_sift cX4_sift 12 (some .int) ∈ wsG := kGm (tab_6 (List.mem_of_getElem? (i := 160) rfl)) rfl
set_option maxRecDepth 20000 in
theorem kc_X4_order : Cond.code yX4_order cX4_order 10 (some .int) ∈ wsG := kGm (tab_6 (List.mem_of_getElem? (i := 164) rfl)) rfl
set_option maxRecDepth 20000 in
theorem kc_X4_computeAll : Cond.code yX4_computeAll cX4_computeAll 5 none ∈ wsG := kGm (tab_6 (List.mem_of_getElem? (i := 93) rfl)) rfl
set_option maxRecDepth 20000 in
theorem kc_X4_runSelect : Cond.code yX4_runSelect cX4_runSelect 5 (some .int) ∈ wsG := kGm (tab_5 (List.mem_of_getElem? (i := 234) rfl)) rfl
set_option maxRecDepth 20000 in
theorem kc_X4_joinSources : Cond.code yX4_joinSources cX4_joinSources 8 (some .int) ∈ wsG := kGm (tab_5 (List.mem_of_getElem? (i := 238) rfl)) rfl
set_option maxRecDepth 20000 in
theorem kc_X4_runSource : Cond.code yX4_runSource cX4_runSource 5 (some .int) ∈ wsG := kGm (tab_6 (List.mem_of_getElem? (i := 2) rfl)) rfl
set_option maxRecDepth 20000 in
theorem kc_X4_join : Cond.code yX4_join cX4_join 15 (some .int) ∈ wsG := kGm (tab_6 (List.mem_of_getElem? (i := 27) rfl)) rfl
set_option maxRecDepth 20000 in
theorem kc_X4_blankOut : Cond.code yX4_blankOut cX4_blankOut 4 none ∈ wsG := kGm (tab_6 (List.mem_of_getElem? (i := 75) rfl)) rfl
set_option maxRecDepth 20000 in
theorem kc_X4_filter : Cond.code yX4_filter cX4_filter 7 (some .int) ∈ wsG := kGm (tab_6 (List.mem_of_getElem? (i := 84) rfl)) rfl
set_option maxRecDepth 20000 in
theorem kc_X4_project : Cond.code yX4_project cX4_project 7 none ∈ wsG := kGm (tab_6 (List.mem_of_getElem? (i := 148) rfl)) rfl
set_option maxRecDepth 20000 in
theorem kc_X4_group : Cond.code yX4_group cX4_group 13 (some .int) ∈ wsG := kGm (tab_6 (List.mem_of_getElem? (i := 89) rfl)) rfl
set_option maxRecDepth 20000 in
theorem kc_X4_computeInsides : Cond.code yX4_computeInsides cX4_computeInsides 6 none ∈ wsG := kGm (tab_6 (List.mem_of_getElem? (i := 106) rfl)) rfl
set_option maxRecDepth 20000 in
theorem kc_X4_fold : Cond.code yX4_fold cX4_fold 9 none ∈ wsG := kGm (tab_6 (List.mem_of_getElem? (i := 131) rfl)) rfl
set_option maxRecDepth 20000 in
theorem kc_X4_foldOne : Cond.code yX4_foldOne cX4_foldOne 17 none ∈ wsG := kGm (tab_6 (List.mem_of_getElem? (i := 135) rfl)) rfl
set_option maxRecDepth 20000 in
theorem kc_X5_init : Cond.code yX5_init cX5_init 1 none ∈ wsG := kGm (tab_2 (List.mem_of_getElem? (i := 200) rfl)) rfl
set_option maxRecDepth 20000 in
theorem kc_X5_isGrouped : Cond.code yX5_isGrouped cX5_isGrouped 1 (some .boolean) ∈ wsG := kGm (tab_5 (List.mem_of_getElem? (i := 152) rfl)) rfl
set_option maxRecDepth 20000 in
theorem kc_X5_joinedWidth : Cond.code yX5_joinedWidth cX5_joinedWidth 3 (some .int) ∈ wsG := kGm (tab_6 (List.mem_of_getElem? (i := 80) rfl)) rfl
set_option maxRecDepth 20000 in
theorem kc_X6_init : Cond.code yX6_init cX6_init 1 none ∈ wsG := kGm (tab_4 (List.mem_of_getElem? (i := 149) rfl)) rfl
set_option maxRecDepth 20000 in
theorem kc_X7_init : Cond.code yX7_init cX7_init 1 none ∈ wsG := kGm (tab_1 (List.mem_of_getElem? (i := 40) rfl)) rfl
set_option maxRecDepth 20000 in
theorem kc_X7_open : Cond.code yX7_open cX7_open 2 (some .int) ∈ wsG := kGm (tab_2 (List.mem_of_getElem? (i := 76) rfl)) rfl
set_option maxRecDepth 20000 in
theorem kc_X7_exists : Cond.code yX7_exists cX7_exists 2 (some .boolean) ∈ wsG := kGm (tab_5 (List.mem_of_getElem? (i := 91) rfl)) rfl
set_option maxRecDepth 20000 in
theorem kc_X7_columnCount : Cond.code yX7_columnCount cX7_columnCount 2 (some .int) ∈ wsG := kGm (tab_5 (List.mem_of_getElem? (i := 95) rfl)) rfl
set_option maxRecDepth 20000 in
theorem kc_X7_draft : Cond.code yX7_draft cX7_draft 4 (some .int) ∈ wsG := kGm (tab_6 (List.mem_of_getElem? (i := 196) rfl)) rfl
set_option maxRecDepth 20000 in
theorem kc_X7_settle : Cond.code yX7_settle cX7_settle 6 (some .int) ∈ wsG := kGm (tab_6 (List.mem_of_getElem? (i := 208) rfl)) rfl
set_option maxRecDepth 20000 in
theorem kc_X7_freePlace : Cond.code yX7_freePlace cX7_freePlace 3 (some .int) ∈ wsG := kGm (tab_6 (List.mem_of_getElem? (i := 213) rfl)) rfl
set_option maxRecDepth 20000 in
theorem kc_X7_write : Cond.code yX7_write cX7_write 6 none ∈ wsG := kGm (tab_6 (List.mem_of_getElem? (i := 217) rfl)) rfl
set_option maxRecDepth 20000 in
theorem kc_X7_holds : Cond.code yX7_holds cX7_holds 3 (some .boolean) ∈ wsG := kGm (tab_6 (List.mem_of_getElem? (i := 11) rfl)) rfl
set_option maxRecDepth 20000 in
theorem kc_X7_remove : Cond.code yX7_remove cX7_remove 3 (some .boolean) ∈ wsG := kGm (tab_6 (List.mem_of_getElem? (i := 226) rfl)) rfl
set_option maxRecDepth 20000 in
theorem kc_X7_rowCount : Cond.code yX7_rowCount cX7_rowCount 3 (some .int) ∈ wsG := kGm (tab_7 (List.mem_of_getElem? (i := 60) rfl)) rfl
set_option maxRecDepth 20000 in
theorem kc_X7_shows : Cond.code yX7_shows cX7_shows 9 (some .boolean) ∈ wsG := kGm (tab_6 (List.mem_of_getElem? (i := 7) rfl)) rfl
set_option maxRecDepth 20000 in
theorem kc_X7_copyRow : Cond.code yX7_copyRow cX7_copyRow 7 none ∈ wsG := kGm (tab_6 (List.mem_of_getElem? (i := 15) rfl)) rfl
set_option maxRecDepth 20000 in
theorem kc_X8_init : Cond.code yX8_init cX8_init 1 none ∈ wsG := kGm (tab_1 (List.mem_of_getElem? (i := 167) rfl)) rfl
set_option maxRecDepth 20000 in
theorem kc_X8_reserve : Cond.code yX8_reserve cX8_reserve 2 none ∈ wsG := kGm (tab_5 (List.mem_of_getElem? (i := 200) rfl)) rfl
set_option maxRecDepth 20000 in
theorem kc_X8_holds : Cond.code yX8_holds cX8_holds 2 (some .boolean) ∈ wsG := kGm (tab_5 (List.mem_of_getElem? (i := 222) rfl)) rfl
set_option maxRecDepth 20000 in
theorem kc_X8_valueOf : Cond.code yX8_valueOf cX8_valueOf 2 (some .long) ∈ wsG := kGm (tab_6 (List.mem_of_getElem? (i := 45) rfl)) rfl
set_option maxRecDepth 20000 in
theorem kc_X8_isBlank : Cond.code yX8_isBlank cX8_isBlank 2 (some .boolean) ∈ wsG := kGm (tab_6 (List.mem_of_getElem? (i := 49) rfl)) rfl
set_option maxRecDepth 20000 in
theorem kc_X8_put : Cond.code yX8_put cX8_put 5 none ∈ wsG := kGm (tab_6 (List.mem_of_getElem? (i := 19) rfl)) rfl
set_option maxRecDepth 20000 in
theorem kc_X8_set : Cond.code yX8_set cX8_set 5 none ∈ wsG := kGm (tab_6 (List.mem_of_getElem? (i := 23) rfl)) rfl
set_option maxRecDepth 20000 in
theorem kc_X8_copy : Cond.code yX8_copy cX8_copy 4 none ∈ wsG := kGm (tab_6 (List.mem_of_getElem? (i := 31) rfl)) rfl
set_option maxRecDepth 20000 in
theorem kc_X8_take : Cond.code yX8_take cX8_take 3 none ∈ wsG := kGm (tab_5 (List.mem_of_getElem? (i := 196) rfl)) rfl
set_option maxRecDepth 20000 in
theorem kc_X8_compareRows : Cond.code yX8_compareRows cX8_compareRows 8 (some .int) ∈ wsG := kGm (tab_6 (List.mem_of_getElem? (i := 120) rfl)) rfl
set_option maxRecDepth 20000 in
theorem kc_X8_repeats : Cond.code yX8_repeats cX8_repeats 5 (some .int) ∈ wsG := kGm (tab_6 (List.mem_of_getElem? (i := 182) rfl)) rfl
set_option maxRecDepth 20000 in
theorem kc_X8_sort : Cond.code yX8_sort cX8_sort 7 none ∈ wsG := kGm (tab_6 (List.mem_of_getElem? (i := 111) rfl)) rfl
set_option maxRecDepth 20000 in
theorem kc_X8_mergeRuns : Cond.code yX8_mergeRuns cX8_mergeRuns 12 none ∈ wsG := kGm (tab_6 (List.mem_of_getElem? (i := 115) rfl)) rfl
set_option maxRecDepth 20000 in
theorem kc_X8_once : Cond.code yX8_once cX8_once 8 (some .int) ∈ wsG := kGm (tab_6 (List.mem_of_getElem? (i := 152) rfl)) rfl
set_option maxRecDepth 20000 in
theorem kc_X9_init : Cond.code yX9_init cX9_init 3 none ∈ wsG := kGm (tab_2 (List.mem_of_getElem? (i := 187) rfl)) rfl
set_option maxRecDepth 20000 in
theorem kc_X9_read : Cond.code yX9_read cX9_read 1 none ∈ wsG := kGm (tab_4 (List.mem_of_getElem? (i := 2) rfl)) rfl
set_option maxRecDepth 20000 in
theorem kc_X9_columnType : Cond.code yX9_columnType cX9_columnType 2 (some .int) ∈ wsG := kGm (tab_7 (List.mem_of_getElem? (i := 41) rfl)) rfl
set_option maxRecDepth 20000 in
theorem kc_X9_visibleRows : Cond.code yX9_visibleRows cX9_visibleRows 5 (some .int) ∈ wsG := kGm (tab_7 (List.mem_of_getElem? (i := 64) rfl)) rfl
set_option maxRecDepth 20000 in
theorem kc_X9_refuse : Cond.code yX9_refuse cX9_refuse 3 none ∈ wsG := kGm (tab_4 (List.mem_of_getElem? (i := 30) rfl)) rfl
set_option maxRecDepth 20000 in
theorem kc_X9_kind : Cond.code yX9_kind cX9_kind 1 (some .int) ∈ wsG := kGm (tab_4 (List.mem_of_getElem? (i := 10) rfl)) rfl
set_option maxRecDepth 20000 in
theorem kc_X9_here : Cond.code yX9_here cX9_here 1 (some .int) ∈ wsG := kGm (tab_4 (List.mem_of_getElem? (i := 26) rfl)) rfl
set_option maxRecDepth 20000 in
theorem kc_X9_number : Cond.code yX9_number cX9_number 1 (some .long) ∈ wsG := kGm (tab_4 (List.mem_of_getElem? (i := 86) rfl)) rfl
set_option maxRecDepth 20000 in
theorem kc_X9_accept : Cond.code yX9_accept cX9_accept 3 (some .boolean) ∈ wsG := kGm (tab_4 (List.mem_of_getElem? (i := 6) rfl)) rfl
set_option maxRecDepth 20000 in
theorem kc_X9_expect : Cond.code yX9_expect cX9_expect 2 none ∈ wsG := kGm (tab_4 (List.mem_of_getElem? (i := 22) rfl)) rfl
set_option maxRecDepth 20000 in
theorem kc_X9_readName : Cond.code yX9_readName cX9_readName 3 (some .long) ∈ wsG := kGm (tab_4 (List.mem_of_getElem? (i := 132) rfl)) rfl
set_option maxRecDepth 20000 in
theorem kc_X9_readNumber : Cond.code yX9_readNumber cX9_readNumber 5 (some .long) ∈ wsG := kGm (tab_4 (List.mem_of_getElem? (i := 223) rfl)) rfl
set_option maxRecDepth 20000 in
theorem kc_X9_readQuery : Cond.code yX9_readQuery cX9_readQuery 7 (some (.object "StreamQueries$Query")) ∈ wsG := kGm (tab_4 (List.mem_of_getElem? (i := 14) rfl)) rfl
set_option maxRecDepth 20000 in
theorem kc_X9_beginsSet : Cond.code yX9_beginsSet cX9_beginsSet 1 (some .boolean) ∈ wsG := kGm (tab_4 (List.mem_of_getElem? (i := 233) rfl)) rfl
set_option maxRecDepth 20000 in
theorem kc_X9_readOrder : Cond.code yX9_readOrder cX9_readOrder 6 none ∈ wsG := kGm (tab_4 (List.mem_of_getElem? (i := 238) rfl)) rfl
set_option maxRecDepth 20000 in
theorem kc_X9_refuseNinth : Cond.code yX9_refuseNinth cX9_refuseNinth 3 none ∈ wsG := kGm (tab_4 (List.mem_of_getElem? (i := 42) rfl)) rfl
set_option maxRecDepth 20000 in
theorem kc_X9_beginsExpr : Cond.code yX9_beginsExpr cX9_beginsExpr 3 (some .boolean) ∈ wsG := kGm (tab_4 (List.mem_of_getElem? (i := 46) rfl)) rfl
set_option maxRecDepth 20000 in
theorem kc_X9_readSelect : Cond.code yX9_readSelect cX9_readSelect 5 (some (.object "StreamQueries$Select")) ∈ wsG := kGm (tab_4 (List.mem_of_getElem? (i := 18) rfl)) rfl
set_option maxRecDepth 20000 in
theorem kc_X9_readItem : Cond.code yX9_readItem cX9_readItem 6 none ∈ wsG := kGm (tab_4 (List.mem_of_getElem? (i := 34) rfl)) rfl
set_option maxRecDepth 20000 in
theorem kc_X9_readGroups : Cond.code yX9_readGroups cX9_readGroups 6 none ∈ wsG := kGm (tab_4 (List.mem_of_getElem? (i := 230) rfl)) rfl
set_option maxRecDepth 20000 in
theorem kc_X9_readSources : Cond.code yX9_readSources cX9_readSources 6 none ∈ wsG := kGm (tab_4 (List.mem_of_getElem? (i := 141) rfl)) rfl
set_option maxRecDepth 20000 in
theorem kc_X9_addSource : Cond.code yX9_addSource cX9_addSource 2 none ∈ wsG := kGm (tab_4 (List.mem_of_getElem? (i := 226) rfl)) rfl
set_option maxRecDepth 20000 in
theorem kc_X9_readSource : Cond.code yX9_readSource cX9_readSource 2 (some (.object "StreamQueries$Source")) ∈ wsG := kGm (tab_4 (List.mem_of_getElem? (i := 145) rfl)) rfl
set_option maxRecDepth 20000 in
theorem kc_X9_readLeaf : Cond.code yX9_readLeaf cX9_readLeaf 4 none ∈ wsG := kGm (tab_4 (List.mem_of_getElem? (i := 216) rfl)) rfl
set_option maxRecDepth 20000 in
theorem kc_X9_deepen : Cond.code yX9_deepen cX9_deepen 1 none ∈ wsG := kGm (tab_4 (List.mem_of_getElem? (i := 108) rfl)) rfl
set_option maxRecDepth 20000 in
theorem kc_X9_complete : Cond.code yX9_complete cX9_complete 6 (some .int) ∈ wsG := kGm (tab_4 (List.mem_of_getElem? (i := 90) rfl)) rfl
set_option maxRecDepth 20000 in
theorem kc_X9_readExpr : Cond.code yX9_readExpr cX9_readExpr 5 (some .int) ∈ wsG := kGm (tab_4 (List.mem_of_getElem? (i := 50) rfl)) rfl
set_option maxRecDepth 20000 in
theorem kc_X9_readConjunction : Cond.code yX9_readConjunction cX9_readConjunction 5 none ∈ wsG := kGm (tab_4 (List.mem_of_getElem? (i := 54) rfl)) rfl
set_option maxRecDepth 20000 in
theorem kc_X9_readNegation : Cond.code yX9_readNegation cX9_readNegation 3 none ∈ wsG := kGm (tab_4 (List.mem_of_getElem? (i := 58) rfl)) rfl
set_option maxRecDepth 20000 in
theorem kc_X9_readTest : Cond.code yX9_readTest cX9_readTest 6 none ∈ wsG := kGm (tab_4 (List.mem_of_getElem? (i := 62) rfl)) rfl
set_option maxRecDepth 20000 in
theorem kc_X9_readList : Cond.code yX9_readList cX9_readList 8 none ∈ wsG := kGm (tab_4 (List.mem_of_getElem? (i := 128) rfl)) rfl
set_option maxRecDepth 20000 in
theorem kc_X9_readSum : Cond.code yX9_readSum cX9_readSum 6 none ∈ wsG := kGm (tab_4 (List.mem_of_getElem? (i := 66) rfl)) rfl
set_option maxRecDepth 20000 in
theorem kc_X9_readPart : Cond.code yX9_readPart cX9_readPart 6 none ∈ wsG := kGm (tab_4 (List.mem_of_getElem? (i := 70) rfl)) rfl
set_option maxRecDepth 20000 in
theorem kc_X9_readSign : Cond.code yX9_readSign cX9_readSign 3 none ∈ wsG := kGm (tab_4 (List.mem_of_getElem? (i := 74) rfl)) rfl
set_option maxRecDepth 20000 in
theorem kc_X9_readOne : Cond.code yX9_readOne cX9_readOne 1 none ∈ wsG := kGm (tab_4 (List.mem_of_getElem? (i := 78) rfl)) rfl
set_option maxRecDepth 20000 in
theorem kc_X9_readLiteral : Cond.code yX9_readLiteral cX9_readLiteral 6 none ∈ wsG := kGm (tab_4 (List.mem_of_getElem? (i := 82) rfl)) rfl
set_option maxRecDepth 20000 in
theorem kc_X9_readColumn : Cond.code yX9_readColumn cX9_readColumn 8 none ∈ wsG := kGm (tab_4 (List.mem_of_getElem? (i := 103) rfl)) rfl
set_option maxRecDepth 20000 in
theorem kc_X9_readCase : Cond.code yX9_readCase cX9_readCase 3 none ∈ wsG := kGm (tab_4 (List.mem_of_getElem? (i := 112) rfl)) rfl
set_option maxRecDepth 20000 in
theorem kc_X9_readSpan : Cond.code yX9_readSpan cX9_readSpan 3 none ∈ wsG := kGm (tab_4 (List.mem_of_getElem? (i := 116) rfl)) rfl
set_option maxRecDepth 20000 in
theorem kc_X9_readAggregate : Cond.code yX9_readAggregate cX9_readAggregate 7 none ∈ wsG := kGm (tab_4 (List.mem_of_getElem? (i := 120) rfl)) rfl
set_option maxRecDepth 20000 in
theorem kc_X9_noteAggregate : Cond.code yX9_noteAggregate cX9_noteAggregate 4 none ∈ wsG := kGm (tab_4 (List.mem_of_getElem? (i := 124) rfl)) rfl
set_option maxRecDepth 20000 in
theorem kc_X10_init : Cond.code yX10_init cX10_init 6 none ∈ wsG := kGm (tab_1 (List.mem_of_getElem? (i := 80) rfl)) rfl
set_option maxRecDepth 20000 in
theorem kc_X10_scan : Cond.code yX10_scan cX10_scan 5 none ∈ wsG := kGm (tab_2 (List.mem_of_getElem? (i := 84) rfl)) rfl
set_option maxRecDepth 20000 in
theorem kc_X10_scanToken : Cond.code yX10_scanToken cX10_scanToken 3 none ∈ wsG := kGm (tab_2 (List.mem_of_getElem? (i := 102) rfl)) rfl
set_option maxRecDepth 20000 in
theorem kc_X10_byteAt : Cond.code yX10_byteAt cX10_byteAt 2 (some .int) ∈ wsG := kGm (tab_2 (List.mem_of_getElem? (i := 95) rfl)) rfl
set_option maxRecDepth 20000 in
theorem kc_X10_skipBlanks : Cond.code yX10_skipBlanks cX10_skipBlanks 1 none ∈ wsG := kGm (tab_2 (List.mem_of_getElem? (i := 91) rfl)) rfl
set_option maxRecDepth 20000 in
theorem kc_X10_isBlankByte : Cond.code yX10_isBlankByte cX10_isBlankByte 1 (some .boolean) ∈ wsG := kGm (tab_2 (List.mem_of_getElem? (i := 98) rfl)) rfl
set_option maxRecDepth 20000 in
theorem kc_X10_isLetter : Cond.code yX10_isLetter cX10_isLetter 1 (some .boolean) ∈ wsG := kGm (tab_2 (List.mem_of_getElem? (i := 105) rfl)) rfl
set_option maxRecDepth 20000 in
theorem kc_X10_isDigit : Cond.code yX10_isDigit cX10_isDigit 1 (some .boolean) ∈ wsG := kGm (tab_1 (List.mem_of_getElem? (i := 137) rfl)) rfl
set_option maxRecDepth 20000 in
theorem kc_X10_letterCode : Cond.code yX10_letterCode cX10_letterCode 1 (some .int) ∈ wsG := kGm (tab_1 (List.mem_of_getElem? (i := 134) rfl)) rfl
set_option maxRecDepth 20000 in
theorem kc_X10_scanWord : Cond.code yX10_scanWord cX10_scanWord 5 none ∈ wsG := kGm (tab_2 (List.mem_of_getElem? (i := 109) rfl)) rfl
set_option maxRecDepth 20000 in
theorem kc_X10_wordKind : Cond.code yX10_wordKind cX10_wordKind 4 (some .int) ∈ wsG := kGm (tab_2 (List.mem_of_getElem? (i := 113) rfl)) rfl
set_option maxRecDepth 20000 in
theorem kc_X10_scanNumber : Cond.code yX10_scanNumber cX10_scanNumber 5 none ∈ wsG := kGm (tab_2 (List.mem_of_getElem? (i := 117) rfl)) rfl
set_option maxRecDepth 20000 in
theorem kc_X10_scanSign : Cond.code yX10_scanSign cX10_scanSign 5 (some .int) ∈ wsG := kGm (tab_2 (List.mem_of_getElem? (i := 123) rfl)) rfl
set_option maxRecDepth 20000 in
theorem kc_X10_longerSign : Cond.code yX10_longerSign cX10_longerSign 2 (some .int) ∈ wsG := kGm (tab_2 (List.mem_of_getElem? (i := 182) rfl)) rfl
set_option maxRecDepth 20000 in
theorem kc_X11_init : Cond.code yX11_init cX11_init 1 none ∈ wsG := kGm (tab_1 (List.mem_of_getElem? (i := 32) rfl)) rfl
set_option maxRecDepth 20000 in
theorem kc_X11_feed : Cond.code yX11_feed cX11_feed 6 (some .int) ∈ wsG := kGm (tab_2 (List.mem_of_getElem? (i := 60) rfl)) rfl
set_option maxRecDepth 20000 in
theorem kc_X11_takeFour : Cond.code yX11_takeFour cX11_takeFour 3 none ∈ wsG := kGm (tab_2 (List.mem_of_getElem? (i := 64) rfl)) rfl
set_option maxRecDepth 20000 in
theorem kc_X11_cut : Cond.code yX11_cut cX11_cut 3 (some .int) ∈ wsG := kGm (tab_2 (List.mem_of_getElem? (i := 68) rfl)) rfl
set_option maxRecDepth 20000 in
theorem kc_X11_stream : Cond.code yX11_stream cX11_stream 2 (some .int) ∈ wsG := kGm (tab_2 (List.mem_of_getElem? (i := 72) rfl)) rfl
set_option maxRecDepth 20000 in
theorem kc_X11_query : Cond.code yX11_query cX11_query 3 (some .int) ∈ wsG := kGm (tab_2 (List.mem_of_getElem? (i := 80) rfl)) rfl
set_option maxRecDepth 20000 in
theorem kc_X11_fault : Cond.code yX11_fault cX11_fault 1 (some .int) ∈ wsG := kGm (tab_6 (List.mem_of_getElem? (i := 188) rfl)) rfl
set_option maxRecDepth 20000 in
theorem kc_X11_value : Cond.code yX11_value cX11_value 3 (some .int) ∈ wsG := kGm (tab_6 (List.mem_of_getElem? (i := 192) rfl)) rfl
set_option maxRecDepth 20000 in
theorem kc_X11_nothing : Cond.code yX11_nothing cX11_nothing 1 (some .int) ∈ wsG := kGm (tab_6 (List.mem_of_getElem? (i := 200) rfl)) rfl
set_option maxRecDepth 20000 in
theorem kc_X11_row : Cond.code yX11_row cX11_row 5 (some .int) ∈ wsG := kGm (tab_6 (List.mem_of_getElem? (i := 204) rfl)) rfl
set_option maxRecDepth 20000 in
theorem kc_X11_back : Cond.code yX11_back cX11_back 3 (some .boolean) ∈ wsG := kGm (tab_6 (List.mem_of_getElem? (i := 222) rfl)) rfl
set_option maxRecDepth 20000 in
theorem kc_X11_watermark : Cond.code yX11_watermark cX11_watermark 3 (some .int) ∈ wsG := kGm (tab_6 (List.mem_of_getElem? (i := 230) rfl)) rfl
set_option maxRecDepth 20000 in
theorem kc_X11_changes : Cond.code yX11_changes cX11_changes 1 (some .int) ∈ wsG := kGm (tab_6 (List.mem_of_getElem? (i := 234) rfl)) rfl
set_option maxRecDepth 20000 in
theorem kc_X11_change : Cond.code yX11_change cX11_change 2 (some .int) ∈ wsG := kGm (tab_6 (List.mem_of_getElem? (i := 238) rfl)) rfl
set_option maxRecDepth 20000 in
theorem kc_X11_changed : Cond.code yX11_changed cX11_changed 4 (some .long) ∈ wsG := kGm (tab_7 (List.mem_of_getElem? (i := 2) rfl)) rfl
set_option maxRecDepth 20000 in
theorem kc_X11_changedNull : Cond.code yX11_changedNull cX11_changedNull 4 (some .boolean) ∈ wsG := kGm (tab_7 (List.mem_of_getElem? (i := 12) rfl)) rfl
set_option maxRecDepth 20000 in
theorem kc_X11_rows : Cond.code yX11_rows cX11_rows 1 (some .int) ∈ wsG := kGm (tab_7 (List.mem_of_getElem? (i := 17) rfl)) rfl
set_option maxRecDepth 20000 in
theorem kc_X11_at : Cond.code yX11_at cX11_at 4 (some .long) ∈ wsG := kGm (tab_7 (List.mem_of_getElem? (i := 21) rfl)) rfl
set_option maxRecDepth 20000 in
theorem kc_X11_isNull : Cond.code yX11_isNull cX11_isNull 4 (some .boolean) ∈ wsG := kGm (tab_7 (List.mem_of_getElem? (i := 33) rfl)) rfl
set_option maxRecDepth 20000 in
theorem kc_X11_type : Cond.code yX11_type cX11_type 2 (some .int) ∈ wsG := kGm (tab_7 (List.mem_of_getElem? (i := 37) rfl)) rfl
set_option maxRecDepth 20000 in
theorem kc_X11_three : Cond.code yX11_three cX11_three 4 (some .int) ∈ wsG := kGm (tab_7 (List.mem_of_getElem? (i := 46) rfl)) rfl
set_option maxRecDepth 20000 in
theorem kc_X11_told : Cond.code yX11_told cX11_told 2 (some .int) ∈ wsG := kGm (tab_7 (List.mem_of_getElem? (i := 56) rfl)) rfl
set_option maxRecDepth 20000 in
theorem kc_X11_width : Cond.code yX11_width cX11_width 1 (some .int) ∈ wsG := kGm (tab_5 (List.mem_of_getElem? (i := 192) rfl)) rfl
set_option maxRecDepth 20000 in
theorem kc_X11_answerStrip : Cond.code yX11_answerStrip cX11_answerStrip 1 (some (.object "StreamQueries$Strip")) ∈ wsG := kGm (tab_7 (List.mem_of_getElem? (i := 29) rfl)) rfl
set_option maxRecDepth 20000 in
theorem kc_X11_answerCell : Cond.code yX11_answerCell cX11_answerCell 3 (some .int) ∈ wsG := kGm (tab_7 (List.mem_of_getElem? (i := 25) rfl)) rfl
set_option maxRecDepth 20000 in
theorem kc_X11_changeCell : Cond.code yX11_changeCell cX11_changeCell 3 (some .int) ∈ wsG := kGm (tab_7 (List.mem_of_getElem? (i := 6) rfl)) rfl
set_option maxRecDepth 20000 in
theorem kc_X11_answer : Cond.code yX11_answer cX11_answer 4 none ∈ wsG := kGm (tab_5 (List.mem_of_getElem? (i := 188) rfl)) rfl
set_option maxRecDepth 20000 in
theorem kc_X11_makeRoomForChanges : Cond.code yX11_makeRoomForChanges cX11_makeRoomForChanges 2 none ∈ wsG := kGm (tab_6 (List.mem_of_getElem? (i := 174) rfl)) rfl
set_option maxRecDepth 20000 in
theorem kc_X11_tellChanges : Cond.code yX11_tellChanges cX11_tellChanges 12 none ∈ wsG := kGm (tab_6 (List.mem_of_getElem? (i := 178) rfl)) rfl
set_option maxRecDepth 20000 in
theorem kc_X12_init : Cond.code yX12_init cX12_init 1 none ∈ wsG := kGm (tab_7 (List.mem_of_getElem? (i := 70) rfl)) rfl
set_option maxRecDepth 20000 in
theorem kc_X12_feed : Cond.code yX12_feed cX12_feed 6 (some .int) ∈ wsG := kGm (tab_8 (List.mem_of_getElem? (i := 184) rfl)) rfl
set_option maxRecDepth 20000 in
theorem kc_X12_lay : Cond.code yX12_lay cX12_lay 3 none ∈ wsG := kGm (tab_8 (List.mem_of_getElem? (i := 188) rfl)) rfl
set_option maxRecDepth 20000 in
theorem kc_X12_cut : Cond.code yX12_cut cX12_cut 3 (some .int) ∈ wsG := kGm (tab_8 (List.mem_of_getElem? (i := 192) rfl)) rfl
set_option maxRecDepth 20000 in
theorem kc_X12_stream : Cond.code yX12_stream cX12_stream 2 (some .int) ∈ wsG := kGm (tab_8 (List.mem_of_getElem? (i := 196) rfl)) rfl
set_option maxRecDepth 20000 in
theorem kc_X12_value : Cond.code yX12_value cX12_value 3 (some .int) ∈ wsG := kGm (tab_8 (List.mem_of_getElem? (i := 200) rfl)) rfl
set_option maxRecDepth 20000 in
theorem kc_X12_nothing : Cond.code yX12_nothing cX12_nothing 1 (some .int) ∈ wsG := kGm (tab_8 (List.mem_of_getElem? (i := 208) rfl)) rfl
set_option maxRecDepth 20000 in
theorem kc_X12_draft : Cond.code yX12_draft cX12_draft 4 (some .int) ∈ wsG := kGm (tab_8 (List.mem_of_getElem? (i := 204) rfl)) rfl
set_option maxRecDepth 20000 in
theorem kc_X12_row : Cond.code yX12_row cX12_row 8 (some .int) ∈ wsG := kGm (tab_8 (List.mem_of_getElem? (i := 212) rfl)) rfl
set_option maxRecDepth 20000 in
theorem kc_X12_back : Cond.code yX12_back cX12_back 3 (some .boolean) ∈ wsG := kGm (tab_9 (List.mem_of_getElem? (i := 115) rfl)) rfl
set_option maxRecDepth 20000 in
theorem kc_X12_watermark : Cond.code yX12_watermark cX12_watermark 3 (some .int) ∈ wsG := kGm (tab_9 (List.mem_of_getElem? (i := 119) rfl)) rfl
set_option maxRecDepth 20000 in
theorem kc_X12_isLetter : Cond.code yX12_isLetter cX12_isLetter 1 (some .boolean) ∈ wsG := kGm (tab_9 (List.mem_of_getElem? (i := 134) rfl)) rfl
set_option maxRecDepth 20000 in
theorem kc_X12_isDigit : Cond.code yX12_isDigit cX12_isDigit 1 (some .boolean) ∈ wsG := kGm (tab_9 (List.mem_of_getElem? (i := 137) rfl)) rfl
set_option maxRecDepth 20000 in
theorem kc_X12_tokens : Cond.code yX12_tokens cX12_tokens 9 none ∈ wsG := kGm (tab_9 (List.mem_of_getElem? (i := 131) rfl)) rfl
set_option maxRecDepth 20000 in
theorem kc_X12_tell : Cond.code yX12_tell cX12_tell 3 none ∈ wsG := kGm (tab_9 (List.mem_of_getElem? (i := 175) rfl)) rfl
set_option maxRecDepth 20000 in
theorem kc_X12_wrong : Cond.code yX12_wrong cX12_wrong 1 none ∈ wsG := kGm (tab_9 (List.mem_of_getElem? (i := 171) rfl)) rfl
set_option maxRecDepth 20000 in
theorem kc_X12_isText : Cond.code yX12_isText cX12_isText 4 (some .boolean) ∈ wsG := kGm (tab_9 (List.mem_of_getElem? (i := 152) rfl)) rfl
set_option maxRecDepth 20000 in
theorem kc_X12_isWord : Cond.code yX12_isWord cX12_isWord 2 (some .boolean) ∈ wsG := kGm (tab_9 (List.mem_of_getElem? (i := 148) rfl)) rfl
set_option maxRecDepth 20000 in
theorem kc_X12_takeWord : Cond.code yX12_takeWord cX12_takeWord 3 (some .boolean) ∈ wsG := kGm (tab_9 (List.mem_of_getElem? (i := 144) rfl)) rfl
set_option maxRecDepth 20000 in
theorem kc_X12_needWord : Cond.code yX12_needWord cX12_needWord 2 none ∈ wsG := kGm (tab_9 (List.mem_of_getElem? (i := 167) rfl)) rfl
set_option maxRecDepth 20000 in
theorem kc_X12_isSign : Cond.code yX12_isSign cX12_isSign 2 (some .boolean) ∈ wsG := kGm (tab_9 (List.mem_of_getElem? (i := 228) rfl)) rfl
set_option maxRecDepth 20000 in
theorem kc_X12_takeSign : Cond.code yX12_takeSign cX12_takeSign 3 (some .boolean) ∈ wsG := kGm (tab_10 (List.mem_of_getElem? (i := 8) rfl)) rfl
set_option maxRecDepth 20000 in
theorem kc_X12_needSign : Cond.code yX12_needSign cX12_needSign 2 none ∈ wsG := kGm (tab_10 (List.mem_of_getElem? (i := 4) rfl)) rfl
set_option maxRecDepth 20000 in
theorem kc_X12_isTaken : Cond.code yX12_isTaken cX12_isTaken 6 (some .boolean) ∈ wsG := kGm (tab_9 (List.mem_of_getElem? (i := 194) rfl)) rfl
set_option maxRecDepth 20000 in
theorem kc_X12_isName : Cond.code yX12_isName cX12_isName 1 (some .boolean) ∈ wsG := kGm (tab_10 (List.mem_of_getElem? (i := 28) rfl)) rfl
set_option maxRecDepth 20000 in
theorem kc_X12_name : Cond.code yX12_name cX12_name 1 (some .int) ∈ wsG := kGm (tab_10 (List.mem_of_getElem? (i := 24) rfl)) rfl
set_option maxRecDepth 20000 in
theorem kc_X12_isSame : Cond.code yX12_isSame cX12_isSame 4 (some .boolean) ∈ wsG := kGm (tab_10 (List.mem_of_getElem? (i := 70) rfl)) rfl
set_option maxRecDepth 20000 in
theorem kc_X12_deeper : Cond.code yX12_deeper cX12_deeper 2 none ∈ wsG := kGm (tab_10 (List.mem_of_getElem? (i := 0) rfl)) rfl
set_option maxRecDepth 20000 in
theorem kc_X12_begins : Cond.code yX12_begins cX12_begins 5 (some .boolean) ∈ wsG := kGm (tab_9 (List.mem_of_getElem? (i := 180) rfl)) rfl
set_option maxRecDepth 20000 in
theorem kc_X12_make : Cond.code yX12_make cX12_make 8 (some .int) ∈ wsG := kGm (tab_9 (List.mem_of_getElem? (i := 236) rfl)) rfl
set_option maxRecDepth 20000 in
theorem kc_X12_expr : Cond.code yX12_expr cX12_expr 5 (some .int) ∈ wsG := kGm (tab_9 (List.mem_of_getElem? (i := 200) rfl)) rfl
set_option maxRecDepth 20000 in
theorem kc_X12_andExpr : Cond.code yX12_andExpr cX12_andExpr 5 (some .int) ∈ wsG := kGm (tab_9 (List.mem_of_getElem? (i := 204) rfl)) rfl
set_option maxRecDepth 20000 in
theorem kc_X12_notExpr : Cond.code yX12_notExpr cX12_notExpr 3 (some .int) ∈ wsG := kGm (tab_9 (List.mem_of_getElem? (i := 208) rfl)) rfl
set_option maxRecDepth 20000 in
theorem kc_X12_test : Cond.code yX12_test cX12_test 11 (some .int) ∈ wsG := kGm (tab_9 (List.mem_of_getElem? (i := 212) rfl)) rfl
set_option maxRecDepth 20000 in
theorem kc_X12_sum : Cond.code yX12_sum cX12_sum 6 (some .int) ∈ wsG := kGm (tab_9 (List.mem_of_getElem? (i := 216) rfl)) rfl
set_option maxRecDepth 20000 in
theorem kc_X12_part : Cond.code yX12_part cX12_part 6 (some .int) ∈ wsG := kGm (tab_9 (List.mem_of_getElem? (i := 220) rfl)) rfl
set_option maxRecDepth 20000 in
theorem kc_X12_sign : Cond.code yX12_sign cX12_sign 3 (some .int) ∈ wsG := kGm (tab_9 (List.mem_of_getElem? (i := 224) rfl)) rfl
set_option maxRecDepth 20000 in
theorem kc_X12_one : Cond.code yX12_one cX12_one 6 (some .int) ∈ wsG := kGm (tab_9 (List.mem_of_getElem? (i := 232) rfl)) rfl
set_option maxRecDepth 20000 in
theorem kc_X12_aggregate : Cond.code yX12_aggregate cX12_aggregate 4 (some .int) ∈ wsG := kGm (tab_10 (List.mem_of_getElem? (i := 16) rfl)) rfl
set_option maxRecDepth 20000 in
theorem kc_X12_columnOf : Cond.code yX12_columnOf cX12_columnOf 5 (some .int) ∈ wsG := kGm (tab_10 (List.mem_of_getElem? (i := 20) rfl)) rfl
set_option maxRecDepth 20000 in
theorem kc_X12_queryOf : Cond.code yX12_queryOf cX12_queryOf 8 (some .int) ∈ wsG := kGm (tab_9 (List.mem_of_getElem? (i := 158) rfl)) rfl
set_option maxRecDepth 20000 in
theorem kc_X12_selectOf : Cond.code yX12_selectOf cX12_selectOf 9 (some .int) ∈ wsG := kGm (tab_9 (List.mem_of_getElem? (i := 162) rfl)) rfl
set_option maxRecDepth 20000 in
theorem kc_X12_source : Cond.code yX12_source cX12_source 7 none ∈ wsG := kGm (tab_10 (List.mem_of_getElem? (i := 38) rfl)) rfl
set_option maxRecDepth 20000 in
theorem kc_X12_nameOf : Cond.code yX12_nameOf cX12_nameOf 3 (some .int) ∈ wsG := kGm (tab_10 (List.mem_of_getElem? (i := 106) rfl)) rfl
set_option maxRecDepth 20000 in
theorem kc_X12_typeOf : Cond.code yX12_typeOf cX12_typeOf 3 (some .int) ∈ wsG := kGm (tab_10 (List.mem_of_getElem? (i := 114) rfl)) rfl
set_option maxRecDepth 20000 in
theorem kc_X12_columnsOf : Cond.code yX12_columnsOf cX12_columnsOf 2 (some .int) ∈ wsG := kGm (tab_10 (List.mem_of_getElem? (i := 74) rfl)) rfl
set_option maxRecDepth 20000 in
theorem kc_X12_isNamed : Cond.code yX12_isNamed cX12_isNamed 3 (some .boolean) ∈ wsG := kGm (tab_10 (List.mem_of_getElem? (i := 110) rfl)) rfl
set_option maxRecDepth 20000 in
theorem kc_X12_find : Cond.code yX12_find cX12_find 10 (some .int) ∈ wsG := kGm (tab_10 (List.mem_of_getElem? (i := 102) rfl)) rfl
set_option maxRecDepth 20000 in
theorem kc_X12_want : Cond.code yX12_want cX12_want 3 none ∈ wsG := kGm (tab_10 (List.mem_of_getElem? (i := 118) rfl)) rfl
set_option maxRecDepth 20000 in
theorem kc_X12_judge : Cond.code yX12_judge cX12_judge 6 none ∈ wsG := kGm (tab_10 (List.mem_of_getElem? (i := 98) rfl)) rfl
set_option maxRecDepth 20000 in
theorem kc_X12_isKept : Cond.code yX12_isKept cX12_isKept 2 (some .boolean) ∈ wsG := kGm (tab_10 (List.mem_of_getElem? (i := 82) rfl)) rfl
set_option maxRecDepth 20000 in
theorem kc_X12_isKeptSelect : Cond.code yX12_isKeptSelect cX12_isKeptSelect 4 (some .boolean) ∈ wsG := kGm (tab_10 (List.mem_of_getElem? (i := 78) rfl)) rfl
set_option maxRecDepth 20000 in
theorem kc_X12_isKeptQuery : Cond.code yX12_isKeptQuery cX12_isKeptQuery 4 (some .boolean) ∈ wsG := kGm (tab_10 (List.mem_of_getElem? (i := 86) rfl)) rfl
set_option maxRecDepth 20000 in
theorem kc_X12_bounded : Cond.code yX12_bounded cX12_bounded 3 none ∈ wsG := kGm (tab_10 (List.mem_of_getElem? (i := 90) rfl)) rfl
set_option maxRecDepth 20000 in
theorem kc_X12_judgeQuery : Cond.code yX12_judgeQuery cX12_judgeQuery 9 none ∈ wsG := kGm (tab_10 (List.mem_of_getElem? (i := 58) rfl)) rfl
set_option maxRecDepth 20000 in
theorem kc_X12_sourcesOf : Cond.code yX12_sourcesOf cX12_sourcesOf 3 none ∈ wsG := kGm (tab_10 (List.mem_of_getElem? (i := 94) rfl)) rfl
set_option maxRecDepth 20000 in
theorem kc_X12_judgeSelect : Cond.code yX12_judgeSelect cX12_judgeSelect 7 none ∈ wsG := kGm (tab_10 (List.mem_of_getElem? (i := 62) rfl)) rfl
set_option maxRecDepth 20000 in
theorem kc_X12_isGrouped : Cond.code yX12_isGrouped cX12_isGrouped 2 (some .boolean) ∈ wsG := kGm (tab_9 (List.mem_of_getElem? (i := 60) rfl)) rfl
set_option maxRecDepth 20000 in
theorem kc_X12_areNamed : Cond.code yX12_areNamed cX12_areNamed 5 (some .boolean) ∈ wsG := kGm (tab_10 (List.mem_of_getElem? (i := 66) rfl)) rfl
set_option maxRecDepth 20000 in
theorem kc_X12_take : Cond.code yX12_take cX12_take 2 none ∈ wsG := kGm (tab_9 (List.mem_of_getElem? (i := 127) rfl)) rfl
set_option maxRecDepth 20000 in
theorem kc_X12_query : Cond.code yX12_query cX12_query 3 (some .int) ∈ wsG := kGm (tab_9 (List.mem_of_getElem? (i := 123) rfl)) rfl
set_option maxRecDepth 20000 in
theorem kc_X12_fault : Cond.code yX12_fault cX12_fault 1 (some .int) ∈ wsG := kGm (tab_10 (List.mem_of_getElem? (i := 122) rfl)) rfl
set_option maxRecDepth 20000 in
theorem kc_X12_relation : Cond.code yX12_relation cX12_relation 3 (some .int) ∈ wsG := kGm (tab_8 (List.mem_of_getElem? (i := 232) rfl)) rfl
set_option maxRecDepth 20000 in
theorem kc_X12_newRow : Cond.code yX12_newRow cX12_newRow 2 (some .int) ∈ wsG := kGm (tab_9 (List.mem_of_getElem? (i := 4) rfl)) rfl
set_option maxRecDepth 20000 in
theorem kc_X12_rowAt : Cond.code yX12_rowAt cX12_rowAt 3 (some .int) ∈ wsG := kGm (tab_9 (List.mem_of_getElem? (i := 12) rfl)) rfl
set_option maxRecDepth 20000 in
theorem kc_X12_copy : Cond.code yX12_copy cX12_copy 5 none ∈ wsG := kGm (tab_9 (List.mem_of_getElem? (i := 16) rfl)) rfl
set_option maxRecDepth 20000 in
theorem kc_X12_compare : Cond.code yX12_compare cX12_compare 6 (some .int) ∈ wsG := kGm (tab_9 (List.mem_of_getElem? (i := 71) rfl)) rfl
set_option maxRecDepth 20000 in
theorem kc_X12_compareRows : Cond.code yX12_compareRows cX12_compareRows 6 (some .int) ∈ wsG := kGm (tab_9 (List.mem_of_getElem? (i := 68) rfl)) rfl
set_option maxRecDepth 20000 in
theorem kc_X12_truth : Cond.code yX12_truth cX12_truth 4 (some .int) ∈ wsG := kGm (tab_9 (List.mem_of_getElem? (i := 20) rfl)) rfl
set_option maxRecDepth 20000 in
theorem kc_X12_nothing0 : Cond.code yX12_nothing0 cX12_nothing0 1 (some .long) ∈ wsG := kGm (tab_9 (List.mem_of_getElem? (i := 32) rfl)) rfl
set_option maxRecDepth 20000 in
theorem kc_X12_some : Cond.code yX12_some cX12_some 3 (some .long) ∈ wsG := kGm (tab_9 (List.mem_of_getElem? (i := 28) rfl)) rfl
set_option maxRecDepth 20000 in
theorem kc_X12_ofTruth : Cond.code yX12_ofTruth cX12_ofTruth 2 (some .long) ∈ wsG := kGm (tab_9 (List.mem_of_getElem? (i := 43) rfl)) rfl
set_option maxRecDepth 20000 in
theorem kc_X12_eval : Cond.code yX12_eval cX12_eval 8 (some .long) ∈ wsG := kGm (tab_9 (List.mem_of_getElem? (i := 24) rfl)) rfl
set_option maxRecDepth 20000 in
theorem kc_X12_both : Cond.code yX12_both cX12_both 4 (some .int) ∈ wsG := kGm (tab_9 (List.mem_of_getElem? (i := 39) rfl)) rfl
set_option maxRecDepth 20000 in
theorem kc_X12_some2 : Cond.code yX12_some2 cX12_some2 9 (some .long) ∈ wsG := kGm (tab_9 (List.mem_of_getElem? (i := 51) rfl)) rfl
set_option maxRecDepth 20000 in
theorem kc_X12_isOneOf : Cond.code yX12_isOneOf cX12_isOneOf 9 (some .long) ∈ wsG := kGm (tab_9 (List.mem_of_getElem? (i := 47) rfl)) rfl
set_option maxRecDepth 20000 in
theorem kc_X12_aggregated : Cond.code yX12_aggregated cX12_aggregated 13 (some .long) ∈ wsG := kGm (tab_9 (List.mem_of_getElem? (i := 36) rfl)) rfl
set_option maxRecDepth 20000 in
theorem kc_X12_since : Cond.code yX12_since cX12_since 4 (some .long) ∈ wsG := kGm (tab_9 (List.mem_of_getElem? (i := 0) rfl)) rfl
set_option maxRecDepth 20000 in
theorem kc_X12_isIn : Cond.code yX12_isIn cX12_isIn 3 (some .boolean) ∈ wsG := kGm (tab_8 (List.mem_of_getElem? (i := 236) rfl)) rfl
set_option maxRecDepth 20000 in
theorem kc_X12_workSource : Cond.code yX12_workSource cX12_workSource 9 (some .int) ∈ wsG := kGm (tab_8 (List.mem_of_getElem? (i := 228) rfl)) rfl
set_option maxRecDepth 20000 in
theorem kc_X12_join : Cond.code yX12_join cX12_join 11 (some .int) ∈ wsG := kGm (tab_9 (List.mem_of_getElem? (i := 8) rfl)) rfl
set_option maxRecDepth 20000 in
theorem kc_X12_workSelect : Cond.code yX12_workSelect cX12_workSelect 5 (some .int) ∈ wsG := kGm (tab_8 (List.mem_of_getElem? (i := 224) rfl)) rfl
set_option maxRecDepth 20000 in
theorem kc_X12_filter : Cond.code yX12_filter cX12_filter 6 (some .int) ∈ wsG := kGm (tab_9 (List.mem_of_getElem? (i := 56) rfl)) rfl
set_option maxRecDepth 20000 in
theorem kc_X12_plain : Cond.code yX12_plain cX12_plain 7 (some .int) ∈ wsG := kGm (tab_9 (List.mem_of_getElem? (i := 75) rfl)) rfl
set_option maxRecDepth 20000 in
theorem kc_X12_grouped : Cond.code yX12_grouped cX12_grouped 10 (some .int) ∈ wsG := kGm (tab_9 (List.mem_of_getElem? (i := 64) rfl)) rfl
set_option maxRecDepth 20000 in
theorem kc_X12_hasRow : Cond.code yX12_hasRow cX12_hasRow 5 (some .boolean) ∈ wsG := kGm (tab_9 (List.mem_of_getElem? (i := 83) rfl)) rfl
set_option maxRecDepth 20000 in
theorem kc_X12_once : Cond.code yX12_once cX12_once 4 (some .int) ∈ wsG := kGm (tab_9 (List.mem_of_getElem? (i := 79) rfl)) rfl
set_option maxRecDepth 20000 in
theorem kc_X12_setOf : Cond.code yX12_setOf cX12_setOf 9 (some .int) ∈ wsG := kGm (tab_9 (List.mem_of_getElem? (i := 87) rfl)) rfl
set_option maxRecDepth 20000 in
theorem kc_X12_workQuery : Cond.code yX12_workQuery cX12_workQuery 5 (some .int) ∈ wsG := kGm (tab_8 (List.mem_of_getElem? (i := 220) rfl)) rfl
set_option maxRecDepth 20000 in
theorem kc_X12_ordered : Cond.code yX12_ordered cX12_ordered 10 (some .int) ∈ wsG := kGm (tab_9 (List.mem_of_getElem? (i := 91) rfl)) rfl
set_option maxRecDepth 20000 in
theorem kc_X12_ahead : Cond.code yX12_ahead cX12_ahead 10 (some .boolean) ∈ wsG := kGm (tab_9 (List.mem_of_getElem? (i := 95) rfl)) rfl
set_option maxRecDepth 20000 in
theorem kc_X12_sort : Cond.code yX12_sort cX12_sort 5 none ∈ wsG := kGm (tab_9 (List.mem_of_getElem? (i := 99) rfl)) rfl
set_option maxRecDepth 20000 in
theorem kc_X12_renew : Cond.code yX12_renew cX12_renew 8 none ∈ wsG := kGm (tab_8 (List.mem_of_getElem? (i := 216) rfl)) rfl
set_option maxRecDepth 20000 in
theorem kc_X12_compareAcross : Cond.code yX12_compareAcross cX12_compareAcross 7 (some .int) ∈ wsG := kGm (tab_9 (List.mem_of_getElem? (i := 107) rfl)) rfl
set_option maxRecDepth 20000 in
theorem kc_X12_isLikeNext : Cond.code yX12_isLikeNext cX12_isLikeNext 8 (some .boolean) ∈ wsG := kGm (tab_9 (List.mem_of_getElem? (i := 111) rfl)) rfl
set_option maxRecDepth 20000 in
theorem kc_X12_differ : Cond.code yX12_differ cX12_differ 10 none ∈ wsG := kGm (tab_9 (List.mem_of_getElem? (i := 103) rfl)) rfl
set_option maxRecDepth 20000 in
theorem kc_X12_changes : Cond.code yX12_changes cX12_changes 1 (some .int) ∈ wsG := kGm (tab_10 (List.mem_of_getElem? (i := 126) rfl)) rfl
set_option maxRecDepth 20000 in
theorem kc_X12_isChange : Cond.code yX12_isChange cX12_isChange 3 (some .boolean) ∈ wsG := kGm (tab_10 (List.mem_of_getElem? (i := 138) rfl)) rfl
set_option maxRecDepth 20000 in
theorem kc_X12_change : Cond.code yX12_change cX12_change 2 (some .int) ∈ wsG := kGm (tab_10 (List.mem_of_getElem? (i := 130) rfl)) rfl
set_option maxRecDepth 20000 in
theorem kc_X12_changed : Cond.code yX12_changed cX12_changed 3 (some .long) ∈ wsG := kGm (tab_10 (List.mem_of_getElem? (i := 134) rfl)) rfl
set_option maxRecDepth 20000 in
theorem kc_X12_changedNull : Cond.code yX12_changedNull cX12_changedNull 3 (some .boolean) ∈ wsG := kGm (tab_10 (List.mem_of_getElem? (i := 142) rfl)) rfl
set_option maxRecDepth 20000 in
theorem kc_X12_rows : Cond.code yX12_rows cX12_rows 1 (some .int) ∈ wsG := kGm (tab_10 (List.mem_of_getElem? (i := 146) rfl)) rfl
set_option maxRecDepth 20000 in
theorem kc_X12_isAnswer : Cond.code yX12_isAnswer cX12_isAnswer 3 (some .boolean) ∈ wsG := kGm (tab_10 (List.mem_of_getElem? (i := 154) rfl)) rfl
set_option maxRecDepth 20000 in
theorem kc_X12_at : Cond.code yX12_at cX12_at 3 (some .long) ∈ wsG := kGm (tab_10 (List.mem_of_getElem? (i := 150) rfl)) rfl
set_option maxRecDepth 20000 in
theorem kc_X12_isNull : Cond.code yX12_isNull cX12_isNull 3 (some .boolean) ∈ wsG := kGm (tab_10 (List.mem_of_getElem? (i := 158) rfl)) rfl
set_option maxRecDepth 20000 in
theorem kc_X12_type : Cond.code yX12_type cX12_type 2 (some .int) ∈ wsG := kGm (tab_10 (List.mem_of_getElem? (i := 162) rfl)) rfl
set_option maxRecDepth 20000 in
theorem kc_X12_three : Cond.code yX12_three cX12_three 7 (some .int) ∈ wsG := kGm (tab_10 (List.mem_of_getElem? (i := 166) rfl)) rfl
set_option maxRecDepth 20000 in
theorem kc_X12_told : Cond.code yX12_told cX12_told 7 (some .int) ∈ wsG := kGm (tab_10 (List.mem_of_getElem? (i := 170) rfl)) rfl
set_option maxRecDepth 20000 in
theorem kc_objectInit : Cond.code objectInit ⟨#[0xb1]⟩ 1 none ∈ wsG := kGm (tab_1 (List.mem_of_getElem? (i := 35) rfl)) rfl
