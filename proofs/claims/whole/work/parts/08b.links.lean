def T0 : List zTC := []
def TBy : List zTC := [.inl (0, [some 1, none, none]), .inr 0]
def TByBy : List zTC := [.inl (0, [some 1, none, none]), .inr 0, .inl (0, [some 3, none, none]), .inr 0]
def TCo : List zTC := [.inl (11, [some 1, some 3, some 5, some 14, some 41, some 43, some 70]), .inl (0, [some 2, none, none]), .inr 0, .inl (0, [some 4, none, none]), .inr 0, .inl (3, [some 6, some 8, some 10, some 12, none, none, none, none, none]), .inl (0, [some 7, none, none]), .inr 0, .inl (0, [some 9, none, none]), .inr 0, .inl (0, [some 11, none, none]), .inr 0, .inl (0, [some 13, none, none]), .inr 0, .inl (8, [some 15, some 26, some 27, some 28, some 34, some 36, some 39, some 40, none, none, none, none, none, none]), .inl (4, [some 16, some 19, some 22, some 23, some 24, some 25, none, none, none, none, none, none]), .inl (6, [some 17, some 18, none, none]), .inr 0, .inr 1, .inl (2, [some 20, some 21, none]), .inr 0, .inr 1, .inr 0, .inr 0, .inr 0, .inr 1, .inl (1, [none, none, none, none, none]), .inl (5, [none, none, none, none, none, none]), .inl (7, [some 29, some 31, some 33, none, none, none, none, none]), .inl (0, [some 30, none, none]), .inr 0, .inl (0, [some 32, none, none]), .inr 0, .inr 0, .inl (0, [some 35, none, none]), .inr 0, .inl (6, [some 37, some 38, none, none]), .inr 0, .inr 1, .inl (1, [none, none, none, none, none]), .inr 1, .inl (10, [some 42, none, none]), .inr 0, .inl (8, [some 44, some 55, some 56, some 57, some 63, some 65, some 68, some 69, none, none, none, none, none, none]), .inl (4, [some 45, some 48, some 51, some 52, some 53, some 54, none, none, none, none, none, none]), .inl (6, [some 46, some 47, none, none]), .inr 0, .inr 1, .inl (2, [some 49, some 50, none]), .inr 0, .inr 1, .inr 0, .inr 0, .inr 0, .inr 1, .inl (1, [none, none, none, none, none]), .inl (5, [none, none, none, none, none, none]), .inl (7, [some 58, some 60, some 62, none, none, none, none, none]), .inl (0, [some 59, none, none]), .inr 0, .inl (0, [some 61, none, none]), .inr 0, .inr 0, .inl (0, [some 64, none, none]), .inr 0, .inl (6, [some 66, some 67, none, none]), .inr 0, .inr 1, .inl (1, [none, none, none, none, none]), .inr 1, .inl (9, [some 71, some 74, some 75]), .inl (6, [some 72, some 73, none, none]), .inr 0, .inr 1, .inr 0, .inr 1]
def TCu : List zTC := [.inl (1, [none, none, none, none, none])]
def TCuCu : List zTC := [.inl (1, [none, none, none, none, none]), .inl (1, [none, none, none, none, none])]
def THi : List zTC := [.inl (2, [some 1, some 2, none]), .inr 0, .inr 1]
def TI : List zTC := [.inr 0]
def TLi : List zTC := [.inl (3, [some 1, some 3, some 5, some 7, none, none, none, none, none]), .inl (0, [some 2, none, none]), .inr 0, .inl (0, [some 4, none, none]), .inr 0, .inl (0, [some 6, none, none]), .inr 0, .inl (0, [some 8, none, none]), .inr 0]
def TMa : List zTC := [.inl (4, [some 1, some 4, some 7, some 8, some 9, some 10, none, none, none, none, none, none]), .inl (6, [some 2, some 3, none, none]), .inr 0, .inr 1, .inl (2, [some 5, some 6, none]), .inr 0, .inr 1, .inr 0, .inr 0, .inr 0, .inr 1]
def TMaCu : List zTC := [.inl (4, [some 1, some 4, some 7, some 8, some 9, some 10, none, none, none, none, none, none]), .inl (6, [some 2, some 3, none, none]), .inr 0, .inr 1, .inl (2, [some 5, some 6, none]), .inr 0, .inr 1, .inr 0, .inr 0, .inr 0, .inr 1, .inl (1, [none, none, none, none, none])]
def TMd : List zTC := [.inl (5, [none, none, none, none, none, none])]
def TPi : List zTC := [.inl (6, [some 1, some 2, none, none]), .inr 0, .inr 1]
def TPiPi : List zTC := [.inl (6, [some 1, some 2, none, none]), .inr 0, .inr 1, .inl (6, [some 4, some 5, none, none]), .inr 0, .inr 1]
def TRe : List zTC := [.inl (7, [some 1, some 3, some 5, none, none, none, none, none]), .inl (0, [some 2, none, none]), .inr 0, .inl (0, [some 4, none, none]), .inr 0, .inr 0]
def TRf : List zTC := [.inl (12, [none, none, none, some 1, some 2, some 3, some 4, none, none, none, none, none, none, none, none, none, none, none, none, none, none, none, none, none, none, none, none, none, none, none, some 5, none, none, none, none, some 6, none, some 7, none, none, none, none, none, some 8, none, some 9, none, some 10, none, none, none, some 11, none, none, some 12, some 13, some 14, some 15, none]), .inr 0, .inr 1, .inr 0, .inr 1, .inr 0, .inr 0, .inr 0, .inr 0, .inr 0, .inr 0, .inr 0, .inr 0, .inr 0, .inr 0, .inr 1]
def TSc : List zTC := [.inl (8, [some 1, some 12, some 13, some 14, some 20, some 22, some 25, some 26, none, none, none, none, none, none]), .inl (4, [some 2, some 5, some 8, some 9, some 10, some 11, none, none, none, none, none, none]), .inl (6, [some 3, some 4, none, none]), .inr 0, .inr 1, .inl (2, [some 6, some 7, none]), .inr 0, .inr 1, .inr 0, .inr 0, .inr 0, .inr 1, .inl (1, [none, none, none, none, none]), .inl (5, [none, none, none, none, none, none]), .inl (7, [some 15, some 17, some 19, none, none, none, none, none]), .inl (0, [some 16, none, none]), .inr 0, .inl (0, [some 18, none, none]), .inr 0, .inr 0, .inl (0, [some 21, none, none]), .inr 0, .inl (6, [some 23, some 24, none, none]), .inr 0, .inr 1, .inl (1, [none, none, none, none, none]), .inr 1]
def TSl : List zTC := [.inl (9, [some 1, some 4, some 5]), .inl (6, [some 2, some 3, none, none]), .inr 0, .inr 1, .inr 0, .inr 1]
def TSlPi : List zTC := [.inl (9, [some 1, some 4, some 5]), .inl (6, [some 2, some 3, none, none]), .inr 0, .inr 1, .inr 0, .inr 1, .inl (6, [some 7, some 8, none, none]), .inr 0, .inr 1]
def TTaSc : List zTC := [.inl (10, [some 1, none, none]), .inr 0, .inl (8, [some 3, some 14, some 15, some 16, some 22, some 24, some 27, some 28, none, none, none, none, none, none]), .inl (4, [some 4, some 7, some 10, some 11, some 12, some 13, none, none, none, none, none, none]), .inl (6, [some 5, some 6, none, none]), .inr 0, .inr 1, .inl (2, [some 8, some 9, none]), .inr 0, .inr 1, .inr 0, .inr 0, .inr 0, .inr 1, .inl (1, [none, none, none, none, none]), .inl (5, [none, none, none, none, none, none]), .inl (7, [some 17, some 19, some 21, none, none, none, none, none]), .inl (0, [some 18, none, none]), .inr 0, .inl (0, [some 20, none, none]), .inr 0, .inr 0, .inl (0, [some 23, none, none]), .inr 0, .inl (6, [some 25, some 26, none, none]), .inr 0, .inr 1, .inl (1, [none, none, none, none, none]), .inr 1]
abbrev m_J7_rangeCheck_23922 : zM := (yJ7_rangeCheck_23922, cJ7_rangeCheck_23922, 3, none)
abbrev m_J7_fill_fda19 : zM := (yJ7_fill_fda19, cJ7_fill_fda19, 5, none)
abbrev m_X11_digitsOf : zM := (yX11_digitsOf, cX11_digitsOf, 1, (some .int))
abbrev m_X11_isWide : zM := (yX11_isWide, cX11_isWide, 2, (some .boolean))
abbrev m_X11_attributeOf : zM := (yX11_attributeOf, cX11_attributeOf, 1, (some .int))
abbrev m_X11_marksOf : zM := (yX11_marksOf, cX11_marksOf, 1, (some .int))
abbrev m_X0_count : zM := (yX0_count, cX0_count, 1, (some .int))
abbrev m_X0_room : zM := (yX0_room, cX0_room, 1, (some .int))
abbrev m_X0_placeOf : zM := (yX0_placeOf, cX0_placeOf, 3, (some .int))
abbrev m_X0_clear : zM := (yX0_clear, cX0_clear, 1, none)
abbrev m_X0_add : zM := (yX0_add, cX0_add, 3, (some .boolean))
abbrev m_X0_at : zM := (yX0_at, cX0_at, 3, (some .int))
abbrev m_X0_removeFirst : zM := (yX0_removeFirst, cX0_removeFirst, 2, (some .int))
abbrev m_X0_addNumber : zM := (yX0_addNumber, cX0_addNumber, 2, none)
abbrev m_X0_last : zM := (yX0_last, cX0_last, 1, (some .int))
abbrev m_X0_removeLast : zM := (yX0_removeLast, cX0_removeLast, 2, (some .int))
abbrev m_X0_addAll : zM := (yX0_addAll, cX0_addAll, 4, none)
abbrev m_X1_copy : zM := (yX1_copy, cX1_copy, 2, none)
abbrev m_X1_goTo : zM := (yX1_goTo, cX1_goTo, 3, none)
abbrev m_X1_reset : zM := (yX1_reset, cX1_reset, 1, none)
abbrev m_X5_reset : zM := (yX5_reset, cX5_reset, 1, none)
abbrev m_X3_hasRoomFor : zM := (yX3_hasRoomFor, cX3_hasRoomFor, 2, (some .boolean))
abbrev m_X3_bring : zM := (yX3_bring, cX3_bring, 3, none)
abbrev m_X3_echo : zM := (yX3_echo, cX3_echo, 3, none)
abbrev m_X3_bringNumber : zM := (yX3_bringNumber, cX3_bringNumber, 3, none)
abbrev m_X3_takeAway : zM := (yX3_takeAway, cX3_takeAway, 3, none)
abbrev m_X3_sendLine : zM := (yX3_sendLine, cX3_sendLine, 1, none)
abbrev m_X3_start : zM := (yX3_start, cX3_start, 1, none)
abbrev m_X3_addToLine : zM := (yX3_addToLine, cX3_addToLine, 2, none)
abbrev m_X3_change : zM := (yX3_change, cX3_change, 4, (some .boolean))
abbrev m_X3_takeWordAway : zM := (yX3_takeWordAway, cX3_takeWordAway, 2, none)
abbrev m_X3_takeLineAway : zM := (yX3_takeLineAway, cX3_takeLineAway, 2, none)
abbrev m_X3_endLine : zM := (yX3_endLine, cX3_endLine, 1, none)
abbrev m_X3_endInput : zM := (yX3_endInput, cX3_endInput, 1, none)
abbrev m_X3_accept : zM := (yX3_accept, cX3_accept, 2, none)
abbrev m_X6_rows : zM := (yX6_rows, cX6_rows, 1, (some .int))
abbrev m_X6_columns : zM := (yX6_columns, cX6_columns, 1, (some .int))
abbrev m_X6_at : zM := (yX6_at, cX6_at, 3, (some .int))
abbrev m_X6_put : zM := (yX6_put, cX6_put, 4, none)
abbrev m_X6_isGoing : zM := (yX6_isGoing, cX6_isGoing, 2, (some .boolean))
abbrev m_X6_setGoing : zM := (yX6_setGoing, cX6_setGoing, 3, none)
abbrev m_X6_filled : zM := (yX6_filled, cX6_filled, 3, (some .int))
abbrev m_X6_part : zM := (yX6_part, cX6_part, 3, none)
abbrev m_X6_copyCells : zM := (yX6_copyCells, cX6_copyCells, 4, none)
abbrev m_X6_erase : zM := (yX6_erase, cX6_erase, 6, none)
abbrev m_X6_insert : zM := (yX6_insert, cX6_insert, 5, none)
abbrev m_X6_delete : zM := (yX6_delete, cX6_delete, 5, none)
abbrev m_X6_clearRow : zM := (yX6_clearRow, cX6_clearRow, 2, none)
abbrev m_X6_moveUp : zM := (yX6_moveUp, cX6_moveUp, 5, none)
abbrev m_X6_moveDown : zM := (yX6_moveDown, cX6_moveDown, 5, none)
abbrev m_X6_clear : zM := (yX6_clear, cX6_clear, 2, none)
abbrev m_X6_cut : zM := (yX6_cut, cX6_cut, 5, none)
abbrev m_X6_begin : zM := (yX6_begin, cX6_begin, 3, none)
abbrev m_X2_count : zM := (yX2_count, cX2_count, 1, (some .int))
abbrev m_X2_putLatest : zM := (yX2_putLatest, cX2_putLatest, 4, none)
abbrev m_X2_at : zM := (yX2_at, cX2_at, 3, (some .int))
abbrev m_X2_isGoing : zM := (yX2_isGoing, cX2_isGoing, 2, (some .boolean))
abbrev m_X2_endLatest : zM := (yX2_endLatest, cX2_endLatest, 1, none)
abbrev m_X2_clear : zM := (yX2_clear, cX2_clear, 1, none)
abbrev m_X2_add : zM := (yX2_add, cX2_add, 3, none)
abbrev m_X7_number : zM := (yX7_number, cX7_number, 2, (some .int))
abbrev m_X7_readControl : zM := (yX7_readControl, cX7_readControl, 2, (some .int))
abbrev m_X7_beginCode : zM := (yX7_beginCode, cX7_beginCode, 2, none)
abbrev m_X7_readEscape : zM := (yX7_readEscape, cX7_readEscape, 2, (some .int))
abbrev m_X7_addDigit : zM := (yX7_addDigit, cX7_addDigit, 3, none)
abbrev m_X7_readCode : zM := (yX7_readCode, cX7_readCode, 2, (some .int))
abbrev m_X7_readTitle : zM := (yX7_readTitle, cX7_readTitle, 2, none)
abbrev m_X7_read : zM := (yX7_read, cX7_read, 2, (some .int))
abbrev m_X4_lengthOfLast : zM := (yX4_lengthOfLast, cX4_lengthOfLast, 2, (some .int))
abbrev m_X4_beginRow : zM := (yX4_beginRow, cX4_beginRow, 1, none)
abbrev m_X4_lay : zM := (yX4_lay, cX4_lay, 3, none)
abbrev m_X4_isGoing : zM := (yX4_isGoing, cX4_isGoing, 3, (some .boolean))
abbrev m_X4_at : zM := (yX4_at, cX4_at, 4, (some .int))
abbrev m_X4_goOn : zM := (yX4_goOn, cX4_goOn, 2, none)
abbrev m_X4_keptRows : zM := (yX4_keptRows, cX4_keptRows, 4, (some .int))
abbrev m_X4_cellsOf : zM := (yX4_cellsOf, cX4_cellsOf, 5, (some .int))
abbrev m_X4_layRow : zM := (yX4_layRow, cX4_layRow, 7, none)
abbrev m_X4_putBack : zM := (yX4_putBack, cX4_putBack, 8, none)
abbrev m_X4_wrap : zM := (yX4_wrap, cX4_wrap, 8, none)
abbrev m_X8_has : zM := (yX8_has, cX8_has, 3, (some .boolean))
abbrev m_X8_nextTab : zM := (yX8_nextTab, cX8_nextTab, 2, (some .int))
abbrev m_X8_setTab : zM := (yX8_setTab, cX8_setTab, 3, none)
abbrev m_X8_endsLate : zM := (yX8_endsLate, cX8_endsLate, 1, (some .boolean))
abbrev m_X8_tellPlaces : zM := (yX8_tellPlaces, cX8_tellPlaces, 2, (some .int))
abbrev m_X8_setFirstTabs : zM := (yX8_setFirstTabs, cX8_setFirstTabs, 3, none)
abbrev m_X8_addMark : zM := (yX8_addMark, cX8_addMark, 4, none)
abbrev m_X8_endAbove : zM := (yX8_endAbove, cX8_endAbove, 2, none)
abbrev m_X8_bringBack : zM := (yX8_bringBack, cX8_bringBack, 1, none)
abbrev m_X8_goTo : zM := (yX8_goTo, cX8_goTo, 5, none)
abbrev m_X8_setAttribute : zM := (yX8_setAttribute, cX8_setAttribute, 3, none)
abbrev m_X8_clearTabs : zM := (yX8_clearTabs, cX8_clearTabs, 3, none)
abbrev m_X8_setInsert : zM := (yX8_setInsert, cX8_setInsert, 3, none)
abbrev m_X8_setRegion : zM := (yX8_setRegion, cX8_setRegion, 3, none)
abbrev m_X8_eraseOtherRows : zM := (yX8_eraseOtherRows, cX8_eraseOtherRows, 4, none)
abbrev m_X8_eraseRow : zM := (yX8_eraseRow, cX8_eraseRow, 4, none)
abbrev m_X8_answer : zM := (yX8_answer, cX8_answer, 3, none)
abbrev m_X8_scrollUp : zM := (yX8_scrollUp, cX8_scrollUp, 7, none)
abbrev m_X8_scrollDown : zM := (yX8_scrollDown, cX8_scrollDown, 3, none)
abbrev m_X8_reset : zM := (yX8_reset, cX8_reset, 1, none)
abbrev m_X8_showOther : zM := (yX8_showOther, cX8_showOther, 2, none)
abbrev m_X8_feed : zM := (yX8_feed, cX8_feed, 1, none)
abbrev m_X8_feedBack : zM := (yX8_feedBack, cX8_feedBack, 1, none)
abbrev m_X8_moveLines : zM := (yX8_moveLines, cX8_moveLines, 5, none)
abbrev m_X8_scroll : zM := (yX8_scroll, cX8_scroll, 5, none)
abbrev m_X8_setMarkedMode : zM := (yX8_setMarkedMode, cX8_setMarkedMode, 3, none)
abbrev m_X8_drawSign : zM := (yX8_drawSign, cX8_drawSign, 6, none)
abbrev m_X8_control : zM := (yX8_control, cX8_control, 3, none)
abbrev m_X8_escaped : zM := (yX8_escaped, cX8_escaped, 2, none)
abbrev m_X8_coded : zM := (yX8_coded, cX8_coded, 3, none)
abbrev m_X8_codedWithMark : zM := (yX8_codedWithMark, cX8_codedWithMark, 3, none)
abbrev m_X8_receive : zM := (yX8_receive, cX8_receive, 2, none)
abbrev m_X8_resize : zM := (yX8_resize, cX8_resize, 4, none)
abbrev m_X9_isLikeAt : zM := (yX9_isLikeAt, cX9_isLikeAt, 2, (some .boolean))
abbrev m_X9_keepCosts : zM := (yX9_keepCosts, cX9_keepCosts, 5, none)
abbrev m_X9_costsFrom : zM := (yX9_costsFrom, cX9_costsFrom, 4, (some .int))
abbrev m_X9_compare : zM := (yX9_compare, cX9_compare, 5, (some .int))
abbrev m_X9_writing : zM := (yX9_writing, cX9_writing, 6, (some .int))
abbrev m_X9_passing : zM := (yX9_passing, cX9_passing, 7, (some .int))
abbrev m_X9_beginning : zM := (yX9_beginning, cX9_beginning, 4, (some .int))
abbrev m_X9_costsOf : zM := (yX9_costsOf, cX9_costsOf, 9, (some .int))
abbrev m_X9_begin : zM := (yX9_begin, cX9_begin, 3, none)
abbrev m_X10_playOn : zM := (yX10_playOn, cX10_playOn, 4, none)
abbrev m_X11_cell : zM := (yX11_cell, cX11_cell, 3, (some .int))
abbrev m_X11_past : zM := (yX11_past, cX11_past, 3, (some .int))
abbrev m_X11_goesOn : zM := (yX11_goesOn, cX11_goesOn, 3, (some .boolean))
abbrev m_X11_draft : zM := (yX11_draft, cX11_draft, 2, (some .int))
abbrev m_X11_take : zM := (yX11_take, cX11_take, 1, (some .int))
abbrev m_X11_title : zM := (yX11_title, cX11_title, 2, (some .int))
abbrev m_X11_told : zM := (yX11_told, cX11_told, 2, (some .int))
abbrev m_X11_addBracket : zM := (yX11_addBracket, cX11_addBracket, 2, none)
abbrev m_X11_draw : zM := (yX11_draw, cX11_draw, 4, (some .int))
abbrev m_X11_least : zM := (yX11_least, cX11_least, 2, (some .int))
abbrev m_X11_rule : zM := (yX11_rule, cX11_rule, 3, (some .boolean))
abbrev m_X11_cellAnew : zM := (yX11_cellAnew, cX11_cellAnew, 3, (some .int))
abbrev m_X12_thrown : zM := (yX12_thrown, cX12_thrown, 1, (some .int))
abbrev m_X12_in : zM := (yX12_in, cX12_in, 3, (some .boolean))
abbrev m_X12_at : zM := (yX12_at, cX12_at, 3, (some .int))
abbrev m_X12_stopsAbove : zM := (yX12_stopsAbove, cX12_stopsAbove, 2, none)
abbrev m_X12_keepsRow : zM := (yX12_keepsRow, cX12_keepsRow, 2, none)
abbrev m_X12_nextTab : zM := (yX12_nextTab, cX12_nextTab, 3, (some .int))
abbrev m_X12_laysTabs : zM := (yX12_laysTabs, cX12_laysTabs, 3, none)
abbrev m_X12_saves : zM := (yX12_saves, cX12_saves, 1, none)
abbrev m_X12_lesser : zM := (yX12_lesser, cX12_lesser, 2, (some .int))
abbrev m_X12_empties : zM := (yX12_empties, cX12_empties, 3, none)
abbrev m_X12_first : zM := (yX12_first, cX12_first, 1, (some .int))
abbrev m_X12_second : zM := (yX12_second, cX12_second, 1, (some .int))
abbrev m_X12_sends : zM := (yX12_sends, cX12_sends, 2, none)
abbrev m_X12_digits : zM := (yX12_digits, cX12_digits, 1, (some .int))
abbrev m_X12_letter : zM := (yX12_letter, cX12_letter, 1, (some .int))
abbrev m_X12_take : zM := (yX12_take, cX12_take, 3, (some .int))
abbrev m_X12_old : zM := (yX12_old, cX12_old, 3, (some .int))
abbrev m_X12_oldGoes : zM := (yX12_oldGoes, cX12_oldGoes, 2, (some .boolean))
abbrev m_X12_emptiesLaid : zM := (yX12_emptiesLaid, cX12_emptiesLaid, 3, none)
abbrev m_X12_isWide : zM := (yX12_isWide, cX12_isWide, 1, (some .boolean))
abbrev m_X12_parts : zM := (yX12_parts, cX12_parts, 3, none)
abbrev m_X12_copiesRow : zM := (yX12_copiesRow, cX12_copiesRow, 4, none)
abbrev m_X12_emptiesRow : zM := (yX12_emptiesRow, cX12_emptiesRow, 3, none)
abbrev m_X12_marks : zM := (yX12_marks, cX12_marks, 4, none)
abbrev m_X12_bringsBack : zM := (yX12_bringsBack, cX12_bringsBack, 1, none)
abbrev m_X12_resets : zM := (yX12_resets, cX12_resets, 1, none)
abbrev m_X12_titles : zM := (yX12_titles, cX12_titles, 3, none)
abbrev m_X12_setsRegion : zM := (yX12_setsRegion, cX12_setsRegion, 3, none)
abbrev m_X12_colours : zM := (yX12_colours, cX12_colours, 3, none)
abbrev m_X12_sendsNumber : zM := (yX12_sendsNumber, cX12_sendsNumber, 2, none)
abbrev m_X12_givesLine : zM := (yX12_givesLine, cX12_givesLine, 2, none)
abbrev m_X12_draft : zM := (yX12_draft, cX12_draft, 2, (some .int))
abbrev m_X12_fullOf : zM := (yX12_fullOf, cX12_fullOf, 3, (some .int))
abbrev m_X12_isLike : zM := (yX12_isLike, cX12_isLike, 3, (some .boolean))
abbrev m_X12_isCell : zM := (yX12_isCell, cX12_isCell, 3, (some .boolean))
abbrev m_X12_past : zM := (yX12_past, cX12_past, 3, (some .int))
abbrev m_X12_goesOn : zM := (yX12_goesOn, cX12_goesOn, 2, (some .boolean))
abbrev m_X12_title : zM := (yX12_title, cX12_title, 2, (some .int))
abbrev m_X12_toldMore : zM := (yX12_toldMore, cX12_toldMore, 2, (some .int))
abbrev m_X12_erases : zM := (yX12_erases, cX12_erases, 5, none)
abbrev m_X12_movesRight : zM := (yX12_movesRight, cX12_movesRight, 6, none)
abbrev m_X12_movesLeft : zM := (yX12_movesLeft, cX12_movesLeft, 6, none)
abbrev m_X12_scrollsUp : zM := (yX12_scrollsUp, cX12_scrollsUp, 6, none)
abbrev m_X12_scrollsDown : zM := (yX12_scrollsDown, cX12_scrollsDown, 4, none)
abbrev m_X12_setsMode : zM := (yX12_setsMode, cX12_setsMode, 3, none)
abbrev m_X12_tells : zM := (yX12_tells, cX12_tells, 2, none)
abbrev m_X12_rule : zM := (yX12_rule, cX12_rule, 4, (some .boolean))
abbrev m_X12_lays : zM := (yX12_lays, cX12_lays, 17, (some .int))
abbrev m_X12_cutsOther : zM := (yX12_cutsOther, cX12_cutsOther, 6, none)
abbrev m_X12_wide : zM := (yX12_wide, cX12_wide, 3, (some .int))
abbrev m_X12_cell : zM := (yX12_cell, cX12_cell, 3, (some .int))
abbrev m_X12_told : zM := (yX12_told, cX12_told, 2, (some .int))
abbrev m_X12_feeds : zM := (yX12_feeds, cX12_feeds, 1, none)
abbrev m_X12_modes : zM := (yX12_modes, cX12_modes, 4, none)
abbrev m_X12_erasesRow : zM := (yX12_erasesRow, cX12_erasesRow, 3, none)
abbrev m_X12_linesMove : zM := (yX12_linesMove, cX12_linesMove, 3, none)
abbrev m_X12_size : zM := (yX12_size, cX12_size, 11, (some .int))
abbrev m_X12_costOf : zM := (yX12_costOf, cX12_costOf, 11, (some .int))
abbrev m_X12_cellAnew : zM := (yX12_cellAnew, cX12_cellAnew, 3, (some .int))
abbrev m_X12_draws : zM := (yX12_draws, cX12_draws, 4, none)
abbrev m_X12_controls : zM := (yX12_controls, cX12_controls, 2, none)
abbrev m_X12_escapes : zM := (yX12_escapes, cX12_escapes, 2, none)
abbrev m_X12_erasesAll : zM := (yX12_erasesAll, cX12_erasesAll, 3, none)
abbrev m_X12_meansMore : zM := (yX12_meansMore, cX12_meansMore, 4, none)
abbrev m_X12_draw : zM := (yX12_draw, cX12_draw, 4, (some .int))
abbrev m_X12_least : zM := (yX12_least, cX12_least, 2, (some .int))
abbrev m_X12_means : zM := (yX12_means, cX12_means, 3, none)
abbrev m_X12_codes : zM := (yX12_codes, cX12_codes, 3, none)
abbrev m_X12_comes : zM := (yX12_comes, cX12_comes, 2, none)
abbrev m_X12_puts : zM := (yX12_puts, cX12_puts, 2, none)
abbrev m_X12_starts : zM := (yX12_starts, cX12_starts, 3, none)
abbrev m_X12_write : zM := (yX12_write, cX12_write, 2, (some .int))
abbrev m_X12_putsNumber : zM := (yX12_putsNumber, cX12_putsNumber, 2, none)
abbrev m_X12_echo : zM := (yX12_echo, cX12_echo, 2, none)
abbrev m_X12_code : zM := (yX12_code, cX12_code, 6, (some .int))
abbrev m_X12_takesLast : zM := (yX12_takesLast, cX12_takesLast, 2, none)
abbrev m_X12_adds : zM := (yX12_adds, cX12_adds, 2, none)
abbrev m_X12_edits : zM := (yX12_edits, cX12_edits, 2, none)
abbrev m_X12_types : zM := (yX12_types, cX12_types, 2, none)
abbrev m_X12_type : zM := (yX12_type, cX12_type, 2, (some .int))
abbrev m_X12_key : zM := (yX12_key, cX12_key, 4, (some .int))
abbrev m_X12_typesAround : zM := (yX12_typesAround, cX12_typesAround, 2, none)
abbrev m_X12_typesNumber : zM := (yX12_typesNumber, cX12_typesNumber, 2, none)
abbrev m_X12_paste : zM := (yX12_paste, cX12_paste, 3, (some .int))
abbrev m_X12_mouse : zM := (yX12_mouse, cX12_mouse, 4, (some .int))
abbrev m_X8_shown : zM := (yX8_shown, cX8_shown, 1, (some (.object "InputrowConsole$Picture")))
theorem fl_X0_15 : zFL RX0 15 0 0 "[I" true := ⟨RX0, TX0, 3, rfl, by decide, rfl, rfl, zmem (i := 176) (by decide +kernel) rfl⟩
theorem fl_X0_21 : zFL RX0 21 0 2 "I" false := ⟨RX0, TX0, 3, rfl, by decide, rfl, rfl, zmem (i := 178) (by decide +kernel) rfl⟩
theorem fl_X0_25 : zFL RX0 25 0 1 "I" false := ⟨RX0, TX0, 3, rfl, by decide, rfl, rfl, zmem (i := 177) (by decide +kernel) rfl⟩
theorem fl_X1_7 : zFL RX1 7 1 0 "I" false := ⟨RX1, TX1, 5, rfl, by decide, rfl, rfl, zmem (i := 324) (by decide +kernel) rfl⟩
theorem fl_X1_13 : zFL RX1 13 1 1 "I" false := ⟨RX1, TX1, 5, rfl, by decide, rfl, rfl, zmem (i := 327) (by decide +kernel) rfl⟩
theorem fl_X1_16 : zFL RX1 16 1 2 "Z" false := ⟨RX1, TX1, 5, rfl, by decide, rfl, rfl, zmem (i := 330) (by decide +kernel) rfl⟩
theorem fl_X1_20 : zFL RX1 20 1 3 "I" false := ⟨RX1, TX1, 5, rfl, by decide, rfl, rfl, zmem (i := 333) (by decide +kernel) rfl⟩
theorem fl_X1_23 : zFL RX1 23 1 4 "Z" false := ⟨RX1, TX1, 5, rfl, by decide, rfl, rfl, zmem (i := 335) (by decide +kernel) rfl⟩
theorem fl_X10_9 : zFL RX10 9 10 0 "[I" false := ⟨RX10, TX10, 3, rfl, by decide, rfl, rfl, zmem (i := 485) (by decide +kernel) rfl⟩
theorem fl_X10_17 : zFL RX10 17 10 1 "I" false := ⟨RX10, TX10, 3, rfl, by decide, rfl, rfl, zmem (i := 486) (by decide +kernel) rfl⟩
theorem fl_X10_28 : zFL RX10 28 10 2 "I" false := ⟨RX10, TX10, 3, rfl, by decide, rfl, rfl, zmem (i := 487) (by decide +kernel) rfl⟩
theorem fl_X11_14 : zFL RX11 14 11 0 "LInputrowConsole$Bytes;" true := ⟨RX11, TX11, 7, rfl, by decide, rfl, rfl, zmem (i := 514) (by decide +kernel) rfl⟩
theorem fl_X11_18 : zFL RX11 18 11 1 "LInputrowConsole$Bytes;" true := ⟨RX11, TX11, 7, rfl, by decide, rfl, rfl, zmem (i := 515) (by decide +kernel) rfl⟩
theorem fl_X11_24 : zFL RX11 24 11 2 "LInputrowConsole$LineRule;" true := ⟨RX11, TX11, 7, rfl, by decide, rfl, rfl, zmem (i := 516) (by decide +kernel) rfl⟩
theorem fl_X11_31 : zFL RX11 31 11 3 "LInputrowConsole$Screen;" true := ⟨RX11, TX11, 7, rfl, by decide, rfl, rfl, zmem (i := 517) (by decide +kernel) rfl⟩
theorem fl_X11_38 : zFL RX11 38 11 4 "LInputrowConsole$Tape;" true := ⟨RX11, TX11, 7, rfl, by decide, rfl, rfl, zmem (i := 518) (by decide +kernel) rfl⟩
theorem fl_X11_42 : zFL RX11 42 11 5 "LInputrowConsole$Screen;" true := ⟨RX11, TX11, 7, rfl, by decide, rfl, rfl, zmem (i := 519) (by decide +kernel) rfl⟩
theorem fl_X11_48 : zFL RX11 48 11 6 "LInputrowConsole$SlowLine;" true := ⟨RX11, TX11, 7, rfl, by decide, rfl, rfl, zmem (i := 520) (by decide +kernel) rfl⟩
theorem fl_X11_74 : zFL RX11 74 3 1 "LInputrowConsole$Bytes;" true := ⟨RX3, TX3, 9, rfl, by decide, rfl, rfl, zmem (i := 198) (by decide +kernel) rfl⟩
theorem fl_X11_93 : zFL RX11 93 3 0 "LInputrowConsole$Bytes;" true := ⟨RX3, TX3, 9, rfl, by decide, rfl, rfl, zmem (i := 196) (by decide +kernel) rfl⟩
theorem fl_X11_104 : zFL RX11 104 8 2 "LInputrowConsole$Modes;" true := ⟨RX8, TX8, 14, rfl, by decide, rfl, rfl, zmem (i := 432) (by decide +kernel) rfl⟩
theorem fl_X11_149 : zFL RX11 149 3 2 "LInputrowConsole$Bytes;" true := ⟨RX3, TX3, 9, rfl, by decide, rfl, rfl, zmem (i := 200) (by decide +kernel) rfl⟩
theorem fl_X11_164 : zFL RX11 164 8 0 "LInputrowConsole$Main;" true := ⟨RX8, TX8, 14, rfl, by decide, rfl, rfl, zmem (i := 429) (by decide +kernel) rfl⟩
theorem fl_X11_168 : zFL RX11 168 4 1 "LInputrowConsole$History;" true := ⟨RX4, TX4, 12, rfl, by decide, rfl, rfl, zmem (i := 282) (by decide +kernel) rfl⟩
theorem fl_X11_190 : zFL RX11 190 9 0 "LInputrowConsole$Picture;" true := ⟨RX9, TX9, 3, rfl, by decide, rfl, rfl, zmem (i := 504) (by decide +kernel) rfl⟩
theorem fl_X11_206 : zFL RX11 206 8 10 "I" false := ⟨RX8, TX8, 14, rfl, by decide, rfl, rfl, zmem (i := 445) (by decide +kernel) rfl⟩
theorem fl_X11_211 : zFL RX11 211 8 9 "I" false := ⟨RX8, TX8, 14, rfl, by decide, rfl, rfl, zmem (i := 443) (by decide +kernel) rfl⟩
theorem fl_X11_219 : zFL RX11 219 8 3 "LInputrowConsole$Reader;" true := ⟨RX8, TX8, 14, rfl, by decide, rfl, rfl, zmem (i := 434) (by decide +kernel) rfl⟩
theorem fl_X11_223 : zFL RX11 223 7 0 "LInputrowConsole$Bytes;" true := ⟨RX7, TX7, 8, rfl, by decide, rfl, rfl, zmem (i := 392) (by decide +kernel) rfl⟩
theorem fl_X11_234 : zFL RX11 234 8 11 "I" false := ⟨RX8, TX8, 14, rfl, by decide, rfl, rfl, zmem (i := 447) (by decide +kernel) rfl⟩
theorem fl_X11_237 : zFL RX11 237 8 8 "Z" false := ⟨RX8, TX8, 14, rfl, by decide, rfl, rfl, zmem (i := 441) (by decide +kernel) rfl⟩
theorem fl_X11_240 : zFL RX11 240 3 6 "Z" false := ⟨RX3, TX3, 9, rfl, by decide, rfl, rfl, zmem (i := 206) (by decide +kernel) rfl⟩
theorem fl_X11_243 : zFL RX11 243 3 7 "I" false := ⟨RX3, TX3, 9, rfl, by decide, rfl, rfl, zmem (i := 208) (by decide +kernel) rfl⟩
theorem fl_X11_246 : zFL RX11 246 3 8 "I" false := ⟨RX3, TX3, 9, rfl, by decide, rfl, rfl, zmem (i := 210) (by decide +kernel) rfl⟩
theorem fl_X11_249 : zFL RX11 249 5 2 "Z" false := ⟨RX5, TX5, 6, rfl, by decide, rfl, rfl, zmem (i := 360) (by decide +kernel) rfl⟩
theorem fl_X12_7 : zFL RX12 7 12 1 "I" false := ⟨RX12, TX12, 59, rfl, by decide, rfl, rfl, zmem (i := 1609) (by decide +kernel) rfl⟩
theorem fl_X12_13 : zFL RX12 13 12 2 "I" false := ⟨RX12, TX12, 59, rfl, by decide, rfl, rfl, zmem (i := 1610) (by decide +kernel) rfl⟩
theorem fl_X12_16 : zFL RX12 16 12 3 "[I" true := ⟨RX12, TX12, 59, rfl, by decide, rfl, rfl, zmem (i := 1611) (by decide +kernel) rfl⟩
theorem fl_X12_20 : zFL RX12 20 12 4 "[Z" true := ⟨RX12, TX12, 59, rfl, by decide, rfl, rfl, zmem (i := 1612) (by decide +kernel) rfl⟩
theorem fl_X12_24 : zFL RX12 24 12 5 "[I" true := ⟨RX12, TX12, 59, rfl, by decide, rfl, rfl, zmem (i := 1613) (by decide +kernel) rfl⟩
theorem fl_X12_27 : zFL RX12 27 12 6 "[Z" true := ⟨RX12, TX12, 59, rfl, by decide, rfl, rfl, zmem (i := 1614) (by decide +kernel) rfl⟩
theorem fl_X12_30 : zFL RX12 30 12 14 "I" false := ⟨RX12, TX12, 59, rfl, by decide, rfl, rfl, zmem (i := 1622) (by decide +kernel) rfl⟩
theorem fl_X12_33 : zFL RX12 33 12 18 "Z" false := ⟨RX12, TX12, 59, rfl, by decide, rfl, rfl, zmem (i := 1626) (by decide +kernel) rfl⟩
theorem fl_X12_37 : zFL RX12 37 12 19 "Z" false := ⟨RX12, TX12, 59, rfl, by decide, rfl, rfl, zmem (i := 1627) (by decide +kernel) rfl⟩
theorem fl_X12_40 : zFL RX12 40 12 30 "[I" true := ⟨RX12, TX12, 59, rfl, by decide, rfl, rfl, zmem (i := 1638) (by decide +kernel) rfl⟩
theorem fl_X12_43 : zFL RX12 43 12 35 "[I" true := ⟨RX12, TX12, 59, rfl, by decide, rfl, rfl, zmem (i := 1643) (by decide +kernel) rfl⟩
theorem fl_X12_46 : zFL RX12 46 12 37 "[I" true := ⟨RX12, TX12, 59, rfl, by decide, rfl, rfl, zmem (i := 1645) (by decide +kernel) rfl⟩
theorem fl_X12_49 : zFL RX12 49 12 41 "Z" false := ⟨RX12, TX12, 59, rfl, by decide, rfl, rfl, zmem (i := 1649) (by decide +kernel) rfl⟩
theorem fl_X12_52 : zFL RX12 52 12 43 "[I" true := ⟨RX12, TX12, 59, rfl, by decide, rfl, rfl, zmem (i := 1651) (by decide +kernel) rfl⟩
theorem fl_X12_55 : zFL RX12 55 12 45 "[I" true := ⟨RX12, TX12, 59, rfl, by decide, rfl, rfl, zmem (i := 1653) (by decide +kernel) rfl⟩
theorem fl_X12_58 : zFL RX12 58 12 47 "[I" true := ⟨RX12, TX12, 59, rfl, by decide, rfl, rfl, zmem (i := 1655) (by decide +kernel) rfl⟩
theorem fl_X12_61 : zFL RX12 61 12 51 "[I" true := ⟨RX12, TX12, 59, rfl, by decide, rfl, rfl, zmem (i := 1659) (by decide +kernel) rfl⟩
theorem fl_X12_64 : zFL RX12 64 12 54 "[I" true := ⟨RX12, TX12, 59, rfl, by decide, rfl, rfl, zmem (i := 1662) (by decide +kernel) rfl⟩
theorem fl_X12_67 : zFL RX12 67 12 55 "[I" true := ⟨RX12, TX12, 59, rfl, by decide, rfl, rfl, zmem (i := 1663) (by decide +kernel) rfl⟩
theorem fl_X12_70 : zFL RX12 70 12 56 "[I" true := ⟨RX12, TX12, 59, rfl, by decide, rfl, rfl, zmem (i := 1664) (by decide +kernel) rfl⟩
theorem fl_X12_73 : zFL RX12 73 12 57 "[Z" true := ⟨RX12, TX12, 59, rfl, by decide, rfl, rfl, zmem (i := 1665) (by decide +kernel) rfl⟩
theorem fl_X12_80 : zFL RX12 80 12 0 "I" false := ⟨RX12, TX12, 59, rfl, by decide, rfl, rfl, zmem (i := 1608) (by decide +kernel) rfl⟩
theorem fl_X12_87 : zFL RX12 87 12 8 "I" false := ⟨RX12, TX12, 59, rfl, by decide, rfl, rfl, zmem (i := 1616) (by decide +kernel) rfl⟩
theorem fl_X12_98 : zFL RX12 98 12 7 "I" false := ⟨RX12, TX12, 59, rfl, by decide, rfl, rfl, zmem (i := 1615) (by decide +kernel) rfl⟩
theorem fl_X12_113 : zFL RX12 113 12 9 "I" false := ⟨RX12, TX12, 59, rfl, by decide, rfl, rfl, zmem (i := 1617) (by decide +kernel) rfl⟩
theorem fl_X12_116 : zFL RX12 116 12 13 "I" false := ⟨RX12, TX12, 59, rfl, by decide, rfl, rfl, zmem (i := 1621) (by decide +kernel) rfl⟩
theorem fl_X12_123 : zFL RX12 123 12 10 "I" false := ⟨RX12, TX12, 59, rfl, by decide, rfl, rfl, zmem (i := 1618) (by decide +kernel) rfl⟩
theorem fl_X12_126 : zFL RX12 126 12 11 "Z" false := ⟨RX12, TX12, 59, rfl, by decide, rfl, rfl, zmem (i := 1619) (by decide +kernel) rfl⟩
theorem fl_X12_136 : zFL RX12 136 12 22 "Z" false := ⟨RX12, TX12, 59, rfl, by decide, rfl, rfl, zmem (i := 1630) (by decide +kernel) rfl⟩
theorem fl_X12_142 : zFL RX12 142 12 12 "I" false := ⟨RX12, TX12, 59, rfl, by decide, rfl, rfl, zmem (i := 1620) (by decide +kernel) rfl⟩
theorem fl_X12_146 : zFL RX12 146 12 15 "I" false := ⟨RX12, TX12, 59, rfl, by decide, rfl, rfl, zmem (i := 1623) (by decide +kernel) rfl⟩
theorem fl_X12_149 : zFL RX12 149 12 23 "Z" false := ⟨RX12, TX12, 59, rfl, by decide, rfl, rfl, zmem (i := 1631) (by decide +kernel) rfl⟩
theorem fl_X12_152 : zFL RX12 152 12 24 "I" false := ⟨RX12, TX12, 59, rfl, by decide, rfl, rfl, zmem (i := 1632) (by decide +kernel) rfl⟩
theorem fl_X12_155 : zFL RX12 155 12 25 "I" false := ⟨RX12, TX12, 59, rfl, by decide, rfl, rfl, zmem (i := 1633) (by decide +kernel) rfl⟩
theorem fl_X12_158 : zFL RX12 158 12 26 "Z" false := ⟨RX12, TX12, 59, rfl, by decide, rfl, rfl, zmem (i := 1634) (by decide +kernel) rfl⟩
theorem fl_X12_161 : zFL RX12 161 12 27 "I" false := ⟨RX12, TX12, 59, rfl, by decide, rfl, rfl, zmem (i := 1635) (by decide +kernel) rfl⟩
theorem fl_X12_164 : zFL RX12 164 12 17 "Z" false := ⟨RX12, TX12, 59, rfl, by decide, rfl, rfl, zmem (i := 1625) (by decide +kernel) rfl⟩
theorem fl_X12_167 : zFL RX12 167 12 28 "Z" false := ⟨RX12, TX12, 59, rfl, by decide, rfl, rfl, zmem (i := 1636) (by decide +kernel) rfl⟩
theorem fl_X12_176 : zFL RX12 176 12 16 "Z" false := ⟨RX12, TX12, 59, rfl, by decide, rfl, rfl, zmem (i := 1624) (by decide +kernel) rfl⟩
theorem fl_X12_179 : zFL RX12 179 12 20 "Z" false := ⟨RX12, TX12, 59, rfl, by decide, rfl, rfl, zmem (i := 1628) (by decide +kernel) rfl⟩
theorem fl_X12_182 : zFL RX12 182 12 21 "Z" false := ⟨RX12, TX12, 59, rfl, by decide, rfl, rfl, zmem (i := 1629) (by decide +kernel) rfl⟩
theorem fl_X12_185 : zFL RX12 185 12 39 "I" false := ⟨RX12, TX12, 59, rfl, by decide, rfl, rfl, zmem (i := 1647) (by decide +kernel) rfl⟩
theorem fl_X12_192 : zFL RX12 192 12 29 "I" false := ⟨RX12, TX12, 59, rfl, by decide, rfl, rfl, zmem (i := 1637) (by decide +kernel) rfl⟩
theorem fl_X12_195 : zFL RX12 195 12 31 "I" false := ⟨RX12, TX12, 59, rfl, by decide, rfl, rfl, zmem (i := 1639) (by decide +kernel) rfl⟩
theorem fl_X12_198 : zFL RX12 198 12 32 "Z" false := ⟨RX12, TX12, 59, rfl, by decide, rfl, rfl, zmem (i := 1640) (by decide +kernel) rfl⟩
theorem fl_X12_201 : zFL RX12 201 12 33 "Z" false := ⟨RX12, TX12, 59, rfl, by decide, rfl, rfl, zmem (i := 1641) (by decide +kernel) rfl⟩
theorem fl_X12_204 : zFL RX12 204 12 34 "Z" false := ⟨RX12, TX12, 59, rfl, by decide, rfl, rfl, zmem (i := 1642) (by decide +kernel) rfl⟩
theorem fl_X12_207 : zFL RX12 207 12 36 "I" false := ⟨RX12, TX12, 59, rfl, by decide, rfl, rfl, zmem (i := 1644) (by decide +kernel) rfl⟩
theorem fl_X12_229 : zFL RX12 229 12 38 "I" false := ⟨RX12, TX12, 59, rfl, by decide, rfl, rfl, zmem (i := 1646) (by decide +kernel) rfl⟩
theorem fl_X12_262 : zFL RX12 262 12 48 "I" false := ⟨RX12, TX12, 59, rfl, by decide, rfl, rfl, zmem (i := 1656) (by decide +kernel) rfl⟩
theorem fl_X12_293 : zFL RX12 293 12 42 "Z" false := ⟨RX12, TX12, 59, rfl, by decide, rfl, rfl, zmem (i := 1650) (by decide +kernel) rfl⟩
theorem fl_X12_299 : zFL RX12 299 12 44 "I" false := ⟨RX12, TX12, 59, rfl, by decide, rfl, rfl, zmem (i := 1652) (by decide +kernel) rfl⟩
theorem fl_X12_312 : zFL RX12 312 12 46 "I" false := ⟨RX12, TX12, 59, rfl, by decide, rfl, rfl, zmem (i := 1654) (by decide +kernel) rfl⟩
theorem fl_X12_324 : zFL RX12 324 12 49 "I" false := ⟨RX12, TX12, 59, rfl, by decide, rfl, rfl, zmem (i := 1657) (by decide +kernel) rfl⟩
theorem fl_X12_327 : zFL RX12 327 12 50 "I" false := ⟨RX12, TX12, 59, rfl, by decide, rfl, rfl, zmem (i := 1658) (by decide +kernel) rfl⟩
theorem fl_X12_336 : zFL RX12 336 12 53 "I" false := ⟨RX12, TX12, 59, rfl, by decide, rfl, rfl, zmem (i := 1661) (by decide +kernel) rfl⟩
theorem fl_X12_339 : zFL RX12 339 12 40 "Z" false := ⟨RX12, TX12, 59, rfl, by decide, rfl, rfl, zmem (i := 1648) (by decide +kernel) rfl⟩
theorem fl_X12_351 : zFL RX12 351 12 52 "I" false := ⟨RX12, TX12, 59, rfl, by decide, rfl, rfl, zmem (i := 1660) (by decide +kernel) rfl⟩
theorem fl_X12_380 : zFL RX12 380 12 58 "I" false := ⟨RX12, TX12, 59, rfl, by decide, rfl, rfl, zmem (i := 1666) (by decide +kernel) rfl⟩
theorem fl_X2_9 : zFL RX2 9 2 0 "[I" true := ⟨RX2, TX2, 3, rfl, by decide, rfl, rfl, zmem (i := 268) (by decide +kernel) rfl⟩
theorem fl_X2_15 : zFL RX2 15 2 1 "[Z" true := ⟨RX2, TX2, 3, rfl, by decide, rfl, rfl, zmem (i := 269) (by decide +kernel) rfl⟩
theorem fl_X2_19 : zFL RX2 19 2 2 "I" false := ⟨RX2, TX2, 3, rfl, by decide, rfl, rfl, zmem (i := 270) (by decide +kernel) rfl⟩
theorem fl_X3_14 : zFL RX3 14 3 0 "LInputrowConsole$Bytes;" true := ⟨RX3, TX3, 9, rfl, by decide, rfl, rfl, zmem (i := 195) (by decide +kernel) rfl⟩
theorem fl_X3_20 : zFL RX3 20 3 1 "LInputrowConsole$Bytes;" true := ⟨RX3, TX3, 9, rfl, by decide, rfl, rfl, zmem (i := 197) (by decide +kernel) rfl⟩
theorem fl_X3_23 : zFL RX3 23 3 2 "LInputrowConsole$Bytes;" true := ⟨RX3, TX3, 9, rfl, by decide, rfl, rfl, zmem (i := 199) (by decide +kernel) rfl⟩
theorem fl_X3_26 : zFL RX3 26 3 3 "LInputrowConsole$Bytes;" true := ⟨RX3, TX3, 9, rfl, by decide, rfl, rfl, zmem (i := 201) (by decide +kernel) rfl⟩
theorem fl_X3_29 : zFL RX3 29 3 5 "Z" false := ⟨RX3, TX3, 9, rfl, by decide, rfl, rfl, zmem (i := 204) (by decide +kernel) rfl⟩
theorem fl_X3_33 : zFL RX3 33 3 6 "Z" false := ⟨RX3, TX3, 9, rfl, by decide, rfl, rfl, zmem (i := 205) (by decide +kernel) rfl⟩
theorem fl_X3_47 : zFL RX3 47 3 4 "Z" false := ⟨RX3, TX3, 9, rfl, by decide, rfl, rfl, zmem (i := 203) (by decide +kernel) rfl⟩
theorem fl_X3_74 : zFL RX3 74 3 8 "I" false := ⟨RX3, TX3, 9, rfl, by decide, rfl, rfl, zmem (i := 209) (by decide +kernel) rfl⟩
theorem fl_X3_97 : zFL RX3 97 3 7 "I" false := ⟨RX3, TX3, 9, rfl, by decide, rfl, rfl, zmem (i := 207) (by decide +kernel) rfl⟩
theorem fl_X4_12 : zFL RX4 12 4 0 "LInputrowConsole$Picture;" true := ⟨RX4, TX4, 12, rfl, by decide, rfl, rfl, zmem (i := 278) (by decide +kernel) rfl⟩
theorem fl_X4_21 : zFL RX4 21 4 1 "LInputrowConsole$History;" true := ⟨RX4, TX4, 12, rfl, by decide, rfl, rfl, zmem (i := 280) (by decide +kernel) rfl⟩
theorem fl_X4_25 : zFL RX4 25 4 2 "[I" true := ⟨RX4, TX4, 12, rfl, by decide, rfl, rfl, zmem (i := 283) (by decide +kernel) rfl⟩
theorem fl_X4_29 : zFL RX4 29 4 3 "[I" true := ⟨RX4, TX4, 12, rfl, by decide, rfl, rfl, zmem (i := 284) (by decide +kernel) rfl⟩
theorem fl_X4_32 : zFL RX4 32 4 4 "[I" true := ⟨RX4, TX4, 12, rfl, by decide, rfl, rfl, zmem (i := 285) (by decide +kernel) rfl⟩
theorem fl_X4_35 : zFL RX4 35 4 5 "[Z" true := ⟨RX4, TX4, 12, rfl, by decide, rfl, rfl, zmem (i := 286) (by decide +kernel) rfl⟩
theorem fl_X4_39 : zFL RX4 39 4 6 "I" false := ⟨RX4, TX4, 12, rfl, by decide, rfl, rfl, zmem (i := 287) (by decide +kernel) rfl⟩
theorem fl_X4_43 : zFL RX4 43 4 7 "I" false := ⟨RX4, TX4, 12, rfl, by decide, rfl, rfl, zmem (i := 288) (by decide +kernel) rfl⟩
theorem fl_X4_46 : zFL RX4 46 4 8 "I" false := ⟨RX4, TX4, 12, rfl, by decide, rfl, rfl, zmem (i := 289) (by decide +kernel) rfl⟩
theorem fl_X4_49 : zFL RX4 49 4 11 "Z" false := ⟨RX4, TX4, 12, rfl, by decide, rfl, rfl, zmem (i := 292) (by decide +kernel) rfl⟩
theorem fl_X4_57 : zFL RX4 57 1 0 "I" false := ⟨RX1, TX1, 5, rfl, by decide, rfl, rfl, zmem (i := 325) (by decide +kernel) rfl⟩
theorem fl_X4_73 : zFL RX4 73 1 1 "I" false := ⟨RX1, TX1, 5, rfl, by decide, rfl, rfl, zmem (i := 328) (by decide +kernel) rfl⟩
theorem fl_X4_86 : zFL RX4 86 4 9 "I" false := ⟨RX4, TX4, 12, rfl, by decide, rfl, rfl, zmem (i := 290) (by decide +kernel) rfl⟩
theorem fl_X4_96 : zFL RX4 96 4 10 "I" false := ⟨RX4, TX4, 12, rfl, by decide, rfl, rfl, zmem (i := 291) (by decide +kernel) rfl⟩
theorem fl_X4_99 : zFL RX4 99 1 2 "Z" false := ⟨RX1, TX1, 5, rfl, by decide, rfl, rfl, zmem (i := 331) (by decide +kernel) rfl⟩
theorem fl_X5_7 : zFL RX5 7 5 1 "Z" false := ⟨RX5, TX5, 6, rfl, by decide, rfl, rfl, zmem (i := 357) (by decide +kernel) rfl⟩
theorem fl_X5_13 : zFL RX5 13 5 2 "Z" false := ⟨RX5, TX5, 6, rfl, by decide, rfl, rfl, zmem (i := 359) (by decide +kernel) rfl⟩
theorem fl_X5_16 : zFL RX5 16 5 0 "Z" false := ⟨RX5, TX5, 6, rfl, by decide, rfl, rfl, zmem (i := 354) (by decide +kernel) rfl⟩
theorem fl_X5_19 : zFL RX5 19 5 3 "Z" false := ⟨RX5, TX5, 6, rfl, by decide, rfl, rfl, zmem (i := 362) (by decide +kernel) rfl⟩
theorem fl_X5_22 : zFL RX5 22 5 4 "Z" false := ⟨RX5, TX5, 6, rfl, by decide, rfl, rfl, zmem (i := 365) (by decide +kernel) rfl⟩
theorem fl_X5_25 : zFL RX5 25 5 5 "Z" false := ⟨RX5, TX5, 6, rfl, by decide, rfl, rfl, zmem (i := 368) (by decide +kernel) rfl⟩
theorem fl_X6_9 : zFL RX6 9 6 0 "[I" true := ⟨RX6, TX6, 4, rfl, by decide, rfl, rfl, zmem (i := 248) (by decide +kernel) rfl⟩
theorem fl_X6_15 : zFL RX6 15 6 1 "[Z" true := ⟨RX6, TX6, 4, rfl, by decide, rfl, rfl, zmem (i := 249) (by decide +kernel) rfl⟩
theorem fl_X6_19 : zFL RX6 19 6 2 "I" false := ⟨RX6, TX6, 4, rfl, by decide, rfl, rfl, zmem (i := 250) (by decide +kernel) rfl⟩
theorem fl_X6_23 : zFL RX6 23 6 3 "I" false := ⟨RX6, TX6, 4, rfl, by decide, rfl, rfl, zmem (i := 251) (by decide +kernel) rfl⟩
theorem fl_X7_14 : zFL RX7 14 7 0 "LInputrowConsole$Bytes;" true := ⟨RX7, TX7, 8, rfl, by decide, rfl, rfl, zmem (i := 391) (by decide +kernel) rfl⟩
theorem fl_X7_20 : zFL RX7 20 7 1 "LInputrowConsole$Bytes;" true := ⟨RX7, TX7, 8, rfl, by decide, rfl, rfl, zmem (i := 393) (by decide +kernel) rfl⟩
theorem fl_X7_23 : zFL RX7 23 7 2 "[I" true := ⟨RX7, TX7, 8, rfl, by decide, rfl, rfl, zmem (i := 394) (by decide +kernel) rfl⟩
theorem fl_X7_27 : zFL RX7 27 7 3 "I" false := ⟨RX7, TX7, 8, rfl, by decide, rfl, rfl, zmem (i := 395) (by decide +kernel) rfl⟩
theorem fl_X7_50 : zFL RX7 50 7 4 "I" false := ⟨RX7, TX7, 8, rfl, by decide, rfl, rfl, zmem (i := 397) (by decide +kernel) rfl⟩
theorem fl_X7_53 : zFL RX7 53 7 5 "Z" false := ⟨RX7, TX7, 8, rfl, by decide, rfl, rfl, zmem (i := 399) (by decide +kernel) rfl⟩
theorem fl_X7_57 : zFL RX7 57 7 6 "Z" false := ⟨RX7, TX7, 8, rfl, by decide, rfl, rfl, zmem (i := 400) (by decide +kernel) rfl⟩
theorem fl_X7_60 : zFL RX7 60 7 7 "Z" false := ⟨RX7, TX7, 8, rfl, by decide, rfl, rfl, zmem (i := 401) (by decide +kernel) rfl⟩
theorem fl_X8_12 : zFL RX8 12 8 0 "LInputrowConsole$Main;" true := ⟨RX8, TX8, 14, rfl, by decide, rfl, rfl, zmem (i := 428) (by decide +kernel) rfl⟩
theorem fl_X8_21 : zFL RX8 21 8 1 "LInputrowConsole$Cursor;" true := ⟨RX8, TX8, 14, rfl, by decide, rfl, rfl, zmem (i := 430) (by decide +kernel) rfl⟩
theorem fl_X8_28 : zFL RX8 28 8 2 "LInputrowConsole$Modes;" true := ⟨RX8, TX8, 14, rfl, by decide, rfl, rfl, zmem (i := 431) (by decide +kernel) rfl⟩
theorem fl_X8_35 : zFL RX8 35 8 3 "LInputrowConsole$Reader;" true := ⟨RX8, TX8, 14, rfl, by decide, rfl, rfl, zmem (i := 433) (by decide +kernel) rfl⟩
theorem fl_X8_44 : zFL RX8 44 8 4 "LInputrowConsole$Bytes;" true := ⟨RX8, TX8, 14, rfl, by decide, rfl, rfl, zmem (i := 435) (by decide +kernel) rfl⟩
theorem fl_X8_51 : zFL RX8 51 8 5 "LInputrowConsole$Picture;" true := ⟨RX8, TX8, 14, rfl, by decide, rfl, rfl, zmem (i := 437) (by decide +kernel) rfl⟩
theorem fl_X8_55 : zFL RX8 55 8 6 "LInputrowConsole$Cursor;" true := ⟨RX8, TX8, 14, rfl, by decide, rfl, rfl, zmem (i := 438) (by decide +kernel) rfl⟩
theorem fl_X8_58 : zFL RX8 58 8 7 "[Z" true := ⟨RX8, TX8, 14, rfl, by decide, rfl, rfl, zmem (i := 439) (by decide +kernel) rfl⟩
theorem fl_X8_62 : zFL RX8 62 8 9 "I" false := ⟨RX8, TX8, 14, rfl, by decide, rfl, rfl, zmem (i := 442) (by decide +kernel) rfl⟩
theorem fl_X8_66 : zFL RX8 66 8 10 "I" false := ⟨RX8, TX8, 14, rfl, by decide, rfl, rfl, zmem (i := 444) (by decide +kernel) rfl⟩
theorem fl_X8_69 : zFL RX8 69 8 13 "I" false := ⟨RX8, TX8, 14, rfl, by decide, rfl, rfl, zmem (i := 449) (by decide +kernel) rfl⟩
theorem fl_X8_75 : zFL RX8 75 8 8 "Z" false := ⟨RX8, TX8, 14, rfl, by decide, rfl, rfl, zmem (i := 440) (by decide +kernel) rfl⟩
theorem fl_X8_79 : zFL RX8 79 4 0 "LInputrowConsole$Picture;" true := ⟨RX4, TX4, 12, rfl, by decide, rfl, rfl, zmem (i := 279) (by decide +kernel) rfl⟩
theorem fl_X8_82 : zFL RX8 82 1 0 "I" false := ⟨RX1, TX1, 5, rfl, by decide, rfl, rfl, zmem (i := 326) (by decide +kernel) rfl⟩
theorem fl_X8_85 : zFL RX8 85 1 1 "I" false := ⟨RX1, TX1, 5, rfl, by decide, rfl, rfl, zmem (i := 329) (by decide +kernel) rfl⟩
theorem fl_X8_88 : zFL RX8 88 1 2 "Z" false := ⟨RX1, TX1, 5, rfl, by decide, rfl, rfl, zmem (i := 332) (by decide +kernel) rfl⟩
theorem fl_X8_91 : zFL RX8 91 7 3 "I" false := ⟨RX7, TX7, 8, rfl, by decide, rfl, rfl, zmem (i := 396) (by decide +kernel) rfl⟩
theorem fl_X8_94 : zFL RX8 94 1 3 "I" false := ⟨RX1, TX1, 5, rfl, by decide, rfl, rfl, zmem (i := 334) (by decide +kernel) rfl⟩
theorem fl_X8_97 : zFL RX8 97 8 12 "I" false := ⟨RX8, TX8, 14, rfl, by decide, rfl, rfl, zmem (i := 448) (by decide +kernel) rfl⟩
theorem fl_X8_100 : zFL RX8 100 4 1 "LInputrowConsole$History;" true := ⟨RX4, TX4, 12, rfl, by decide, rfl, rfl, zmem (i := 281) (by decide +kernel) rfl⟩
theorem fl_X8_146 : zFL RX8 146 5 1 "Z" false := ⟨RX5, TX5, 6, rfl, by decide, rfl, rfl, zmem (i := 358) (by decide +kernel) rfl⟩
theorem fl_X8_160 : zFL RX8 160 5 5 "Z" false := ⟨RX5, TX5, 6, rfl, by decide, rfl, rfl, zmem (i := 369) (by decide +kernel) rfl⟩
theorem fl_X8_179 : zFL RX8 179 8 11 "I" false := ⟨RX8, TX8, 14, rfl, by decide, rfl, rfl, zmem (i := 446) (by decide +kernel) rfl⟩
theorem fl_X8_275 : zFL RX8 275 1 4 "Z" false := ⟨RX1, TX1, 5, rfl, by decide, rfl, rfl, zmem (i := 336) (by decide +kernel) rfl⟩
theorem fl_X8_283 : zFL RX8 283 7 4 "I" false := ⟨RX7, TX7, 8, rfl, by decide, rfl, rfl, zmem (i := 398) (by decide +kernel) rfl⟩
theorem fl_X8_293 : zFL RX8 293 5 0 "Z" false := ⟨RX5, TX5, 6, rfl, by decide, rfl, rfl, zmem (i := 356) (by decide +kernel) rfl⟩
theorem fl_X8_296 : zFL RX8 296 5 2 "Z" false := ⟨RX5, TX5, 6, rfl, by decide, rfl, rfl, zmem (i := 361) (by decide +kernel) rfl⟩
theorem fl_X8_302 : zFL RX8 302 5 3 "Z" false := ⟨RX5, TX5, 6, rfl, by decide, rfl, rfl, zmem (i := 364) (by decide +kernel) rfl⟩
theorem fl_X8_305 : zFL RX8 305 5 4 "Z" false := ⟨RX5, TX5, 6, rfl, by decide, rfl, rfl, zmem (i := 367) (by decide +kernel) rfl⟩
theorem fl_X9_12 : zFL RX9 12 9 0 "LInputrowConsole$Picture;" true := ⟨RX9, TX9, 3, rfl, by decide, rfl, rfl, zmem (i := 503) (by decide +kernel) rfl⟩
theorem fl_X9_18 : zFL RX9 18 9 1 "[I" true := ⟨RX9, TX9, 3, rfl, by decide, rfl, rfl, zmem (i := 505) (by decide +kernel) rfl⟩
theorem fl_X9_22 : zFL RX9 22 9 2 "[Z" true := ⟨RX9, TX9, 3, rfl, by decide, rfl, rfl, zmem (i := 506) (by decide +kernel) rfl⟩
theorem k_X11_278 : Cond.constant RX11 278 (Int32.ofInt 100000) ∈ zGW := zmem (i := 1051) (by decide +kernel) rfl
theorem k_X12_145 : Cond.constant RX12 145 (Int32.ofInt 100000) ∈ zGW := zmem (i := 1952) (by decide +kernel) rfl
theorem k_X12_396 : Cond.constant RX12 396 (Int32.ofInt 1000000) ∈ zGW := zmem (i := 2086) (by decide +kernel) rfl
theorem k_X8_178 : Cond.constant RX8 178 (Int32.ofInt 100000) ∈ zGW := zmem (i := 1052) (by decide +kernel) rfl
theorem k_X9_42 : Cond.constant RX9 42 (Int32.ofInt 1000000) ∈ zGW := zmem (i := 1282) (by decide +kernel) rfl
theorem q_J7_rangeCheck_23922 : Cond.static m_J7_rangeCheck_23922.1 ∈ zGW ∧ Cond.initialized m_J7_rangeCheck_23922.1.cls ∈ zGW ∧ Cond.code m_J7_rangeCheck_23922.1 m_J7_rangeCheck_23922.2.1 m_J7_rangeCheck_23922.2.2.1 m_J7_rangeCheck_23922.2.2.2 ∈ zGW := ⟨zmem (i := 689) (by decide +kernel) rfl, zmem (i := 146) (by decide +kernel) rfl, zmem (i := 690) (by decide +kernel) rfl⟩
theorem ml_J7_13 : zLS RJ7 13 3 m_J7_rangeCheck_23922 := ⟨zall3 (zmem (i := 688) (by decide +kernel) rfl) q_J7_rangeCheck_23922.1 q_J7_rangeCheck_23922.2.1, q_J7_rangeCheck_23922.2.2, by decide +kernel⟩
theorem q_X0_placeOf : Cond.instanceMethod m_X0_placeOf.1 ∈ zGW ∧ Cond.selects RX0 m_X0_placeOf.1 m_X0_placeOf.1 ∈ zGW ∧ Cond.initialized RX0 ∈ zGW ∧ Cond.code m_X0_placeOf.1 m_X0_placeOf.2.1 m_X0_placeOf.2.2.1 m_X0_placeOf.2.2.2 ∈ zGW := ⟨zmem (i := 550) (by decide +kernel) rfl, zmem (i := 2) (by decide +kernel) rfl, zmem (i := 128) (by decide +kernel) rfl, zmem (i := 551) (by decide +kernel) rfl⟩
theorem ml_X0_28 : zLV RX0 28 0 1 m_X0_placeOf := ⟨RX0, TX0, 3, rfl, zall4 (zmem (i := 548) (by decide +kernel) rfl) q_X0_placeOf.1 q_X0_placeOf.2.1 q_X0_placeOf.2.2.1, q_X0_placeOf.2.2.2, by decide +kernel⟩
theorem q_X0_add : Cond.instanceMethod m_X0_add.1 ∈ zGW ∧ Cond.selects RX0 m_X0_add.1 m_X0_add.1 ∈ zGW ∧ Cond.initialized RX0 ∈ zGW ∧ Cond.code m_X0_add.1 m_X0_add.2.1 m_X0_add.2.2.1 m_X0_add.2.2.2 ∈ zGW := ⟨zmem (i := 545) (by decide +kernel) rfl, zmem (i := 546) (by decide +kernel) rfl, zmem (i := 128) (by decide +kernel) rfl, zmem (i := 547) (by decide +kernel) rfl⟩
theorem ml_X0_32 : zLV RX0 32 0 1 m_X0_add := ⟨RX0, TX0, 3, rfl, zall4 (zmem (i := 612) (by decide +kernel) rfl) q_X0_add.1 q_X0_add.2.1 q_X0_add.2.2.1, q_X0_add.2.2.2, by decide +kernel⟩
theorem q_X0_at : Cond.instanceMethod m_X0_at.1 ∈ zGW ∧ Cond.selects RX0 m_X0_at.1 m_X0_at.1 ∈ zGW ∧ Cond.initialized RX0 ∈ zGW ∧ Cond.code m_X0_at.1 m_X0_at.2.1 m_X0_at.2.2.1 m_X0_at.2.2.2 ∈ zGW := ⟨zmem (i := 1207) (by decide +kernel) rfl, zmem (i := 1208) (by decide +kernel) rfl, zmem (i := 128) (by decide +kernel) rfl, zmem (i := 1209) (by decide +kernel) rfl⟩
theorem ml_X0_36 : zLV RX0 36 0 1 m_X0_at := ⟨RX0, TX0, 3, rfl, zall4 (zmem (i := 1206) (by decide +kernel) rfl) q_X0_at.1 q_X0_at.2.1 q_X0_at.2.2.1, q_X0_at.2.2.2, by decide +kernel⟩
theorem q_X0_count : Cond.instanceMethod m_X0_count.1 ∈ zGW ∧ Cond.selects RX0 m_X0_count.1 m_X0_count.1 ∈ zGW ∧ Cond.initialized RX0 ∈ zGW ∧ Cond.code m_X0_count.1 m_X0_count.2.1 m_X0_count.2.2.1 m_X0_count.2.2.2 ∈ zGW := ⟨zmem (i := 553) (by decide +kernel) rfl, zmem (i := 554) (by decide +kernel) rfl, zmem (i := 128) (by decide +kernel) rfl, zmem (i := 555) (by decide +kernel) rfl⟩
theorem ml_X0_39 : zLV RX0 39 0 0 m_X0_count := ⟨RX0, TX0, 3, rfl, zall4 (zmem (i := 610) (by decide +kernel) rfl) q_X0_count.1 q_X0_count.2.1 q_X0_count.2.2.1, q_X0_count.2.2.2, by decide +kernel⟩
theorem q_X0_removeFirst : Cond.instanceMethod m_X0_removeFirst.1 ∈ zGW ∧ Cond.selects RX0 m_X0_removeFirst.1 m_X0_removeFirst.1 ∈ zGW ∧ Cond.initialized RX0 ∈ zGW ∧ Cond.code m_X0_removeFirst.1 m_X0_removeFirst.2.1 m_X0_removeFirst.2.2.1 m_X0_removeFirst.2.2.2 ∈ zGW := ⟨zmem (i := 557) (by decide +kernel) rfl, zmem (i := 558) (by decide +kernel) rfl, zmem (i := 128) (by decide +kernel) rfl, zmem (i := 559) (by decide +kernel) rfl⟩
theorem ml_X0_42 : zLV RX0 42 0 0 m_X0_removeFirst := ⟨RX0, TX0, 3, rfl, zall4 (zmem (i := 611) (by decide +kernel) rfl) q_X0_removeFirst.1 q_X0_removeFirst.2.1 q_X0_removeFirst.2.2.1, q_X0_removeFirst.2.2.2, by decide +kernel⟩
theorem q_X1_goTo : Cond.instanceMethod m_X1_goTo.1 ∈ zGW ∧ Cond.selects RX1 m_X1_goTo.1 m_X1_goTo.1 ∈ zGW ∧ Cond.initialized RX1 ∈ zGW ∧ Cond.code m_X1_goTo.1 m_X1_goTo.2.1 m_X1_goTo.2.2.1 m_X1_goTo.2.2.2 ∈ zGW := ⟨zmem (i := 1102) (by decide +kernel) rfl, zmem (i := 1103) (by decide +kernel) rfl, zmem (i := 135) (by decide +kernel) rfl, zmem (i := 1104) (by decide +kernel) rfl⟩
theorem ml_X1_26 : zLV RX1 26 1 2 m_X1_goTo := ⟨RX1, TX1, 5, rfl, zall4 (zmem (i := 1101) (by decide +kernel) rfl) q_X1_goTo.1 q_X1_goTo.2.1 q_X1_goTo.2.2.1, q_X1_goTo.2.2.2, by decide +kernel⟩
theorem ml_X10_31 : zMx RX10 31 := zall4 (zmem (i := 1547) (by decide +kernel) rfl) (zmem (i := 174) (by decide +kernel) rfl) (zmem (i := 129) (by decide +kernel) rfl) (zmem (i := 175) (by decide +kernel) rfl)
theorem q_X8_receive : Cond.instanceMethod m_X8_receive.1 ∈ zGW ∧ Cond.selects RX8 m_X8_receive.1 m_X8_receive.1 ∈ zGW ∧ Cond.initialized RX8 ∈ zGW ∧ Cond.code m_X8_receive.1 m_X8_receive.2.1 m_X8_receive.2.2.1 m_X8_receive.2.2.2 ∈ zGW := ⟨zmem (i := 591) (by decide +kernel) rfl, zmem (i := 592) (by decide +kernel) rfl, zmem (i := 131) (by decide +kernel) rfl, zmem (i := 593) (by decide +kernel) rfl⟩
theorem ml_X10_37 : zLV RX10 37 8 1 m_X8_receive := ⟨RX8, TX8, 14, rfl, zall4 (zmem (i := 1548) (by decide +kernel) rfl) q_X8_receive.1 q_X8_receive.2.1 q_X8_receive.2.2.1, q_X8_receive.2.2.2, by decide +kernel⟩
theorem q_X8_resize : Cond.instanceMethod m_X8_resize.1 ∈ zGW ∧ Cond.selects RX8 m_X8_resize.1 m_X8_resize.1 ∈ zGW ∧ Cond.initialized RX8 ∈ zGW ∧ Cond.code m_X8_resize.1 m_X8_resize.2.1 m_X8_resize.2.2.1 m_X8_resize.2.2.2 ∈ zGW := ⟨zmem (i := 1440) (by decide +kernel) rfl, zmem (i := 1441) (by decide +kernel) rfl, zmem (i := 131) (by decide +kernel) rfl, zmem (i := 1442) (by decide +kernel) rfl⟩
theorem ml_X10_42 : zLV RX10 42 8 2 m_X8_resize := ⟨RX8, TX8, 14, rfl, zall4 (zmem (i := 1549) (by decide +kernel) rfl) q_X8_resize.1 q_X8_resize.2.1 q_X8_resize.2.2.1, q_X8_resize.2.2.2, by decide +kernel⟩
theorem ml_X11_77 : zLV RX11 77 0 0 m_X0_count := ⟨RX0, TX0, 3, rfl, zall4 (zmem (i := 552) (by decide +kernel) rfl) q_X0_count.1 q_X0_count.2.1 q_X0_count.2.2.1, q_X0_count.2.2.2, by decide +kernel⟩
theorem ml_X11_90 : zLV RX11 90 0 1 m_X0_add := ⟨RX0, TX0, 3, rfl, zall4 (zmem (i := 544) (by decide +kernel) rfl) q_X0_add.1 q_X0_add.2.1 q_X0_add.2.2.1, q_X0_add.2.2.2, by decide +kernel⟩
theorem q_X0_room : Cond.instanceMethod m_X0_room.1 ∈ zGW ∧ Cond.selects RX0 m_X0_room.1 m_X0_room.1 ∈ zGW ∧ Cond.initialized RX0 ∈ zGW ∧ Cond.code m_X0_room.1 m_X0_room.2.1 m_X0_room.2.2.1 m_X0_room.2.2.2 ∈ zGW := ⟨zmem (i := 1334) (by decide +kernel) rfl, zmem (i := 1335) (by decide +kernel) rfl, zmem (i := 128) (by decide +kernel) rfl, zmem (i := 1336) (by decide +kernel) rfl⟩
theorem ml_X11_117 : zLV RX11 117 0 0 m_X0_room := ⟨RX0, TX0, 3, rfl, zall4 (zmem (i := 1399) (by decide +kernel) rfl) q_X0_room.1 q_X0_room.2.1 q_X0_room.2.2.1, q_X0_room.2.2.2, by decide +kernel⟩
theorem ml_X11_128 : zLV RX11 128 0 0 m_X0_removeFirst := ⟨RX0, TX0, 3, rfl, zall4 (zmem (i := 556) (by decide +kernel) rfl) q_X0_removeFirst.1 q_X0_removeFirst.2.1 q_X0_removeFirst.2.2.1, q_X0_removeFirst.2.2.2, by decide +kernel⟩
theorem q_X8_has : Cond.instanceMethod m_X8_has.1 ∈ zGW ∧ Cond.selects RX8 m_X8_has.1 m_X8_has.1 ∈ zGW ∧ Cond.initialized RX8 ∈ zGW ∧ Cond.code m_X8_has.1 m_X8_has.2.1 m_X8_has.2.2.1 m_X8_has.2.2.2 ∈ zGW := ⟨zmem (i := 1410) (by decide +kernel) rfl, zmem (i := 1411) (by decide +kernel) rfl, zmem (i := 131) (by decide +kernel) rfl, zmem (i := 1412) (by decide +kernel) rfl⟩
theorem ml_X11_131 : zLV RX11 131 8 2 m_X8_has := ⟨RX8, TX8, 14, rfl, zall4 (zmem (i := 1409) (by decide +kernel) rfl) q_X8_has.1 q_X8_has.2.1 q_X8_has.2.2.1, q_X8_has.2.2.2, by decide +kernel⟩
theorem q_X3_change : Cond.instanceMethod m_X3_change.1 ∈ zGW ∧ Cond.selects RX3 m_X3_change.1 m_X3_change.1 ∈ zGW ∧ Cond.initialized RX3 ∈ zGW ∧ Cond.code m_X3_change.1 m_X3_change.2.1 m_X3_change.2.2.1 m_X3_change.2.2.2 ∈ zGW := ⟨zmem (i := 1249) (by decide +kernel) rfl, zmem (i := 1250) (by decide +kernel) rfl, zmem (i := 130) (by decide +kernel) rfl, zmem (i := 1251) (by decide +kernel) rfl⟩
theorem ml_X11_145 : zLV RX11 145 3 2 m_X3_change := ⟨RX3, TX3, 9, rfl, zall4 (zmem (i := 1248) (by decide +kernel) rfl) q_X3_change.1 q_X3_change.2.1 q_X3_change.2.2.1, q_X3_change.2.2.2, by decide +kernel⟩
theorem q_X2_count : Cond.instanceMethod m_X2_count.1 ∈ zGW ∧ Cond.selects RX2 m_X2_count.1 m_X2_count.1 ∈ zGW ∧ Cond.initialized RX2 ∈ zGW ∧ Cond.code m_X2_count.1 m_X2_count.2.1 m_X2_count.2.2.1 m_X2_count.2.2.2 ∈ zGW := ⟨zmem (i := 1448) (by decide +kernel) rfl, zmem (i := 1449) (by decide +kernel) rfl, zmem (i := 134) (by decide +kernel) rfl, zmem (i := 1450) (by decide +kernel) rfl⟩
theorem ml_X11_174 : zLV RX11 174 2 0 m_X2_count := ⟨RX2, TX2, 3, rfl, zall4 (zmem (i := 1527) (by decide +kernel) rfl) q_X2_count.1 q_X2_count.2.1 q_X2_count.2.2.1, q_X2_count.2.2.2, by decide +kernel⟩
theorem q_X8_shown : Cond.instanceMethod m_X8_shown.1 ∈ zGW ∧ Cond.selects RX8 m_X8_shown.1 m_X8_shown.1 ∈ zGW ∧ Cond.initialized RX8 ∈ zGW ∧ Cond.code m_X8_shown.1 m_X8_shown.2.1 m_X8_shown.2.2.1 m_X8_shown.2.2.2 ∈ zGW := ⟨zmem (i := 640) (by decide +kernel) rfl, zmem (i := 641) (by decide +kernel) rfl, zmem (i := 131) (by decide +kernel) rfl, zmem (i := 642) (by decide +kernel) rfl⟩
theorem ml_X11_177 : zLV RX11 177 8 0 m_X8_shown := ⟨RX8, TX8, 14, rfl, zall4 (zmem (i := 1260) (by decide +kernel) rfl) q_X8_shown.1 q_X8_shown.2.1 q_X8_shown.2.2.1, q_X8_shown.2.2.2, by decide +kernel⟩
theorem q_X6_rows : Cond.instanceMethod m_X6_rows.1 ∈ zGW ∧ Cond.selects RX6 m_X6_rows.1 m_X6_rows.1 ∈ zGW ∧ Cond.initialized RX6 ∈ zGW ∧ Cond.code m_X6_rows.1 m_X6_rows.2.1 m_X6_rows.2.2.1 m_X6_rows.2.2.2 ∈ zGW := ⟨zmem (i := 1262) (by decide +kernel) rfl, zmem (i := 1263) (by decide +kernel) rfl, zmem (i := 133) (by decide +kernel) rfl, zmem (i := 1264) (by decide +kernel) rfl⟩
theorem ml_X11_181 : zLV RX11 181 6 0 m_X6_rows := ⟨RX6, TX6, 4, rfl, zall4 (zmem (i := 1261) (by decide +kernel) rfl) q_X6_rows.1 q_X6_rows.2.1 q_X6_rows.2.2.1, q_X6_rows.2.2.2, by decide +kernel⟩
theorem q_X9_costsOf : Cond.instanceMethod m_X9_costsOf.1 ∈ zGW ∧ Cond.selects RX9 m_X9_costsOf.1 m_X9_costsOf.1 ∈ zGW ∧ Cond.initialized RX9 ∈ zGW ∧ Cond.code m_X9_costsOf.1 m_X9_costsOf.2.1 m_X9_costsOf.2.2.1 m_X9_costsOf.2.2.2 ∈ zGW := ⟨zmem (i := 1266) (by decide +kernel) rfl, zmem (i := 1267) (by decide +kernel) rfl, zmem (i := 139) (by decide +kernel) rfl, zmem (i := 1268) (by decide +kernel) rfl⟩
theorem ml_X11_186 : zLV RX11 186 9 2 m_X9_costsOf := ⟨RX9, TX9, 3, rfl, zall4 (zmem (i := 1265) (by decide +kernel) rfl) q_X9_costsOf.1 q_X9_costsOf.2.1 q_X9_costsOf.2.2.1, q_X9_costsOf.2.2.2, by decide +kernel⟩
theorem q_X6_copyCells : Cond.instanceMethod m_X6_copyCells.1 ∈ zGW ∧ Cond.selects RX6 m_X6_copyCells.1 m_X6_copyCells.1 ∈ zGW ∧ Cond.initialized RX6 ∈ zGW ∧ Cond.code m_X6_copyCells.1 m_X6_copyCells.2.1 m_X6_copyCells.2.2.1 m_X6_copyCells.2.2.2 ∈ zGW := ⟨zmem (i := 1314) (by decide +kernel) rfl, zmem (i := 1315) (by decide +kernel) rfl, zmem (i := 133) (by decide +kernel) rfl, zmem (i := 1316) (by decide +kernel) rfl⟩
theorem ml_X11_194 : zLV RX11 194 6 1 m_X6_copyCells := ⟨RX6, TX6, 4, rfl, zall4 (zmem (i := 1313) (by decide +kernel) rfl) q_X6_copyCells.1 q_X6_copyCells.2.1 q_X6_copyCells.2.2.1, q_X6_copyCells.2.2.2, by decide +kernel⟩
theorem q_X6_at : Cond.instanceMethod m_X6_at.1 ∈ zGW ∧ Cond.selects RX6 m_X6_at.1 m_X6_at.1 ∈ zGW ∧ Cond.initialized RX6 ∈ zGW ∧ Cond.code m_X6_at.1 m_X6_at.2.1 m_X6_at.2.2.1 m_X6_at.2.2.2 ∈ zGW := ⟨zmem (i := 655) (by decide +kernel) rfl, zmem (i := 656) (by decide +kernel) rfl, zmem (i := 133) (by decide +kernel) rfl, zmem (i := 657) (by decide +kernel) rfl⟩
theorem ml_X11_198 : zLV RX11 198 6 2 m_X6_at := ⟨RX6, TX6, 4, rfl, zall4 (zmem (i := 1535) (by decide +kernel) rfl) q_X6_at.1 q_X6_at.2.1 q_X6_at.2.2.1, q_X6_at.2.2.2, by decide +kernel⟩
theorem q_X10_playOn : Cond.instanceMethod m_X10_playOn.1 ∈ zGW ∧ Cond.selects RX10 m_X10_playOn.1 m_X10_playOn.1 ∈ zGW ∧ Cond.initialized RX10 ∈ zGW ∧ Cond.code m_X10_playOn.1 m_X10_playOn.2.1 m_X10_playOn.2.2.1 m_X10_playOn.2.2.2 ∈ zGW := ⟨zmem (i := 1544) (by decide +kernel) rfl, zmem (i := 1545) (by decide +kernel) rfl, zmem (i := 138) (by decide +kernel) rfl, zmem (i := 1546) (by decide +kernel) rfl⟩
theorem ml_X11_202 : zLV RX11 202 10 1 m_X10_playOn := ⟨RX10, TX10, 3, rfl, zall4 (zmem (i := 1543) (by decide +kernel) rfl) q_X10_playOn.1 q_X10_playOn.2.1 q_X10_playOn.2.2.1, q_X10_playOn.2.2.2, by decide +kernel⟩
theorem q_X2_at : Cond.instanceMethod m_X2_at.1 ∈ zGW ∧ Cond.selects RX2 m_X2_at.1 m_X2_at.1 ∈ zGW ∧ Cond.initialized RX2 ∈ zGW ∧ Cond.code m_X2_at.1 m_X2_at.2.1 m_X2_at.2.2.1 m_X2_at.2.2.2 ∈ zGW := ⟨zmem (i := 1484) (by decide +kernel) rfl, zmem (i := 1485) (by decide +kernel) rfl, zmem (i := 134) (by decide +kernel) rfl, zmem (i := 1486) (by decide +kernel) rfl⟩
theorem ml_X11_210 : zLV RX11 210 2 2 m_X2_at := ⟨RX2, TX2, 3, rfl, zall4 (zmem (i := 1557) (by decide +kernel) rfl) q_X2_at.1 q_X2_at.2.1 q_X2_at.2.2.1, q_X2_at.2.2.2, by decide +kernel⟩
theorem q_X2_isGoing : Cond.instanceMethod m_X2_isGoing.1 ∈ zGW ∧ Cond.selects RX2 m_X2_isGoing.1 m_X2_isGoing.1 ∈ zGW ∧ Cond.initialized RX2 ∈ zGW ∧ Cond.code m_X2_isGoing.1 m_X2_isGoing.2.1 m_X2_isGoing.2.2.1 m_X2_isGoing.2.2.2 ∈ zGW := ⟨zmem (i := 1466) (by decide +kernel) rfl, zmem (i := 1467) (by decide +kernel) rfl, zmem (i := 134) (by decide +kernel) rfl, zmem (i := 1468) (by decide +kernel) rfl⟩
theorem ml_X11_215 : zLV RX11 215 2 1 m_X2_isGoing := ⟨RX2, TX2, 3, rfl, zall4 (zmem (i := 1566) (by decide +kernel) rfl) q_X2_isGoing.1 q_X2_isGoing.2.1 q_X2_isGoing.2.2.1, q_X2_isGoing.2.2.2, by decide +kernel⟩
theorem q_X6_isGoing : Cond.instanceMethod m_X6_isGoing.1 ∈ zGW ∧ Cond.selects RX6 m_X6_isGoing.1 m_X6_isGoing.1 ∈ zGW ∧ Cond.initialized RX6 ∈ zGW ∧ Cond.code m_X6_isGoing.1 m_X6_isGoing.2.1 m_X6_isGoing.2.2.1 m_X6_isGoing.2.2.2 ∈ zGW := ⟨zmem (i := 677) (by decide +kernel) rfl, zmem (i := 678) (by decide +kernel) rfl, zmem (i := 133) (by decide +kernel) rfl, zmem (i := 679) (by decide +kernel) rfl⟩
theorem ml_X11_218 : zLV RX11 218 6 1 m_X6_isGoing := ⟨RX6, TX6, 4, rfl, zall4 (zmem (i := 1567) (by decide +kernel) rfl) q_X6_isGoing.1 q_X6_isGoing.2.1 q_X6_isGoing.2.2.1, q_X6_isGoing.2.2.2, by decide +kernel⟩
theorem ml_X11_230 : zLV RX11 230 0 1 m_X0_at := ⟨RX0, TX0, 3, rfl, zall4 (zmem (i := 1576) (by decide +kernel) rfl) q_X0_at.1 q_X0_at.2.1 q_X0_at.2.2.1, q_X0_at.2.2.2, by decide +kernel⟩
theorem q_X8_nextTab : Cond.instanceMethod m_X8_nextTab.1 ∈ zGW ∧ Cond.selects RX8 m_X8_nextTab.1 m_X8_nextTab.1 ∈ zGW ∧ Cond.initialized RX8 ∈ zGW ∧ Cond.code m_X8_nextTab.1 m_X8_nextTab.2.1 m_X8_nextTab.2.2.1 m_X8_nextTab.2.2.2 ∈ zGW := ⟨zmem (i := 1058) (by decide +kernel) rfl, zmem (i := 1059) (by decide +kernel) rfl, zmem (i := 131) (by decide +kernel) rfl, zmem (i := 1060) (by decide +kernel) rfl⟩
theorem ml_X11_252 : zLV RX11 252 8 0 m_X8_nextTab := ⟨RX8, TX8, 14, rfl, zall4 (zmem (i := 1592) (by decide +kernel) rfl) q_X8_nextTab.1 q_X8_nextTab.2.1 q_X8_nextTab.2.2.1, q_X8_nextTab.2.2.2, by decide +kernel⟩
theorem q_X8_tellPlaces : Cond.instanceMethod m_X8_tellPlaces.1 ∈ zGW ∧ Cond.selects RX8 m_X8_tellPlaces.1 m_X8_tellPlaces.1 ∈ zGW ∧ Cond.initialized RX8 ∈ zGW ∧ Cond.code m_X8_tellPlaces.1 m_X8_tellPlaces.2.1 m_X8_tellPlaces.2.2.1 m_X8_tellPlaces.2.2.2 ∈ zGW := ⟨zmem (i := 1594) (by decide +kernel) rfl, zmem (i := 1595) (by decide +kernel) rfl, zmem (i := 131) (by decide +kernel) rfl, zmem (i := 1596) (by decide +kernel) rfl⟩
theorem ml_X11_255 : zLV RX11 255 8 1 m_X8_tellPlaces := ⟨RX8, TX8, 14, rfl, zall4 (zmem (i := 1593) (by decide +kernel) rfl) q_X8_tellPlaces.1 q_X8_tellPlaces.2.1 q_X8_tellPlaces.2.2.1, q_X8_tellPlaces.2.2.2, by decide +kernel⟩
theorem q_X12_laysTabs : Cond.instanceMethod m_X12_laysTabs.1 ∈ zGW ∧ Cond.selects RX12 m_X12_laysTabs.1 m_X12_laysTabs.1 ∈ zGW ∧ Cond.initialized RX12 ∈ zGW ∧ Cond.code m_X12_laysTabs.1 m_X12_laysTabs.2.1 m_X12_laysTabs.2.2.1 m_X12_laysTabs.2.2.2 ∈ zGW := ⟨zmem (i := 1606) (by decide +kernel) rfl, zmem (i := 65) (by decide +kernel) rfl, zmem (i := 140) (by decide +kernel) rfl, zmem (i := 1607) (by decide +kernel) rfl⟩
theorem ml_X12_76 : zLV RX12 76 12 1 m_X12_laysTabs := ⟨RX12, TX12, 59, rfl, zall4 (zmem (i := 1604) (by decide +kernel) rfl) q_X12_laysTabs.1 q_X12_laysTabs.2.1 q_X12_laysTabs.2.2.1, q_X12_laysTabs.2.2.2, by decide +kernel⟩
theorem q_X12_in : Cond.static m_X12_in.1 ∈ zGW ∧ Cond.initialized m_X12_in.1.cls ∈ zGW ∧ Cond.code m_X12_in.1 m_X12_in.2.1 m_X12_in.2.2.1 m_X12_in.2.2.2 ∈ zGW := ⟨zmem (i := 1795) (by decide +kernel) rfl, zmem (i := 140) (by decide +kernel) rfl, zmem (i := 1796) (by decide +kernel) rfl⟩
theorem ml_X12_83 : zLS RX12 83 3 m_X12_in := ⟨zall3 (zmem (i := 1794) (by decide +kernel) rfl) q_X12_in.1 q_X12_in.2.1, q_X12_in.2.2, by decide +kernel⟩
theorem q_X12_at : Cond.instanceMethod m_X12_at.1 ∈ zGW ∧ Cond.selects RX12 m_X12_at.1 m_X12_at.1 ∈ zGW ∧ Cond.initialized RX12 ∈ zGW ∧ Cond.code m_X12_at.1 m_X12_at.2.1 m_X12_at.2.2.1 m_X12_at.2.2.2 ∈ zGW := ⟨zmem (i := 1835) (by decide +kernel) rfl, zmem (i := 75) (by decide +kernel) rfl, zmem (i := 140) (by decide +kernel) rfl, zmem (i := 1836) (by decide +kernel) rfl⟩
theorem ml_X12_90 : zLV RX12 90 12 2 m_X12_at := ⟨RX12, TX12, 59, rfl, zall4 (zmem (i := 1833) (by decide +kernel) rfl) q_X12_at.1 q_X12_at.2.1 q_X12_at.2.2.1, q_X12_at.2.2.2, by decide +kernel⟩
theorem q_X12_parts : Cond.instanceMethod m_X12_parts.1 ∈ zGW ∧ Cond.selects RX12 m_X12_parts.1 m_X12_parts.1 ∈ zGW ∧ Cond.initialized RX12 ∈ zGW ∧ Cond.code m_X12_parts.1 m_X12_parts.2.1 m_X12_parts.2.2.1 m_X12_parts.2.2.2 ∈ zGW := ⟨zmem (i := 1910) (by decide +kernel) rfl, zmem (i := 93) (by decide +kernel) rfl, zmem (i := 140) (by decide +kernel) rfl, zmem (i := 1911) (by decide +kernel) rfl⟩
theorem ml_X12_94 : zLV RX12 94 12 2 m_X12_parts := ⟨RX12, TX12, 59, rfl, zall4 (zmem (i := 1908) (by decide +kernel) rfl) q_X12_parts.1 q_X12_parts.2.1 q_X12_parts.2.2.1, q_X12_parts.2.2.2, by decide +kernel⟩
theorem q_X12_keepsRow : Cond.instanceMethod m_X12_keepsRow.1 ∈ zGW ∧ Cond.selects RX12 m_X12_keepsRow.1 m_X12_keepsRow.1 ∈ zGW ∧ Cond.initialized RX12 ∈ zGW ∧ Cond.code m_X12_keepsRow.1 m_X12_keepsRow.2.1 m_X12_keepsRow.2.2.1 m_X12_keepsRow.2.2.2 ∈ zGW := ⟨zmem (i := 1827) (by decide +kernel) rfl, zmem (i := 73) (by decide +kernel) rfl, zmem (i := 140) (by decide +kernel) rfl, zmem (i := 1828) (by decide +kernel) rfl⟩
theorem ml_X12_101 : zLV RX12 101 12 0 m_X12_keepsRow := ⟨RX12, TX12, 59, rfl, zall4 (zmem (i := 1825) (by decide +kernel) rfl) q_X12_keepsRow.1 q_X12_keepsRow.2.1 q_X12_keepsRow.2.2.1, q_X12_keepsRow.2.2.2, by decide +kernel⟩
theorem q_X12_copiesRow : Cond.instanceMethod m_X12_copiesRow.1 ∈ zGW ∧ Cond.selects RX12 m_X12_copiesRow.1 m_X12_copiesRow.1 ∈ zGW ∧ Cond.initialized RX12 ∈ zGW ∧ Cond.code m_X12_copiesRow.1 m_X12_copiesRow.2.1 m_X12_copiesRow.2.2.1 m_X12_copiesRow.2.2.2 ∈ zGW := ⟨zmem (i := 1831) (by decide +kernel) rfl, zmem (i := 74) (by decide +kernel) rfl, zmem (i := 140) (by decide +kernel) rfl, zmem (i := 1832) (by decide +kernel) rfl⟩
theorem ml_X12_104 : zLV RX12 104 12 2 m_X12_copiesRow := ⟨RX12, TX12, 59, rfl, zall4 (zmem (i := 1829) (by decide +kernel) rfl) q_X12_copiesRow.1 q_X12_copiesRow.2.1 q_X12_copiesRow.2.2.1, q_X12_copiesRow.2.2.2, by decide +kernel⟩
theorem q_X12_emptiesRow : Cond.instanceMethod m_X12_emptiesRow.1 ∈ zGW ∧ Cond.selects RX12 m_X12_emptiesRow.1 m_X12_emptiesRow.1 ∈ zGW ∧ Cond.initialized RX12 ∈ zGW ∧ Cond.code m_X12_emptiesRow.1 m_X12_emptiesRow.2.1 m_X12_emptiesRow.2.2.1 m_X12_emptiesRow.2.2.2 ∈ zGW := ⟨zmem (i := 1839) (by decide +kernel) rfl, zmem (i := 76) (by decide +kernel) rfl, zmem (i := 140) (by decide +kernel) rfl, zmem (i := 1840) (by decide +kernel) rfl⟩
theorem ml_X12_107 : zLV RX12 107 12 1 m_X12_emptiesRow := ⟨RX12, TX12, 59, rfl, zall4 (zmem (i := 1837) (by decide +kernel) rfl) q_X12_emptiesRow.1 q_X12_emptiesRow.2.1 q_X12_emptiesRow.2.2.1, q_X12_emptiesRow.2.2.2, by decide +kernel⟩
theorem q_X12_stopsAbove : Cond.instanceMethod m_X12_stopsAbove.1 ∈ zGW ∧ Cond.selects RX12 m_X12_stopsAbove.1 m_X12_stopsAbove.1 ∈ zGW ∧ Cond.initialized RX12 ∈ zGW ∧ Cond.code m_X12_stopsAbove.1 m_X12_stopsAbove.2.1 m_X12_stopsAbove.2.2.1 m_X12_stopsAbove.2.2.2 ∈ zGW := ⟨zmem (i := 1843) (by decide +kernel) rfl, zmem (i := 77) (by decide +kernel) rfl, zmem (i := 140) (by decide +kernel) rfl, zmem (i := 1844) (by decide +kernel) rfl⟩
theorem ml_X12_110 : zLV RX12 110 12 1 m_X12_stopsAbove := ⟨RX12, TX12, 59, rfl, zall4 (zmem (i := 1841) (by decide +kernel) rfl) q_X12_stopsAbove.1 q_X12_stopsAbove.2.1 q_X12_stopsAbove.2.2.1, q_X12_stopsAbove.2.2.2, by decide +kernel⟩
theorem q_X12_scrollsUp : Cond.instanceMethod m_X12_scrollsUp.1 ∈ zGW ∧ Cond.selects RX12 m_X12_scrollsUp.1 m_X12_scrollsUp.1 ∈ zGW ∧ Cond.initialized RX12 ∈ zGW ∧ Cond.code m_X12_scrollsUp.1 m_X12_scrollsUp.2.1 m_X12_scrollsUp.2.2.1 m_X12_scrollsUp.2.2.2 ∈ zGW := ⟨zmem (i := 1823) (by decide +kernel) rfl, zmem (i := 72) (by decide +kernel) rfl, zmem (i := 140) (by decide +kernel) rfl, zmem (i := 1824) (by decide +kernel) rfl⟩
theorem ml_X12_119 : zLV RX12 119 12 3 m_X12_scrollsUp := ⟨RX12, TX12, 59, rfl, zall4 (zmem (i := 1821) (by decide +kernel) rfl) q_X12_scrollsUp.1 q_X12_scrollsUp.2.1 q_X12_scrollsUp.2.2.1, q_X12_scrollsUp.2.2.2, by decide +kernel⟩
theorem q_X12_erases : Cond.instanceMethod m_X12_erases.1 ∈ zGW ∧ Cond.selects RX12 m_X12_erases.1 m_X12_erases.1 ∈ zGW ∧ Cond.initialized RX12 ∈ zGW ∧ Cond.code m_X12_erases.1 m_X12_erases.2.1 m_X12_erases.2.2.1 m_X12_erases.2.2.2 ∈ zGW := ⟨zmem (i := 1906) (by decide +kernel) rfl, zmem (i := 92) (by decide +kernel) rfl, zmem (i := 140) (by decide +kernel) rfl, zmem (i := 1907) (by decide +kernel) rfl⟩
theorem ml_X12_129 : zLV RX12 129 12 3 m_X12_erases := ⟨RX12, TX12, 59, rfl, zall4 (zmem (i := 1904) (by decide +kernel) rfl) q_X12_erases.1 q_X12_erases.2.1 q_X12_erases.2.2.1, q_X12_erases.2.2.2, by decide +kernel⟩
theorem q_X12_feeds : Cond.instanceMethod m_X12_feeds.1 ∈ zGW ∧ Cond.selects RX12 m_X12_feeds.1 m_X12_feeds.1 ∈ zGW ∧ Cond.initialized RX12 ∈ zGW ∧ Cond.code m_X12_feeds.1 m_X12_feeds.2.1 m_X12_feeds.2.2.1 m_X12_feeds.2.2.2 ∈ zGW := ⟨zmem (i := 1819) (by decide +kernel) rfl, zmem (i := 71) (by decide +kernel) rfl, zmem (i := 140) (by decide +kernel) rfl, zmem (i := 1820) (by decide +kernel) rfl⟩
theorem ml_X12_133 : zLV RX12 133 12 0 m_X12_feeds := ⟨RX12, TX12, 59, rfl, zall4 (zmem (i := 1817) (by decide +kernel) rfl) q_X12_feeds.1 q_X12_feeds.2.1 q_X12_feeds.2.2.1, q_X12_feeds.2.2.2, by decide +kernel⟩
theorem q_X12_movesRight : Cond.instanceMethod m_X12_movesRight.1 ∈ zGW ∧ Cond.selects RX12 m_X12_movesRight.1 m_X12_movesRight.1 ∈ zGW ∧ Cond.initialized RX12 ∈ zGW ∧ Cond.code m_X12_movesRight.1 m_X12_movesRight.2.1 m_X12_movesRight.2.2.1 m_X12_movesRight.2.2.2 ∈ zGW := ⟨zmem (i := 1918) (by decide +kernel) rfl, zmem (i := 95) (by decide +kernel) rfl, zmem (i := 140) (by decide +kernel) rfl, zmem (i := 1919) (by decide +kernel) rfl⟩
theorem ml_X12_139 : zLV RX12 139 12 3 m_X12_movesRight := ⟨RX12, TX12, 59, rfl, zall4 (zmem (i := 1916) (by decide +kernel) rfl) q_X12_movesRight.1 q_X12_movesRight.2.1 q_X12_movesRight.2.2.1, q_X12_movesRight.2.2.2, by decide +kernel⟩
theorem q_X12_lesser : Cond.static m_X12_lesser.1 ∈ zGW ∧ Cond.initialized m_X12_lesser.1.cls ∈ zGW ∧ Cond.code m_X12_lesser.1 m_X12_lesser.2.1 m_X12_lesser.2.2.1 m_X12_lesser.2.2.2 ∈ zGW := ⟨zmem (i := 1858) (by decide +kernel) rfl, zmem (i := 140) (by decide +kernel) rfl, zmem (i := 1859) (by decide +kernel) rfl⟩
theorem ml_X12_170 : zLS RX12 170 2 m_X12_lesser := ⟨zall3 (zmem (i := 1857) (by decide +kernel) rfl) q_X12_lesser.1 q_X12_lesser.2.1, q_X12_lesser.2.2, by decide +kernel⟩
theorem q_X12_empties : Cond.instanceMethod m_X12_empties.1 ∈ zGW ∧ Cond.selects RX12 m_X12_empties.1 m_X12_empties.1 ∈ zGW ∧ Cond.initialized RX12 ∈ zGW ∧ Cond.code m_X12_empties.1 m_X12_empties.2.1 m_X12_empties.2.2.1 m_X12_empties.2.2.2 ∈ zGW := ⟨zmem (i := 1870) (by decide +kernel) rfl, zmem (i := 83) (by decide +kernel) rfl, zmem (i := 140) (by decide +kernel) rfl, zmem (i := 1871) (by decide +kernel) rfl⟩
theorem ml_X12_173 : zLV RX12 173 12 1 m_X12_empties := ⟨RX12, TX12, 59, rfl, zall4 (zmem (i := 1868) (by decide +kernel) rfl) q_X12_empties.1 q_X12_empties.2.1 q_X12_empties.2.2.1, q_X12_empties.2.2.2, by decide +kernel⟩
theorem q_X12_nextTab : Cond.instanceMethod m_X12_nextTab.1 ∈ zGW ∧ Cond.selects RX12 m_X12_nextTab.1 m_X12_nextTab.1 ∈ zGW ∧ Cond.initialized RX12 ∈ zGW ∧ Cond.code m_X12_nextTab.1 m_X12_nextTab.2.1 m_X12_nextTab.2.2.1 m_X12_nextTab.2.2.2 ∈ zGW := ⟨zmem (i := 1815) (by decide +kernel) rfl, zmem (i := 70) (by decide +kernel) rfl, zmem (i := 140) (by decide +kernel) rfl, zmem (i := 1816) (by decide +kernel) rfl⟩
theorem ml_X12_188 : zLV RX12 188 12 0 m_X12_nextTab := ⟨RX12, TX12, 59, rfl, zall4 (zmem (i := 1813) (by decide +kernel) rfl) q_X12_nextTab.1 q_X12_nextTab.2.1 q_X12_nextTab.2.2.1, q_X12_nextTab.2.2.2, by decide +kernel⟩
theorem q_X12_saves : Cond.instanceMethod m_X12_saves.1 ∈ zGW ∧ Cond.selects RX12 m_X12_saves.1 m_X12_saves.1 ∈ zGW ∧ Cond.initialized RX12 ∈ zGW ∧ Cond.code m_X12_saves.1 m_X12_saves.2.1 m_X12_saves.2.2.1 m_X12_saves.2.2.2 ∈ zGW := ⟨zmem (i := 1851) (by decide +kernel) rfl, zmem (i := 79) (by decide +kernel) rfl, zmem (i := 140) (by decide +kernel) rfl, zmem (i := 1852) (by decide +kernel) rfl⟩
theorem ml_X12_210 : zLV RX12 210 12 0 m_X12_saves := ⟨RX12, TX12, 59, rfl, zall4 (zmem (i := 1849) (by decide +kernel) rfl) q_X12_saves.1 q_X12_saves.2.1 q_X12_saves.2.2.1, q_X12_saves.2.2.2, by decide +kernel⟩
theorem q_X12_bringsBack : Cond.instanceMethod m_X12_bringsBack.1 ∈ zGW ∧ Cond.selects RX12 m_X12_bringsBack.1 m_X12_bringsBack.1 ∈ zGW ∧ Cond.initialized RX12 ∈ zGW ∧ Cond.code m_X12_bringsBack.1 m_X12_bringsBack.2.1 m_X12_bringsBack.2.2.1 m_X12_bringsBack.2.2.2 ∈ zGW := ⟨zmem (i := 1855) (by decide +kernel) rfl, zmem (i := 80) (by decide +kernel) rfl, zmem (i := 140) (by decide +kernel) rfl, zmem (i := 1856) (by decide +kernel) rfl⟩
theorem ml_X12_213 : zLV RX12 213 12 0 m_X12_bringsBack := ⟨RX12, TX12, 59, rfl, zall4 (zmem (i := 1853) (by decide +kernel) rfl) q_X12_bringsBack.1 q_X12_bringsBack.2.1 q_X12_bringsBack.2.2.1, q_X12_bringsBack.2.2.2, by decide +kernel⟩
theorem q_X12_scrollsDown : Cond.instanceMethod m_X12_scrollsDown.1 ∈ zGW ∧ Cond.selects RX12 m_X12_scrollsDown.1 m_X12_scrollsDown.1 ∈ zGW ∧ Cond.initialized RX12 ∈ zGW ∧ Cond.code m_X12_scrollsDown.1 m_X12_scrollsDown.2.1 m_X12_scrollsDown.2.2.1 m_X12_scrollsDown.2.2.2 ∈ zGW := ⟨zmem (i := 1862) (by decide +kernel) rfl, zmem (i := 81) (by decide +kernel) rfl, zmem (i := 140) (by decide +kernel) rfl, zmem (i := 1863) (by decide +kernel) rfl⟩
theorem ml_X12_216 : zLV RX12 216 12 2 m_X12_scrollsDown := ⟨RX12, TX12, 59, rfl, zall4 (zmem (i := 1860) (by decide +kernel) rfl) q_X12_scrollsDown.1 q_X12_scrollsDown.2.1 q_X12_scrollsDown.2.2.1, q_X12_scrollsDown.2.2.2, by decide +kernel⟩
theorem q_X12_resets : Cond.instanceMethod m_X12_resets.1 ∈ zGW ∧ Cond.selects RX12 m_X12_resets.1 m_X12_resets.1 ∈ zGW ∧ Cond.initialized RX12 ∈ zGW ∧ Cond.code m_X12_resets.1 m_X12_resets.2.1 m_X12_resets.2.2.1 m_X12_resets.2.2.2 ∈ zGW := ⟨zmem (i := 1866) (by decide +kernel) rfl, zmem (i := 82) (by decide +kernel) rfl, zmem (i := 140) (by decide +kernel) rfl, zmem (i := 1867) (by decide +kernel) rfl⟩
theorem ml_X12_219 : zLV RX12 219 12 0 m_X12_resets := ⟨RX12, TX12, 59, rfl, zall4 (zmem (i := 1864) (by decide +kernel) rfl) q_X12_resets.1 q_X12_resets.2.1 q_X12_resets.2.2.1, q_X12_resets.2.2.2, by decide +kernel⟩
theorem q_X12_modes : Cond.instanceMethod m_X12_modes.1 ∈ zGW ∧ Cond.selects RX12 m_X12_modes.1 m_X12_modes.1 ∈ zGW ∧ Cond.initialized RX12 ∈ zGW ∧ Cond.code m_X12_modes.1 m_X12_modes.2.1 m_X12_modes.2.2.1 m_X12_modes.2.2.2 ∈ zGW := ⟨zmem (i := 1878) (by decide +kernel) rfl, zmem (i := 85) (by decide +kernel) rfl, zmem (i := 140) (by decide +kernel) rfl, zmem (i := 1879) (by decide +kernel) rfl⟩
theorem ml_X12_222 : zLV RX12 222 12 2 m_X12_modes := ⟨RX12, TX12, 59, rfl, zall4 (zmem (i := 1876) (by decide +kernel) rfl) q_X12_modes.1 q_X12_modes.2.1 q_X12_modes.2.2.1, q_X12_modes.2.2.2, by decide +kernel⟩
theorem q_X12_means : Cond.instanceMethod m_X12_means.1 ∈ zGW ∧ Cond.selects RX12 m_X12_means.1 m_X12_means.1 ∈ zGW ∧ Cond.initialized RX12 ∈ zGW ∧ Cond.code m_X12_means.1 m_X12_means.2.1 m_X12_means.2.2.1 m_X12_means.2.2.2 ∈ zGW := ⟨zmem (i := 1886) (by decide +kernel) rfl, zmem (i := 87) (by decide +kernel) rfl, zmem (i := 140) (by decide +kernel) rfl, zmem (i := 1887) (by decide +kernel) rfl⟩
theorem ml_X12_226 : zLV RX12 226 12 1 m_X12_means := ⟨RX12, TX12, 59, rfl, zall4 (zmem (i := 1884) (by decide +kernel) rfl) q_X12_means.1 q_X12_means.2.1 q_X12_means.2.2.1, q_X12_means.2.2.2, by decide +kernel⟩
theorem q_X12_titles : Cond.instanceMethod m_X12_titles.1 ∈ zGW ∧ Cond.selects RX12 m_X12_titles.1 m_X12_titles.1 ∈ zGW ∧ Cond.initialized RX12 ∈ zGW ∧ Cond.code m_X12_titles.1 m_X12_titles.2.1 m_X12_titles.2.2.1 m_X12_titles.2.2.2 ∈ zGW := ⟨zmem (i := 1807) (by decide +kernel) rfl, zmem (i := 68) (by decide +kernel) rfl, zmem (i := 140) (by decide +kernel) rfl, zmem (i := 1808) (by decide +kernel) rfl⟩
theorem ml_X12_232 : zLV RX12 232 12 1 m_X12_titles := ⟨RX12, TX12, 59, rfl, zall4 (zmem (i := 1805) (by decide +kernel) rfl) q_X12_titles.1 q_X12_titles.2.1 q_X12_titles.2.2.1, q_X12_titles.2.2.2, by decide +kernel⟩
theorem q_X12_controls : Cond.instanceMethod m_X12_controls.1 ∈ zGW ∧ Cond.selects RX12 m_X12_controls.1 m_X12_controls.1 ∈ zGW ∧ Cond.initialized RX12 ∈ zGW ∧ Cond.code m_X12_controls.1 m_X12_controls.2.1 m_X12_controls.2.2.1 m_X12_controls.2.2.2 ∈ zGW := ⟨zmem (i := 1811) (by decide +kernel) rfl, zmem (i := 69) (by decide +kernel) rfl, zmem (i := 140) (by decide +kernel) rfl, zmem (i := 1812) (by decide +kernel) rfl⟩
theorem ml_X12_235 : zLV RX12 235 12 1 m_X12_controls := ⟨RX12, TX12, 59, rfl, zall4 (zmem (i := 1809) (by decide +kernel) rfl) q_X12_controls.1 q_X12_controls.2.1 q_X12_controls.2.2.1, q_X12_controls.2.2.2, by decide +kernel⟩
theorem q_X12_escapes : Cond.instanceMethod m_X12_escapes.1 ∈ zGW ∧ Cond.selects RX12 m_X12_escapes.1 m_X12_escapes.1 ∈ zGW ∧ Cond.initialized RX12 ∈ zGW ∧ Cond.code m_X12_escapes.1 m_X12_escapes.2.1 m_X12_escapes.2.2.1 m_X12_escapes.2.2.2 ∈ zGW := ⟨zmem (i := 1847) (by decide +kernel) rfl, zmem (i := 78) (by decide +kernel) rfl, zmem (i := 140) (by decide +kernel) rfl, zmem (i := 1848) (by decide +kernel) rfl⟩
theorem ml_X12_238 : zLV RX12 238 12 1 m_X12_escapes := ⟨RX12, TX12, 59, rfl, zall4 (zmem (i := 1845) (by decide +kernel) rfl) q_X12_escapes.1 q_X12_escapes.2.1 q_X12_escapes.2.2.1, q_X12_escapes.2.2.2, by decide +kernel⟩
theorem q_X12_codes : Cond.instanceMethod m_X12_codes.1 ∈ zGW ∧ Cond.selects RX12 m_X12_codes.1 m_X12_codes.1 ∈ zGW ∧ Cond.initialized RX12 ∈ zGW ∧ Cond.code m_X12_codes.1 m_X12_codes.2.1 m_X12_codes.2.2.1 m_X12_codes.2.2.2 ∈ zGW := ⟨zmem (i := 1874) (by decide +kernel) rfl, zmem (i := 84) (by decide +kernel) rfl, zmem (i := 140) (by decide +kernel) rfl, zmem (i := 1875) (by decide +kernel) rfl⟩
theorem ml_X12_241 : zLV RX12 241 12 1 m_X12_codes := ⟨RX12, TX12, 59, rfl, zall4 (zmem (i := 1872) (by decide +kernel) rfl) q_X12_codes.1 q_X12_codes.2.1 q_X12_codes.2.2.1, q_X12_codes.2.2.2, by decide +kernel⟩
theorem q_X12_marks : Cond.instanceMethod m_X12_marks.1 ∈ zGW ∧ Cond.selects RX12 m_X12_marks.1 m_X12_marks.1 ∈ zGW ∧ Cond.initialized RX12 ∈ zGW ∧ Cond.code m_X12_marks.1 m_X12_marks.2.1 m_X12_marks.2.2.1 m_X12_marks.2.2.2 ∈ zGW := ⟨zmem (i := 1950) (by decide +kernel) rfl, zmem (i := 103) (by decide +kernel) rfl, zmem (i := 140) (by decide +kernel) rfl, zmem (i := 1951) (by decide +kernel) rfl⟩
theorem ml_X12_244 : zLV RX12 244 12 0 m_X12_marks := ⟨RX12, TX12, 59, rfl, zall4 (zmem (i := 1948) (by decide +kernel) rfl) q_X12_marks.1 q_X12_marks.2.1 q_X12_marks.2.2.1, q_X12_marks.2.2.2, by decide +kernel⟩
theorem q_X12_draws : Cond.instanceMethod m_X12_draws.1 ∈ zGW ∧ Cond.selects RX12 m_X12_draws.1 m_X12_draws.1 ∈ zGW ∧ Cond.initialized RX12 ∈ zGW ∧ Cond.code m_X12_draws.1 m_X12_draws.2.1 m_X12_draws.2.2.1 m_X12_draws.2.2.2 ∈ zGW := ⟨zmem (i := 1955) (by decide +kernel) rfl, zmem (i := 104) (by decide +kernel) rfl, zmem (i := 140) (by decide +kernel) rfl, zmem (i := 1956) (by decide +kernel) rfl⟩
theorem ml_X12_247 : zLV RX12 247 12 1 m_X12_draws := ⟨RX12, TX12, 59, rfl, zall4 (zmem (i := 1953) (by decide +kernel) rfl) q_X12_draws.1 q_X12_draws.2.1 q_X12_draws.2.2.1, q_X12_draws.2.2.2, by decide +kernel⟩
theorem q_X12_setsMode : Cond.instanceMethod m_X12_setsMode.1 ∈ zGW ∧ Cond.selects RX12 m_X12_setsMode.1 m_X12_setsMode.1 ∈ zGW ∧ Cond.initialized RX12 ∈ zGW ∧ Cond.code m_X12_setsMode.1 m_X12_setsMode.2.1 m_X12_setsMode.2.2.1 m_X12_setsMode.2.2.2 ∈ zGW := ⟨zmem (i := 1882) (by decide +kernel) rfl, zmem (i := 86) (by decide +kernel) rfl, zmem (i := 140) (by decide +kernel) rfl, zmem (i := 1883) (by decide +kernel) rfl⟩
theorem ml_X12_250 : zLV RX12 250 12 2 m_X12_setsMode := ⟨RX12, TX12, 59, rfl, zall4 (zmem (i := 1880) (by decide +kernel) rfl) q_X12_setsMode.1 q_X12_setsMode.2.1 q_X12_setsMode.2.2.1, q_X12_setsMode.2.2.2, by decide +kernel⟩
theorem q_X12_erasesRow : Cond.instanceMethod m_X12_erasesRow.1 ∈ zGW ∧ Cond.selects RX12 m_X12_erasesRow.1 m_X12_erasesRow.1 ∈ zGW ∧ Cond.initialized RX12 ∈ zGW ∧ Cond.code m_X12_erasesRow.1 m_X12_erasesRow.2.1 m_X12_erasesRow.2.2.1 m_X12_erasesRow.2.2.2 ∈ zGW := ⟨zmem (i := 1902) (by decide +kernel) rfl, zmem (i := 91) (by decide +kernel) rfl, zmem (i := 140) (by decide +kernel) rfl, zmem (i := 1903) (by decide +kernel) rfl⟩
theorem ml_X12_253 : zLV RX12 253 12 2 m_X12_erasesRow := ⟨RX12, TX12, 59, rfl, zall4 (zmem (i := 1900) (by decide +kernel) rfl) q_X12_erasesRow.1 q_X12_erasesRow.2.1 q_X12_erasesRow.2.2.1, q_X12_erasesRow.2.2.2, by decide +kernel⟩
theorem q_X12_first : Cond.instanceMethod m_X12_first.1 ∈ zGW ∧ Cond.selects RX12 m_X12_first.1 m_X12_first.1 ∈ zGW ∧ Cond.initialized RX12 ∈ zGW ∧ Cond.code m_X12_first.1 m_X12_first.2.1 m_X12_first.2.2.1 m_X12_first.2.2.2 ∈ zGW := ⟨zmem (i := 1890) (by decide +kernel) rfl, zmem (i := 88) (by decide +kernel) rfl, zmem (i := 140) (by decide +kernel) rfl, zmem (i := 1891) (by decide +kernel) rfl⟩
theorem ml_X12_256 : zLV RX12 256 12 0 m_X12_first := ⟨RX12, TX12, 59, rfl, zall4 (zmem (i := 1888) (by decide +kernel) rfl) q_X12_first.1 q_X12_first.2.1 q_X12_first.2.2.1, q_X12_first.2.2.2, by decide +kernel⟩
theorem q_X12_second : Cond.instanceMethod m_X12_second.1 ∈ zGW ∧ Cond.selects RX12 m_X12_second.1 m_X12_second.1 ∈ zGW ∧ Cond.initialized RX12 ∈ zGW ∧ Cond.code m_X12_second.1 m_X12_second.2.1 m_X12_second.2.2.1 m_X12_second.2.2.2 ∈ zGW := ⟨zmem (i := 1894) (by decide +kernel) rfl, zmem (i := 89) (by decide +kernel) rfl, zmem (i := 140) (by decide +kernel) rfl, zmem (i := 1895) (by decide +kernel) rfl⟩
theorem ml_X12_259 : zLV RX12 259 12 0 m_X12_second := ⟨RX12, TX12, 59, rfl, zall4 (zmem (i := 1892) (by decide +kernel) rfl) q_X12_second.1 q_X12_second.2.1 q_X12_second.2.2.1, q_X12_second.2.2.2, by decide +kernel⟩
theorem q_X12_sends : Cond.instanceMethod m_X12_sends.1 ∈ zGW ∧ Cond.selects RX12 m_X12_sends.1 m_X12_sends.1 ∈ zGW ∧ Cond.initialized RX12 ∈ zGW ∧ Cond.code m_X12_sends.1 m_X12_sends.2.1 m_X12_sends.2.2.1 m_X12_sends.2.2.2 ∈ zGW := ⟨zmem (i := 1942) (by decide +kernel) rfl, zmem (i := 101) (by decide +kernel) rfl, zmem (i := 140) (by decide +kernel) rfl, zmem (i := 1943) (by decide +kernel) rfl⟩
theorem ml_X12_265 : zLV RX12 265 12 1 m_X12_sends := ⟨RX12, TX12, 59, rfl, zall4 (zmem (i := 1940) (by decide +kernel) rfl) q_X12_sends.1 q_X12_sends.2.1 q_X12_sends.2.2.1, q_X12_sends.2.2.2, by decide +kernel⟩
theorem q_X12_sendsNumber : Cond.instanceMethod m_X12_sendsNumber.1 ∈ zGW ∧ Cond.selects RX12 m_X12_sendsNumber.1 m_X12_sendsNumber.1 ∈ zGW ∧ Cond.initialized RX12 ∈ zGW ∧ Cond.code m_X12_sendsNumber.1 m_X12_sendsNumber.2.1 m_X12_sendsNumber.2.2.1 m_X12_sendsNumber.2.2.2 ∈ zGW := ⟨zmem (i := 1946) (by decide +kernel) rfl, zmem (i := 102) (by decide +kernel) rfl, zmem (i := 140) (by decide +kernel) rfl, zmem (i := 1947) (by decide +kernel) rfl⟩
theorem ml_X12_268 : zLV RX12 268 12 1 m_X12_sendsNumber := ⟨RX12, TX12, 59, rfl, zall4 (zmem (i := 1944) (by decide +kernel) rfl) q_X12_sendsNumber.1 q_X12_sendsNumber.2.1 q_X12_sendsNumber.2.2.1, q_X12_sendsNumber.2.2.2, by decide +kernel⟩
theorem q_X12_erasesAll : Cond.instanceMethod m_X12_erasesAll.1 ∈ zGW ∧ Cond.selects RX12 m_X12_erasesAll.1 m_X12_erasesAll.1 ∈ zGW ∧ Cond.initialized RX12 ∈ zGW ∧ Cond.code m_X12_erasesAll.1 m_X12_erasesAll.2.1 m_X12_erasesAll.2.2.1 m_X12_erasesAll.2.2.2 ∈ zGW := ⟨zmem (i := 1898) (by decide +kernel) rfl, zmem (i := 90) (by decide +kernel) rfl, zmem (i := 140) (by decide +kernel) rfl, zmem (i := 1899) (by decide +kernel) rfl⟩
theorem ml_X12_271 : zLV RX12 271 12 1 m_X12_erasesAll := ⟨RX12, TX12, 59, rfl, zall4 (zmem (i := 1896) (by decide +kernel) rfl) q_X12_erasesAll.1 q_X12_erasesAll.2.1 q_X12_erasesAll.2.2.1, q_X12_erasesAll.2.2.2, by decide +kernel⟩
theorem q_X12_linesMove : Cond.instanceMethod m_X12_linesMove.1 ∈ zGW ∧ Cond.selects RX12 m_X12_linesMove.1 m_X12_linesMove.1 ∈ zGW ∧ Cond.initialized RX12 ∈ zGW ∧ Cond.code m_X12_linesMove.1 m_X12_linesMove.2.1 m_X12_linesMove.2.2.1 m_X12_linesMove.2.2.2 ∈ zGW := ⟨zmem (i := 1914) (by decide +kernel) rfl, zmem (i := 94) (by decide +kernel) rfl, zmem (i := 140) (by decide +kernel) rfl, zmem (i := 1915) (by decide +kernel) rfl⟩
theorem ml_X12_274 : zLV RX12 274 12 1 m_X12_linesMove := ⟨RX12, TX12, 59, rfl, zall4 (zmem (i := 1912) (by decide +kernel) rfl) q_X12_linesMove.1 q_X12_linesMove.2.1 q_X12_linesMove.2.2.1, q_X12_linesMove.2.2.2, by decide +kernel⟩
theorem q_X12_movesLeft : Cond.instanceMethod m_X12_movesLeft.1 ∈ zGW ∧ Cond.selects RX12 m_X12_movesLeft.1 m_X12_movesLeft.1 ∈ zGW ∧ Cond.initialized RX12 ∈ zGW ∧ Cond.code m_X12_movesLeft.1 m_X12_movesLeft.2.1 m_X12_movesLeft.2.2.1 m_X12_movesLeft.2.2.2 ∈ zGW := ⟨zmem (i := 1922) (by decide +kernel) rfl, zmem (i := 96) (by decide +kernel) rfl, zmem (i := 140) (by decide +kernel) rfl, zmem (i := 1923) (by decide +kernel) rfl⟩
theorem ml_X12_278 : zLV RX12 278 12 3 m_X12_movesLeft := ⟨RX12, TX12, 59, rfl, zall4 (zmem (i := 1920) (by decide +kernel) rfl) q_X12_movesLeft.1 q_X12_movesLeft.2.1 q_X12_movesLeft.2.2.1, q_X12_movesLeft.2.2.2, by decide +kernel⟩
theorem q_X12_meansMore : Cond.instanceMethod m_X12_meansMore.1 ∈ zGW ∧ Cond.selects RX12 m_X12_meansMore.1 m_X12_meansMore.1 ∈ zGW ∧ Cond.initialized RX12 ∈ zGW ∧ Cond.code m_X12_meansMore.1 m_X12_meansMore.2.1 m_X12_meansMore.2.2.1 m_X12_meansMore.2.2.2 ∈ zGW := ⟨zmem (i := 1926) (by decide +kernel) rfl, zmem (i := 97) (by decide +kernel) rfl, zmem (i := 140) (by decide +kernel) rfl, zmem (i := 1927) (by decide +kernel) rfl⟩
theorem ml_X12_281 : zLV RX12 281 12 2 m_X12_meansMore := ⟨RX12, TX12, 59, rfl, zall4 (zmem (i := 1924) (by decide +kernel) rfl) q_X12_meansMore.1 q_X12_meansMore.2.1 q_X12_meansMore.2.2.1, q_X12_meansMore.2.2.2, by decide +kernel⟩
theorem q_X12_setsRegion : Cond.instanceMethod m_X12_setsRegion.1 ∈ zGW ∧ Cond.selects RX12 m_X12_setsRegion.1 m_X12_setsRegion.1 ∈ zGW ∧ Cond.initialized RX12 ∈ zGW ∧ Cond.code m_X12_setsRegion.1 m_X12_setsRegion.2.1 m_X12_setsRegion.2.2.1 m_X12_setsRegion.2.2.2 ∈ zGW := ⟨zmem (i := 1930) (by decide +kernel) rfl, zmem (i := 98) (by decide +kernel) rfl, zmem (i := 140) (by decide +kernel) rfl, zmem (i := 1931) (by decide +kernel) rfl⟩
theorem ml_X12_284 : zLV RX12 284 12 0 m_X12_setsRegion := ⟨RX12, TX12, 59, rfl, zall4 (zmem (i := 1928) (by decide +kernel) rfl) q_X12_setsRegion.1 q_X12_setsRegion.2.1 q_X12_setsRegion.2.2.1, q_X12_setsRegion.2.2.2, by decide +kernel⟩
theorem q_X12_colours : Cond.instanceMethod m_X12_colours.1 ∈ zGW ∧ Cond.selects RX12 m_X12_colours.1 m_X12_colours.1 ∈ zGW ∧ Cond.initialized RX12 ∈ zGW ∧ Cond.code m_X12_colours.1 m_X12_colours.2.1 m_X12_colours.2.2.1 m_X12_colours.2.2.2 ∈ zGW := ⟨zmem (i := 1934) (by decide +kernel) rfl, zmem (i := 99) (by decide +kernel) rfl, zmem (i := 140) (by decide +kernel) rfl, zmem (i := 1935) (by decide +kernel) rfl⟩
theorem ml_X12_287 : zLV RX12 287 12 0 m_X12_colours := ⟨RX12, TX12, 59, rfl, zall4 (zmem (i := 1932) (by decide +kernel) rfl) q_X12_colours.1 q_X12_colours.2.1 q_X12_colours.2.2.1, q_X12_colours.2.2.2, by decide +kernel⟩
theorem q_X12_tells : Cond.instanceMethod m_X12_tells.1 ∈ zGW ∧ Cond.selects RX12 m_X12_tells.1 m_X12_tells.1 ∈ zGW ∧ Cond.initialized RX12 ∈ zGW ∧ Cond.code m_X12_tells.1 m_X12_tells.2.1 m_X12_tells.2.2.1 m_X12_tells.2.2.2 ∈ zGW := ⟨zmem (i := 1938) (by decide +kernel) rfl, zmem (i := 100) (by decide +kernel) rfl, zmem (i := 140) (by decide +kernel) rfl, zmem (i := 1939) (by decide +kernel) rfl⟩
theorem ml_X12_290 : zLV RX12 290 12 0 m_X12_tells := ⟨RX12, TX12, 59, rfl, zall4 (zmem (i := 1936) (by decide +kernel) rfl) q_X12_tells.1 q_X12_tells.2.1 q_X12_tells.2.2.1, q_X12_tells.2.2.2, by decide +kernel⟩
theorem q_X12_comes : Cond.instanceMethod m_X12_comes.1 ∈ zGW ∧ Cond.selects RX12 m_X12_comes.1 m_X12_comes.1 ∈ zGW ∧ Cond.initialized RX12 ∈ zGW ∧ Cond.code m_X12_comes.1 m_X12_comes.2.1 m_X12_comes.2.2.1 m_X12_comes.2.2.2 ∈ zGW := ⟨zmem (i := 1803) (by decide +kernel) rfl, zmem (i := 67) (by decide +kernel) rfl, zmem (i := 140) (by decide +kernel) rfl, zmem (i := 1804) (by decide +kernel) rfl⟩
theorem ml_X12_296 : zLV RX12 296 12 1 m_X12_comes := ⟨RX12, TX12, 59, rfl, zall4 (zmem (i := 1801) (by decide +kernel) rfl) q_X12_comes.1 q_X12_comes.2.1 q_X12_comes.2.2.1, q_X12_comes.2.2.2, by decide +kernel⟩
theorem q_X12_puts : Cond.instanceMethod m_X12_puts.1 ∈ zGW ∧ Cond.selects RX12 m_X12_puts.1 m_X12_puts.1 ∈ zGW ∧ Cond.initialized RX12 ∈ zGW ∧ Cond.code m_X12_puts.1 m_X12_puts.2.1 m_X12_puts.2.2.1 m_X12_puts.2.2.2 ∈ zGW := ⟨zmem (i := 1799) (by decide +kernel) rfl, zmem (i := 66) (by decide +kernel) rfl, zmem (i := 140) (by decide +kernel) rfl, zmem (i := 1800) (by decide +kernel) rfl⟩
theorem ml_X12_302 : zLV RX12 302 12 1 m_X12_puts := ⟨RX12, TX12, 59, rfl, zall4 (zmem (i := 1797) (by decide +kernel) rfl) q_X12_puts.1 q_X12_puts.2.1 q_X12_puts.2.2.1, q_X12_puts.2.2.2, by decide +kernel⟩
theorem q_X12_digits : Cond.static m_X12_digits.1 ∈ zGW ∧ Cond.initialized m_X12_digits.1.cls ∈ zGW ∧ Cond.code m_X12_digits.1 m_X12_digits.2.1 m_X12_digits.2.2.1 m_X12_digits.2.2.2 ∈ zGW := ⟨zmem (i := 1962) (by decide +kernel) rfl, zmem (i := 140) (by decide +kernel) rfl, zmem (i := 1963) (by decide +kernel) rfl⟩
theorem ml_X12_305 : zLS RX12 305 1 m_X12_digits := ⟨zall3 (zmem (i := 1961) (by decide +kernel) rfl) q_X12_digits.1 q_X12_digits.2.1, q_X12_digits.2.2, by decide +kernel⟩
theorem q_X12_putsNumber : Cond.instanceMethod m_X12_putsNumber.1 ∈ zGW ∧ Cond.selects RX12 m_X12_putsNumber.1 m_X12_putsNumber.1 ∈ zGW ∧ Cond.initialized RX12 ∈ zGW ∧ Cond.code m_X12_putsNumber.1 m_X12_putsNumber.2.1 m_X12_putsNumber.2.2.1 m_X12_putsNumber.2.2.2 ∈ zGW := ⟨zmem (i := 1966) (by decide +kernel) rfl, zmem (i := 105) (by decide +kernel) rfl, zmem (i := 140) (by decide +kernel) rfl, zmem (i := 1967) (by decide +kernel) rfl⟩
theorem ml_X12_309 : zLV RX12 309 12 1 m_X12_putsNumber := ⟨RX12, TX12, 59, rfl, zall4 (zmem (i := 1964) (by decide +kernel) rfl) q_X12_putsNumber.1 q_X12_putsNumber.2.1 q_X12_putsNumber.2.2.1, q_X12_putsNumber.2.2.2, by decide +kernel⟩
theorem q_X12_echo : Cond.instanceMethod m_X12_echo.1 ∈ zGW ∧ Cond.selects RX12 m_X12_echo.1 m_X12_echo.1 ∈ zGW ∧ Cond.initialized RX12 ∈ zGW ∧ Cond.code m_X12_echo.1 m_X12_echo.2.1 m_X12_echo.2.2.1 m_X12_echo.2.2.2 ∈ zGW := ⟨zmem (i := 1978) (by decide +kernel) rfl, zmem (i := 107) (by decide +kernel) rfl, zmem (i := 140) (by decide +kernel) rfl, zmem (i := 1979) (by decide +kernel) rfl⟩
theorem ml_X12_315 : zLV RX12 315 12 1 m_X12_echo := ⟨RX12, TX12, 59, rfl, zall4 (zmem (i := 1976) (by decide +kernel) rfl) q_X12_echo.1 q_X12_echo.2.1 q_X12_echo.2.2.1, q_X12_echo.2.2.2, by decide +kernel⟩
theorem q_X12_takesLast : Cond.instanceMethod m_X12_takesLast.1 ∈ zGW ∧ Cond.selects RX12 m_X12_takesLast.1 m_X12_takesLast.1 ∈ zGW ∧ Cond.initialized RX12 ∈ zGW ∧ Cond.code m_X12_takesLast.1 m_X12_takesLast.2.1 m_X12_takesLast.2.2.1 m_X12_takesLast.2.2.2 ∈ zGW := ⟨zmem (i := 1986) (by decide +kernel) rfl, zmem (i := 109) (by decide +kernel) rfl, zmem (i := 140) (by decide +kernel) rfl, zmem (i := 1987) (by decide +kernel) rfl⟩
theorem ml_X12_318 : zLV RX12 318 12 0 m_X12_takesLast := ⟨RX12, TX12, 59, rfl, zall4 (zmem (i := 1984) (by decide +kernel) rfl) q_X12_takesLast.1 q_X12_takesLast.2.1 q_X12_takesLast.2.2.1, q_X12_takesLast.2.2.2, by decide +kernel⟩
theorem q_X12_givesLine : Cond.instanceMethod m_X12_givesLine.1 ∈ zGW ∧ Cond.selects RX12 m_X12_givesLine.1 m_X12_givesLine.1 ∈ zGW ∧ Cond.initialized RX12 ∈ zGW ∧ Cond.code m_X12_givesLine.1 m_X12_givesLine.2.1 m_X12_givesLine.2.2.1 m_X12_givesLine.2.2.2 ∈ zGW := ⟨zmem (i := 1990) (by decide +kernel) rfl, zmem (i := 110) (by decide +kernel) rfl, zmem (i := 140) (by decide +kernel) rfl, zmem (i := 1991) (by decide +kernel) rfl⟩
theorem ml_X12_321 : zLV RX12 321 12 0 m_X12_givesLine := ⟨RX12, TX12, 59, rfl, zall4 (zmem (i := 1988) (by decide +kernel) rfl) q_X12_givesLine.1 q_X12_givesLine.2.1 q_X12_givesLine.2.2.1, q_X12_givesLine.2.2.2, by decide +kernel⟩
theorem q_X12_starts : Cond.instanceMethod m_X12_starts.1 ∈ zGW ∧ Cond.selects RX12 m_X12_starts.1 m_X12_starts.1 ∈ zGW ∧ Cond.initialized RX12 ∈ zGW ∧ Cond.code m_X12_starts.1 m_X12_starts.2.1 m_X12_starts.2.2.1 m_X12_starts.2.2.2 ∈ zGW := ⟨zmem (i := 1994) (by decide +kernel) rfl, zmem (i := 111) (by decide +kernel) rfl, zmem (i := 140) (by decide +kernel) rfl, zmem (i := 1995) (by decide +kernel) rfl⟩
theorem ml_X12_330 : zLV RX12 330 12 0 m_X12_starts := ⟨RX12, TX12, 59, rfl, zall4 (zmem (i := 1992) (by decide +kernel) rfl) q_X12_starts.1 q_X12_starts.2.1 q_X12_starts.2.2.1, q_X12_starts.2.2.2, by decide +kernel⟩
theorem q_X12_adds : Cond.instanceMethod m_X12_adds.1 ∈ zGW ∧ Cond.selects RX12 m_X12_adds.1 m_X12_adds.1 ∈ zGW ∧ Cond.initialized RX12 ∈ zGW ∧ Cond.code m_X12_adds.1 m_X12_adds.2.1 m_X12_adds.2.2.1 m_X12_adds.2.2.2 ∈ zGW := ⟨zmem (i := 1998) (by decide +kernel) rfl, zmem (i := 112) (by decide +kernel) rfl, zmem (i := 140) (by decide +kernel) rfl, zmem (i := 1999) (by decide +kernel) rfl⟩
theorem ml_X12_333 : zLV RX12 333 12 1 m_X12_adds := ⟨RX12, TX12, 59, rfl, zall4 (zmem (i := 1996) (by decide +kernel) rfl) q_X12_adds.1 q_X12_adds.2.1 q_X12_adds.2.2.1, q_X12_adds.2.2.2, by decide +kernel⟩
theorem q_X12_edits : Cond.instanceMethod m_X12_edits.1 ∈ zGW ∧ Cond.selects RX12 m_X12_edits.1 m_X12_edits.1 ∈ zGW ∧ Cond.initialized RX12 ∈ zGW ∧ Cond.code m_X12_edits.1 m_X12_edits.2.1 m_X12_edits.2.2.1 m_X12_edits.2.2.2 ∈ zGW := ⟨zmem (i := 1982) (by decide +kernel) rfl, zmem (i := 108) (by decide +kernel) rfl, zmem (i := 140) (by decide +kernel) rfl, zmem (i := 1983) (by decide +kernel) rfl⟩
theorem ml_X12_342 : zLV RX12 342 12 1 m_X12_edits := ⟨RX12, TX12, 59, rfl, zall4 (zmem (i := 1980) (by decide +kernel) rfl) q_X12_edits.1 q_X12_edits.2.1 q_X12_edits.2.2.1, q_X12_edits.2.2.2, by decide +kernel⟩
theorem q_X12_types : Cond.instanceMethod m_X12_types.1 ∈ zGW ∧ Cond.selects RX12 m_X12_types.1 m_X12_types.1 ∈ zGW ∧ Cond.initialized RX12 ∈ zGW ∧ Cond.code m_X12_types.1 m_X12_types.2.1 m_X12_types.2.2.1 m_X12_types.2.2.2 ∈ zGW := ⟨zmem (i := 1974) (by decide +kernel) rfl, zmem (i := 106) (by decide +kernel) rfl, zmem (i := 140) (by decide +kernel) rfl, zmem (i := 1975) (by decide +kernel) rfl⟩
theorem ml_X12_345 : zLV RX12 345 12 1 m_X12_types := ⟨RX12, TX12, 59, rfl, zall4 (zmem (i := 1972) (by decide +kernel) rfl) q_X12_types.1 q_X12_types.2.1 q_X12_types.2.2.1, q_X12_types.2.2.2, by decide +kernel⟩
theorem q_X12_letter : Cond.static m_X12_letter.1 ∈ zGW ∧ Cond.initialized m_X12_letter.1.cls ∈ zGW ∧ Cond.code m_X12_letter.1 m_X12_letter.2.1 m_X12_letter.2.2.1 m_X12_letter.2.2.2 ∈ zGW := ⟨zmem (i := 2005) (by decide +kernel) rfl, zmem (i := 140) (by decide +kernel) rfl, zmem (i := 2006) (by decide +kernel) rfl⟩
theorem ml_X12_348 : zLS RX12 348 1 m_X12_letter := ⟨zall3 (zmem (i := 2004) (by decide +kernel) rfl) q_X12_letter.1 q_X12_letter.2.1, q_X12_letter.2.2, by decide +kernel⟩
theorem q_X12_typesAround : Cond.instanceMethod m_X12_typesAround.1 ∈ zGW ∧ Cond.selects RX12 m_X12_typesAround.1 m_X12_typesAround.1 ∈ zGW ∧ Cond.initialized RX12 ∈ zGW ∧ Cond.code m_X12_typesAround.1 m_X12_typesAround.2.1 m_X12_typesAround.2.2.1 m_X12_typesAround.2.2.2 ∈ zGW := ⟨zmem (i := 2017) (by decide +kernel) rfl, zmem (i := 113) (by decide +kernel) rfl, zmem (i := 140) (by decide +kernel) rfl, zmem (i := 2018) (by decide +kernel) rfl⟩
theorem ml_X12_354 : zLV RX12 354 12 1 m_X12_typesAround := ⟨RX12, TX12, 59, rfl, zall4 (zmem (i := 2015) (by decide +kernel) rfl) q_X12_typesAround.1 q_X12_typesAround.2.1 q_X12_typesAround.2.2.1, q_X12_typesAround.2.2.2, by decide +kernel⟩
theorem q_X12_isCell : Cond.instanceMethod m_X12_isCell.1 ∈ zGW ∧ Cond.selects RX12 m_X12_isCell.1 m_X12_isCell.1 ∈ zGW ∧ Cond.initialized RX12 ∈ zGW ∧ Cond.code m_X12_isCell.1 m_X12_isCell.2.1 m_X12_isCell.2.2.1 m_X12_isCell.2.2.2 ∈ zGW := ⟨zmem (i := 2025) (by decide +kernel) rfl, zmem (i := 114) (by decide +kernel) rfl, zmem (i := 140) (by decide +kernel) rfl, zmem (i := 2026) (by decide +kernel) rfl⟩
theorem ml_X12_357 : zLV RX12 357 12 2 m_X12_isCell := ⟨RX12, TX12, 59, rfl, zall4 (zmem (i := 2023) (by decide +kernel) rfl) q_X12_isCell.1 q_X12_isCell.2.1 q_X12_isCell.2.2.1, q_X12_isCell.2.2.2, by decide +kernel⟩
theorem q_X12_typesNumber : Cond.instanceMethod m_X12_typesNumber.1 ∈ zGW ∧ Cond.selects RX12 m_X12_typesNumber.1 m_X12_typesNumber.1 ∈ zGW ∧ Cond.initialized RX12 ∈ zGW ∧ Cond.code m_X12_typesNumber.1 m_X12_typesNumber.2.1 m_X12_typesNumber.2.2.1 m_X12_typesNumber.2.2.2 ∈ zGW := ⟨zmem (i := 2029) (by decide +kernel) rfl, zmem (i := 115) (by decide +kernel) rfl, zmem (i := 140) (by decide +kernel) rfl, zmem (i := 2030) (by decide +kernel) rfl⟩
theorem ml_X12_361 : zLV RX12 361 12 1 m_X12_typesNumber := ⟨RX12, TX12, 59, rfl, zall4 (zmem (i := 2027) (by decide +kernel) rfl) q_X12_typesNumber.1 q_X12_typesNumber.2.1 q_X12_typesNumber.2.2.1, q_X12_typesNumber.2.2.2, by decide +kernel⟩
theorem q_X12_old : Cond.instanceMethod m_X12_old.1 ∈ zGW ∧ Cond.selects RX12 m_X12_old.1 m_X12_old.1 ∈ zGW ∧ Cond.initialized RX12 ∈ zGW ∧ Cond.code m_X12_old.1 m_X12_old.2.1 m_X12_old.2.2.1 m_X12_old.2.2.2 ∈ zGW := ⟨zmem (i := 2053) (by decide +kernel) rfl, zmem (i := 118) (by decide +kernel) rfl, zmem (i := 140) (by decide +kernel) rfl, zmem (i := 2054) (by decide +kernel) rfl⟩
theorem ml_X12_364 : zLV RX12 364 12 2 m_X12_old := ⟨RX12, TX12, 59, rfl, zall4 (zmem (i := 2051) (by decide +kernel) rfl) q_X12_old.1 q_X12_old.2.1 q_X12_old.2.2.1, q_X12_old.2.2.2, by decide +kernel⟩
theorem q_X12_fullOf : Cond.instanceMethod m_X12_fullOf.1 ∈ zGW ∧ Cond.selects RX12 m_X12_fullOf.1 m_X12_fullOf.1 ∈ zGW ∧ Cond.initialized RX12 ∈ zGW ∧ Cond.code m_X12_fullOf.1 m_X12_fullOf.2.1 m_X12_fullOf.2.2.1 m_X12_fullOf.2.2.2 ∈ zGW := ⟨zmem (i := 2049) (by decide +kernel) rfl, zmem (i := 117) (by decide +kernel) rfl, zmem (i := 140) (by decide +kernel) rfl, zmem (i := 2050) (by decide +kernel) rfl⟩
theorem ml_X12_367 : zLV RX12 367 12 1 m_X12_fullOf := ⟨RX12, TX12, 59, rfl, zall4 (zmem (i := 2047) (by decide +kernel) rfl) q_X12_fullOf.1 q_X12_fullOf.2.1 q_X12_fullOf.2.2.1, q_X12_fullOf.2.2.2, by decide +kernel⟩
theorem q_X12_emptiesLaid : Cond.instanceMethod m_X12_emptiesLaid.1 ∈ zGW ∧ Cond.selects RX12 m_X12_emptiesLaid.1 m_X12_emptiesLaid.1 ∈ zGW ∧ Cond.initialized RX12 ∈ zGW ∧ Cond.code m_X12_emptiesLaid.1 m_X12_emptiesLaid.2.1 m_X12_emptiesLaid.2.2.1 m_X12_emptiesLaid.2.2.2 ∈ zGW := ⟨zmem (i := 2057) (by decide +kernel) rfl, zmem (i := 119) (by decide +kernel) rfl, zmem (i := 140) (by decide +kernel) rfl, zmem (i := 2058) (by decide +kernel) rfl⟩
theorem ml_X12_370 : zLV RX12 370 12 1 m_X12_emptiesLaid := ⟨RX12, TX12, 59, rfl, zall4 (zmem (i := 2055) (by decide +kernel) rfl) q_X12_emptiesLaid.1 q_X12_emptiesLaid.2.1 q_X12_emptiesLaid.2.2.1, q_X12_emptiesLaid.2.2.2, by decide +kernel⟩
theorem q_X12_oldGoes : Cond.instanceMethod m_X12_oldGoes.1 ∈ zGW ∧ Cond.selects RX12 m_X12_oldGoes.1 m_X12_oldGoes.1 ∈ zGW ∧ Cond.initialized RX12 ∈ zGW ∧ Cond.code m_X12_oldGoes.1 m_X12_oldGoes.2.1 m_X12_oldGoes.2.2.1 m_X12_oldGoes.2.2.2 ∈ zGW := ⟨zmem (i := 2061) (by decide +kernel) rfl, zmem (i := 120) (by decide +kernel) rfl, zmem (i := 140) (by decide +kernel) rfl, zmem (i := 2062) (by decide +kernel) rfl⟩
theorem ml_X12_373 : zLV RX12 373 12 1 m_X12_oldGoes := ⟨RX12, TX12, 59, rfl, zall4 (zmem (i := 2059) (by decide +kernel) rfl) q_X12_oldGoes.1 q_X12_oldGoes.2.1 q_X12_oldGoes.2.2.1, q_X12_oldGoes.2.2.2, by decide +kernel⟩
theorem q_X12_isWide : Cond.static m_X12_isWide.1 ∈ zGW ∧ Cond.initialized m_X12_isWide.1.cls ∈ zGW ∧ Cond.code m_X12_isWide.1 m_X12_isWide.2.1 m_X12_isWide.2.2.1 m_X12_isWide.2.2.2 ∈ zGW := ⟨zmem (i := 2064) (by decide +kernel) rfl, zmem (i := 140) (by decide +kernel) rfl, zmem (i := 2065) (by decide +kernel) rfl⟩
theorem ml_X12_377 : zLS RX12 377 1 m_X12_isWide := ⟨zall3 (zmem (i := 2063) (by decide +kernel) rfl) q_X12_isWide.1 q_X12_isWide.2.1, q_X12_isWide.2.2, by decide +kernel⟩
theorem q_X12_lays : Cond.instanceMethod m_X12_lays.1 ∈ zGW ∧ Cond.selects RX12 m_X12_lays.1 m_X12_lays.1 ∈ zGW ∧ Cond.initialized RX12 ∈ zGW ∧ Cond.code m_X12_lays.1 m_X12_lays.2.1 m_X12_lays.2.2.1 m_X12_lays.2.2.2 ∈ zGW := ⟨zmem (i := 2045) (by decide +kernel) rfl, zmem (i := 116) (by decide +kernel) rfl, zmem (i := 140) (by decide +kernel) rfl, zmem (i := 2046) (by decide +kernel) rfl⟩
theorem ml_X12_383 : zLV RX12 383 12 3 m_X12_lays := ⟨RX12, TX12, 59, rfl, zall4 (zmem (i := 2043) (by decide +kernel) rfl) q_X12_lays.1 q_X12_lays.2.1 q_X12_lays.2.2.1, q_X12_lays.2.2.2, by decide +kernel⟩
theorem q_X12_cutsOther : Cond.instanceMethod m_X12_cutsOther.1 ∈ zGW ∧ Cond.selects RX12 m_X12_cutsOther.1 m_X12_cutsOther.1 ∈ zGW ∧ Cond.initialized RX12 ∈ zGW ∧ Cond.code m_X12_cutsOther.1 m_X12_cutsOther.2.1 m_X12_cutsOther.2.2.1 m_X12_cutsOther.2.2.2 ∈ zGW := ⟨zmem (i := 2068) (by decide +kernel) rfl, zmem (i := 121) (by decide +kernel) rfl, zmem (i := 140) (by decide +kernel) rfl, zmem (i := 2069) (by decide +kernel) rfl⟩
theorem ml_X12_387 : zLV RX12 387 12 2 m_X12_cutsOther := ⟨RX12, TX12, 59, rfl, zall4 (zmem (i := 2066) (by decide +kernel) rfl) q_X12_cutsOther.1 q_X12_cutsOther.2.1 q_X12_cutsOther.2.2.1, q_X12_cutsOther.2.2.2, by decide +kernel⟩
theorem q_X12_isLike : Cond.instanceMethod m_X12_isLike.1 ∈ zGW ∧ Cond.selects RX12 m_X12_isLike.1 m_X12_isLike.1 ∈ zGW ∧ Cond.initialized RX12 ∈ zGW ∧ Cond.code m_X12_isLike.1 m_X12_isLike.2.1 m_X12_isLike.2.2.1 m_X12_isLike.2.2.2 ∈ zGW := ⟨zmem (i := 2080) (by decide +kernel) rfl, zmem (i := 123) (by decide +kernel) rfl, zmem (i := 140) (by decide +kernel) rfl, zmem (i := 2081) (by decide +kernel) rfl⟩
theorem ml_X12_390 : zLV RX12 390 12 2 m_X12_isLike := ⟨RX12, TX12, 59, rfl, zall4 (zmem (i := 2078) (by decide +kernel) rfl) q_X12_isLike.1 q_X12_isLike.2.1 q_X12_isLike.2.2.1, q_X12_isLike.2.2.2, by decide +kernel⟩
theorem q_X12_wide : Cond.instanceMethod m_X12_wide.1 ∈ zGW ∧ Cond.selects RX12 m_X12_wide.1 m_X12_wide.1 ∈ zGW ∧ Cond.initialized RX12 ∈ zGW ∧ Cond.code m_X12_wide.1 m_X12_wide.2.1 m_X12_wide.2.2.1 m_X12_wide.2.2.2 ∈ zGW := ⟨zmem (i := 2084) (by decide +kernel) rfl, zmem (i := 124) (by decide +kernel) rfl, zmem (i := 140) (by decide +kernel) rfl, zmem (i := 2085) (by decide +kernel) rfl⟩
theorem ml_X12_393 : zLV RX12 393 12 2 m_X12_wide := ⟨RX12, TX12, 59, rfl, zall4 (zmem (i := 2082) (by decide +kernel) rfl) q_X12_wide.1 q_X12_wide.2.1 q_X12_wide.2.2.1, q_X12_wide.2.2.2, by decide +kernel⟩
theorem q_X12_costOf : Cond.instanceMethod m_X12_costOf.1 ∈ zGW ∧ Cond.selects RX12 m_X12_costOf.1 m_X12_costOf.1 ∈ zGW ∧ Cond.initialized RX12 ∈ zGW ∧ Cond.code m_X12_costOf.1 m_X12_costOf.2.1 m_X12_costOf.2.2.1 m_X12_costOf.2.2.2 ∈ zGW := ⟨zmem (i := 2076) (by decide +kernel) rfl, zmem (i := 122) (by decide +kernel) rfl, zmem (i := 140) (by decide +kernel) rfl, zmem (i := 2077) (by decide +kernel) rfl⟩
theorem ml_X12_397 : zLV RX12 397 12 1 m_X12_costOf := ⟨RX12, TX12, 59, rfl, zall4 (zmem (i := 2074) (by decide +kernel) rfl) q_X12_costOf.1 q_X12_costOf.2.1 q_X12_costOf.2.2.1, q_X12_costOf.2.2.2, by decide +kernel⟩
theorem q_X12_cell : Cond.instanceMethod m_X12_cell.1 ∈ zGW ∧ Cond.selects RX12 m_X12_cell.1 m_X12_cell.1 ∈ zGW ∧ Cond.initialized RX12 ∈ zGW ∧ Cond.code m_X12_cell.1 m_X12_cell.2.1 m_X12_cell.2.2.1 m_X12_cell.2.2.2 ∈ zGW := ⟨zmem (i := 2088) (by decide +kernel) rfl, zmem (i := 2089) (by decide +kernel) rfl, zmem (i := 140) (by decide +kernel) rfl, zmem (i := 2090) (by decide +kernel) rfl⟩
theorem ml_X12_400 : zLV RX12 400 12 2 m_X12_cell := ⟨RX12, TX12, 59, rfl, zall4 (zmem (i := 2095) (by decide +kernel) rfl) q_X12_cell.1 q_X12_cell.2.1 q_X12_cell.2.2.1, q_X12_cell.2.2.2, by decide +kernel⟩
theorem q_X12_toldMore : Cond.instanceMethod m_X12_toldMore.1 ∈ zGW ∧ Cond.selects RX12 m_X12_toldMore.1 m_X12_toldMore.1 ∈ zGW ∧ Cond.initialized RX12 ∈ zGW ∧ Cond.code m_X12_toldMore.1 m_X12_toldMore.2.1 m_X12_toldMore.2.2.1 m_X12_toldMore.2.2.2 ∈ zGW := ⟨zmem (i := 2118) (by decide +kernel) rfl, zmem (i := 125) (by decide +kernel) rfl, zmem (i := 140) (by decide +kernel) rfl, zmem (i := 2119) (by decide +kernel) rfl⟩
theorem ml_X12_403 : zLV RX12 403 12 1 m_X12_toldMore := ⟨RX12, TX12, 59, rfl, zall4 (zmem (i := 2116) (by decide +kernel) rfl) q_X12_toldMore.1 q_X12_toldMore.2.1 q_X12_toldMore.2.2.1, q_X12_toldMore.2.2.2, by decide +kernel⟩
theorem ml_X2_23 : zMc RX2 23 := zall4 (zmem (i := 684) (by decide +kernel) rfl) (zmem (i := 589) (by decide +kernel) rfl) (zmem (i := 588) (by decide +kernel) rfl) (zmem (i := 147) (by decide +kernel) rfl)
theorem q_J7_fill_fda19 : Cond.static m_J7_fill_fda19.1 ∈ zGW ∧ Cond.initialized m_J7_fill_fda19.1.cls ∈ zGW ∧ Cond.code m_J7_fill_fda19.1 m_J7_fill_fda19.2.1 m_J7_fill_fda19.2.2.1 m_J7_fill_fda19.2.2.2 ∈ zGW := ⟨zmem (i := 686) (by decide +kernel) rfl, zmem (i := 146) (by decide +kernel) rfl, zmem (i := 687) (by decide +kernel) rfl⟩
theorem ml_X2_29 : zLS RX2 29 4 m_J7_fill_fda19 := ⟨zall3 (zmem (i := 685) (by decide +kernel) rfl) q_J7_fill_fda19.1 q_J7_fill_fda19.2.1, q_J7_fill_fda19.2.2, by decide +kernel⟩
theorem ml_X3_36 : zLV RX3 36 0 0 m_X0_room := ⟨RX0, TX0, 3, rfl, zall4 (zmem (i := 1333) (by decide +kernel) rfl) q_X0_room.1 q_X0_room.2.1 q_X0_room.2.2.1, q_X0_room.2.2.2, by decide +kernel⟩
theorem ml_X3_40 : zLV RX3 40 0 1 m_X0_add := ⟨RX0, TX0, 3, rfl, zall4 (zmem (i := 1192) (by decide +kernel) rfl) q_X0_add.1 q_X0_add.2.1 q_X0_add.2.2.1, q_X0_add.2.2.2, by decide +kernel⟩
theorem q_X0_addNumber : Cond.instanceMethod m_X0_addNumber.1 ∈ zGW ∧ Cond.selects RX0 m_X0_addNumber.1 m_X0_addNumber.1 ∈ zGW ∧ Cond.initialized RX0 ∈ zGW ∧ Cond.code m_X0_addNumber.1 m_X0_addNumber.2.1 m_X0_addNumber.2.2.1 m_X0_addNumber.2.2.2 ∈ zGW := ⟨zmem (i := 1168) (by decide +kernel) rfl, zmem (i := 1169) (by decide +kernel) rfl, zmem (i := 128) (by decide +kernel) rfl, zmem (i := 1170) (by decide +kernel) rfl⟩
theorem ml_X3_44 : zLV RX3 44 0 1 m_X0_addNumber := ⟨RX0, TX0, 3, rfl, zall4 (zmem (i := 1372) (by decide +kernel) rfl) q_X0_addNumber.1 q_X0_addNumber.2.1 q_X0_addNumber.2.2.1, q_X0_addNumber.2.2.2, by decide +kernel⟩
theorem q_X3_sendLine : Cond.instanceMethod m_X3_sendLine.1 ∈ zGW ∧ Cond.selects RX3 m_X3_sendLine.1 m_X3_sendLine.1 ∈ zGW ∧ Cond.initialized RX3 ∈ zGW ∧ Cond.code m_X3_sendLine.1 m_X3_sendLine.2.1 m_X3_sendLine.2.2.1 m_X3_sendLine.2.2.2 ∈ zGW := ⟨zmem (i := 1228) (by decide +kernel) rfl, zmem (i := 44) (by decide +kernel) rfl, zmem (i := 130) (by decide +kernel) rfl, zmem (i := 1229) (by decide +kernel) rfl⟩
theorem ml_X3_50 : zLV RX3 50 3 0 m_X3_sendLine := ⟨RX3, TX3, 9, rfl, zall4 (zmem (i := 1226) (by decide +kernel) rfl) q_X3_sendLine.1 q_X3_sendLine.2.1 q_X3_sendLine.2.2.1, q_X3_sendLine.2.2.2, by decide +kernel⟩
theorem q_X3_echo : Cond.instanceMethod m_X3_echo.1 ∈ zGW ∧ Cond.selects RX3 m_X3_echo.1 m_X3_echo.1 ∈ zGW ∧ Cond.initialized RX3 ∈ zGW ∧ Cond.code m_X3_echo.1 m_X3_echo.2.1 m_X3_echo.2.2.1 m_X3_echo.2.2.2 ∈ zGW := ⟨zmem (i := 1195) (by decide +kernel) rfl, zmem (i := 39) (by decide +kernel) rfl, zmem (i := 130) (by decide +kernel) rfl, zmem (i := 1196) (by decide +kernel) rfl⟩
theorem ml_X3_53 : zLV RX3 53 3 1 m_X3_echo := ⟨RX3, TX3, 9, rfl, zall4 (zmem (i := 1193) (by decide +kernel) rfl) q_X3_echo.1 q_X3_echo.2.1 q_X3_echo.2.2.1, q_X3_echo.2.2.2, by decide +kernel⟩
theorem q_X3_takeAway : Cond.instanceMethod m_X3_takeAway.1 ∈ zGW ∧ Cond.selects RX3 m_X3_takeAway.1 m_X3_takeAway.1 ∈ zGW ∧ Cond.initialized RX3 ∈ zGW ∧ Cond.code m_X3_takeAway.1 m_X3_takeAway.2.1 m_X3_takeAway.2.2.1 m_X3_takeAway.2.2.2 ∈ zGW := ⟨zmem (i := 1199) (by decide +kernel) rfl, zmem (i := 40) (by decide +kernel) rfl, zmem (i := 130) (by decide +kernel) rfl, zmem (i := 1200) (by decide +kernel) rfl⟩
theorem ml_X3_56 : zLV RX3 56 3 0 m_X3_takeAway := ⟨RX3, TX3, 9, rfl, zall4 (zmem (i := 1197) (by decide +kernel) rfl) q_X3_takeAway.1 q_X3_takeAway.2.1 q_X3_takeAway.2.2.1, q_X3_takeAway.2.2.2, by decide +kernel⟩
theorem q_X3_takeWordAway : Cond.instanceMethod m_X3_takeWordAway.1 ∈ zGW ∧ Cond.selects RX3 m_X3_takeWordAway.1 m_X3_takeWordAway.1 ∈ zGW ∧ Cond.initialized RX3 ∈ zGW ∧ Cond.code m_X3_takeWordAway.1 m_X3_takeWordAway.2.1 m_X3_takeWordAway.2.2.1 m_X3_takeWordAway.2.2.2 ∈ zGW := ⟨zmem (i := 1212) (by decide +kernel) rfl, zmem (i := 41) (by decide +kernel) rfl, zmem (i := 130) (by decide +kernel) rfl, zmem (i := 1213) (by decide +kernel) rfl⟩
theorem ml_X3_59 : zLV RX3 59 3 0 m_X3_takeWordAway := ⟨RX3, TX3, 9, rfl, zall4 (zmem (i := 1210) (by decide +kernel) rfl) q_X3_takeWordAway.1 q_X3_takeWordAway.2.1 q_X3_takeWordAway.2.2.1, q_X3_takeWordAway.2.2.2, by decide +kernel⟩
theorem q_X3_takeLineAway : Cond.instanceMethod m_X3_takeLineAway.1 ∈ zGW ∧ Cond.selects RX3 m_X3_takeLineAway.1 m_X3_takeLineAway.1 ∈ zGW ∧ Cond.initialized RX3 ∈ zGW ∧ Cond.code m_X3_takeLineAway.1 m_X3_takeLineAway.2.1 m_X3_takeLineAway.2.2.1 m_X3_takeLineAway.2.2.2 ∈ zGW := ⟨zmem (i := 1220) (by decide +kernel) rfl, zmem (i := 42) (by decide +kernel) rfl, zmem (i := 130) (by decide +kernel) rfl, zmem (i := 1221) (by decide +kernel) rfl⟩
theorem ml_X3_62 : zLV RX3 62 3 0 m_X3_takeLineAway := ⟨RX3, TX3, 9, rfl, zall4 (zmem (i := 1218) (by decide +kernel) rfl) q_X3_takeLineAway.1 q_X3_takeLineAway.2.1 q_X3_takeLineAway.2.2.1, q_X3_takeLineAway.2.2.2, by decide +kernel⟩
theorem q_X3_endLine : Cond.instanceMethod m_X3_endLine.1 ∈ zGW ∧ Cond.selects RX3 m_X3_endLine.1 m_X3_endLine.1 ∈ zGW ∧ Cond.initialized RX3 ∈ zGW ∧ Cond.code m_X3_endLine.1 m_X3_endLine.2.1 m_X3_endLine.2.2.1 m_X3_endLine.2.2.2 ∈ zGW := ⟨zmem (i := 1224) (by decide +kernel) rfl, zmem (i := 43) (by decide +kernel) rfl, zmem (i := 130) (by decide +kernel) rfl, zmem (i := 1225) (by decide +kernel) rfl⟩
theorem ml_X3_65 : zLV RX3 65 3 0 m_X3_endLine := ⟨RX3, TX3, 9, rfl, zall4 (zmem (i := 1222) (by decide +kernel) rfl) q_X3_endLine.1 q_X3_endLine.2.1 q_X3_endLine.2.2.1, q_X3_endLine.2.2.2, by decide +kernel⟩
theorem q_X3_endInput : Cond.instanceMethod m_X3_endInput.1 ∈ zGW ∧ Cond.selects RX3 m_X3_endInput.1 m_X3_endInput.1 ∈ zGW ∧ Cond.initialized RX3 ∈ zGW ∧ Cond.code m_X3_endInput.1 m_X3_endInput.2.1 m_X3_endInput.2.2.1 m_X3_endInput.2.2.2 ∈ zGW := ⟨zmem (i := 1233) (by decide +kernel) rfl, zmem (i := 45) (by decide +kernel) rfl, zmem (i := 130) (by decide +kernel) rfl, zmem (i := 1234) (by decide +kernel) rfl⟩
theorem ml_X3_68 : zLV RX3 68 3 0 m_X3_endInput := ⟨RX3, TX3, 9, rfl, zall4 (zmem (i := 1231) (by decide +kernel) rfl) q_X3_endInput.1 q_X3_endInput.2.1 q_X3_endInput.2.2.1, q_X3_endInput.2.2.2, by decide +kernel⟩
theorem q_X0_clear : Cond.instanceMethod m_X0_clear.1 ∈ zGW ∧ Cond.selects RX0 m_X0_clear.1 m_X0_clear.1 ∈ zGW ∧ Cond.initialized RX0 ∈ zGW ∧ Cond.code m_X0_clear.1 m_X0_clear.2.1 m_X0_clear.2.2.1 m_X0_clear.2.2.2 ∈ zGW := ⟨zmem (i := 603) (by decide +kernel) rfl, zmem (i := 604) (by decide +kernel) rfl, zmem (i := 128) (by decide +kernel) rfl, zmem (i := 605) (by decide +kernel) rfl⟩
theorem ml_X3_71 : zLV RX3 71 0 0 m_X0_clear := ⟨RX0, TX0, 3, rfl, zall4 (zmem (i := 1235) (by decide +kernel) rfl) q_X0_clear.1 q_X0_clear.2.1 q_X0_clear.2.2.1, q_X0_clear.2.2.2, by decide +kernel⟩
theorem q_X3_start : Cond.instanceMethod m_X3_start.1 ∈ zGW ∧ Cond.selects RX3 m_X3_start.1 m_X3_start.1 ∈ zGW ∧ Cond.initialized RX3 ∈ zGW ∧ Cond.code m_X3_start.1 m_X3_start.2.1 m_X3_start.2.2.1 m_X3_start.2.2.2 ∈ zGW := ⟨zmem (i := 1238) (by decide +kernel) rfl, zmem (i := 46) (by decide +kernel) rfl, zmem (i := 130) (by decide +kernel) rfl, zmem (i := 1239) (by decide +kernel) rfl⟩
theorem ml_X3_78 : zLV RX3 78 3 0 m_X3_start := ⟨RX3, TX3, 9, rfl, zall4 (zmem (i := 1236) (by decide +kernel) rfl) q_X3_start.1 q_X3_start.2.1 q_X3_start.2.2.1, q_X3_start.2.2.2, by decide +kernel⟩
theorem q_X3_addToLine : Cond.instanceMethod m_X3_addToLine.1 ∈ zGW ∧ Cond.selects RX3 m_X3_addToLine.1 m_X3_addToLine.1 ∈ zGW ∧ Cond.initialized RX3 ∈ zGW ∧ Cond.code m_X3_addToLine.1 m_X3_addToLine.2.1 m_X3_addToLine.2.2.1 m_X3_addToLine.2.2.2 ∈ zGW := ⟨zmem (i := 1242) (by decide +kernel) rfl, zmem (i := 47) (by decide +kernel) rfl, zmem (i := 130) (by decide +kernel) rfl, zmem (i := 1243) (by decide +kernel) rfl⟩
theorem ml_X3_81 : zLV RX3 81 3 1 m_X3_addToLine := ⟨RX3, TX3, 9, rfl, zall4 (zmem (i := 1240) (by decide +kernel) rfl) q_X3_addToLine.1 q_X3_addToLine.2.1 q_X3_addToLine.2.2.1, q_X3_addToLine.2.2.2, by decide +kernel⟩
theorem ml_X3_84 : zLV RX3 84 0 0 m_X0_count := ⟨RX0, TX0, 3, rfl, zall4 (zmem (i := 1201) (by decide +kernel) rfl) q_X0_count.1 q_X0_count.2.1 q_X0_count.2.2.1, q_X0_count.2.2.2, by decide +kernel⟩
theorem q_X0_removeLast : Cond.instanceMethod m_X0_removeLast.1 ∈ zGW ∧ Cond.selects RX0 m_X0_removeLast.1 m_X0_removeLast.1 ∈ zGW ∧ Cond.initialized RX0 ∈ zGW ∧ Cond.code m_X0_removeLast.1 m_X0_removeLast.2.1 m_X0_removeLast.2.2.1 m_X0_removeLast.2.2.2 ∈ zGW := ⟨zmem (i := 1203) (by decide +kernel) rfl, zmem (i := 1204) (by decide +kernel) rfl, zmem (i := 128) (by decide +kernel) rfl, zmem (i := 1205) (by decide +kernel) rfl⟩
theorem ml_X3_87 : zLV RX3 87 0 0 m_X0_removeLast := ⟨RX0, TX0, 3, rfl, zall4 (zmem (i := 1202) (by decide +kernel) rfl) q_X0_removeLast.1 q_X0_removeLast.2.1 q_X0_removeLast.2.2.1, q_X0_removeLast.2.2.2, by decide +kernel⟩
theorem q_X0_last : Cond.instanceMethod m_X0_last.1 ∈ zGW ∧ Cond.selects RX0 m_X0_last.1 m_X0_last.1 ∈ zGW ∧ Cond.initialized RX0 ∈ zGW ∧ Cond.code m_X0_last.1 m_X0_last.2.1 m_X0_last.2.2.1 m_X0_last.2.2.2 ∈ zGW := ⟨zmem (i := 1215) (by decide +kernel) rfl, zmem (i := 1216) (by decide +kernel) rfl, zmem (i := 128) (by decide +kernel) rfl, zmem (i := 1217) (by decide +kernel) rfl⟩
theorem ml_X3_90 : zLV RX3 90 0 0 m_X0_last := ⟨RX0, TX0, 3, rfl, zall4 (zmem (i := 1214) (by decide +kernel) rfl) q_X0_last.1 q_X0_last.2.1 q_X0_last.2.2.1, q_X0_last.2.2.2, by decide +kernel⟩
theorem q_X0_addAll : Cond.instanceMethod m_X0_addAll.1 ∈ zGW ∧ Cond.selects RX0 m_X0_addAll.1 m_X0_addAll.1 ∈ zGW ∧ Cond.initialized RX0 ∈ zGW ∧ Cond.code m_X0_addAll.1 m_X0_addAll.2.1 m_X0_addAll.2.2.1 m_X0_addAll.2.2.2 ∈ zGW := ⟨zmem (i := 607) (by decide +kernel) rfl, zmem (i := 608) (by decide +kernel) rfl, zmem (i := 128) (by decide +kernel) rfl, zmem (i := 609) (by decide +kernel) rfl⟩
theorem ml_X3_93 : zLV RX3 93 0 1 m_X0_addAll := ⟨RX0, TX0, 3, rfl, zall4 (zmem (i := 1230) (by decide +kernel) rfl) q_X0_addAll.1 q_X0_addAll.2.1 q_X0_addAll.2.2.1, q_X0_addAll.2.2.2, by decide +kernel⟩
theorem ml_X4_53 : zLV RX4 53 2 0 m_X2_count := ⟨RX2, TX2, 3, rfl, zall4 (zmem (i := 1447) (by decide +kernel) rfl) q_X2_count.1 q_X2_count.2.1 q_X2_count.2.2.1, q_X2_count.2.2.2, by decide +kernel⟩
theorem q_X4_keptRows : Cond.instanceMethod m_X4_keptRows.1 ∈ zGW ∧ Cond.selects RX4 m_X4_keptRows.1 m_X4_keptRows.1 ∈ zGW ∧ Cond.initialized RX4 ∈ zGW ∧ Cond.code m_X4_keptRows.1 m_X4_keptRows.2.1 m_X4_keptRows.2.2.1 m_X4_keptRows.2.2.2 ∈ zGW := ⟨zmem (i := 1453) (by decide +kernel) rfl, zmem (i := 55) (by decide +kernel) rfl, zmem (i := 132) (by decide +kernel) rfl, zmem (i := 1454) (by decide +kernel) rfl⟩
theorem ml_X4_62 : zLV RX4 62 4 1 m_X4_keptRows := ⟨RX4, TX4, 12, rfl, zall4 (zmem (i := 1451) (by decide +kernel) rfl) q_X4_keptRows.1 q_X4_keptRows.2.1 q_X4_keptRows.2.2.1, q_X4_keptRows.2.2.2, by decide +kernel⟩
theorem q_X4_beginRow : Cond.instanceMethod m_X4_beginRow.1 ∈ zGW ∧ Cond.selects RX4 m_X4_beginRow.1 m_X4_beginRow.1 ∈ zGW ∧ Cond.initialized RX4 ∈ zGW ∧ Cond.code m_X4_beginRow.1 m_X4_beginRow.2.1 m_X4_beginRow.2.2.1 m_X4_beginRow.2.2.2 ∈ zGW := ⟨zmem (i := 1459) (by decide +kernel) rfl, zmem (i := 56) (by decide +kernel) rfl, zmem (i := 132) (by decide +kernel) rfl, zmem (i := 1460) (by decide +kernel) rfl⟩
theorem ml_X4_66 : zLV RX4 66 4 0 m_X4_beginRow := ⟨RX4, TX4, 12, rfl, zall4 (zmem (i := 1457) (by decide +kernel) rfl) q_X4_beginRow.1 q_X4_beginRow.2.1 q_X4_beginRow.2.2.1, q_X4_beginRow.2.2.2, by decide +kernel⟩
theorem q_X4_isGoing : Cond.instanceMethod m_X4_isGoing.1 ∈ zGW ∧ Cond.selects RX4 m_X4_isGoing.1 m_X4_isGoing.1 ∈ zGW ∧ Cond.initialized RX4 ∈ zGW ∧ Cond.code m_X4_isGoing.1 m_X4_isGoing.2.1 m_X4_isGoing.2.2.1 m_X4_isGoing.2.2.2 ∈ zGW := ⟨zmem (i := 1463) (by decide +kernel) rfl, zmem (i := 57) (by decide +kernel) rfl, zmem (i := 132) (by decide +kernel) rfl, zmem (i := 1464) (by decide +kernel) rfl⟩
theorem ml_X4_69 : zLV RX4 69 4 1 m_X4_isGoing := ⟨RX4, TX4, 12, rfl, zall4 (zmem (i := 1461) (by decide +kernel) rfl) q_X4_isGoing.1 q_X4_isGoing.2.1 q_X4_isGoing.2.2.1, q_X4_isGoing.2.2.2, by decide +kernel⟩
theorem q_X4_layRow : Cond.instanceMethod m_X4_layRow.1 ∈ zGW ∧ Cond.selects RX4 m_X4_layRow.1 m_X4_layRow.1 ∈ zGW ∧ Cond.initialized RX4 ∈ zGW ∧ Cond.code m_X4_layRow.1 m_X4_layRow.2.1 m_X4_layRow.2.2.1 m_X4_layRow.2.2.2 ∈ zGW := ⟨zmem (i := 1472) (by decide +kernel) rfl, zmem (i := 58) (by decide +kernel) rfl, zmem (i := 132) (by decide +kernel) rfl, zmem (i := 1473) (by decide +kernel) rfl⟩
theorem ml_X4_76 : zLV RX4 76 4 3 m_X4_layRow := ⟨RX4, TX4, 12, rfl, zall4 (zmem (i := 1470) (by decide +kernel) rfl) q_X4_layRow.1 q_X4_layRow.2.1 q_X4_layRow.2.2.1, q_X4_layRow.2.2.2, by decide +kernel⟩
theorem ml_X4_80 : zMx RX4 80 := zall4 (zmem (i := 1502) (by decide +kernel) rfl) (zmem (i := 174) (by decide +kernel) rfl) (zmem (i := 129) (by decide +kernel) rfl) (zmem (i := 175) (by decide +kernel) rfl)
theorem ml_X4_89 : zMn RX4 89 := zall4 (zmem (i := 1501) (by decide +kernel) rfl) (zmem (i := 585) (by decide +kernel) rfl) (zmem (i := 129) (by decide +kernel) rfl) (zmem (i := 586) (by decide +kernel) rfl)
theorem q_X4_putBack : Cond.instanceMethod m_X4_putBack.1 ∈ zGW ∧ Cond.selects RX4 m_X4_putBack.1 m_X4_putBack.1 ∈ zGW ∧ Cond.initialized RX4 ∈ zGW ∧ Cond.code m_X4_putBack.1 m_X4_putBack.2.1 m_X4_putBack.2.2.1 m_X4_putBack.2.2.2 ∈ zGW := ⟨zmem (i := 1505) (by decide +kernel) rfl, zmem (i := 64) (by decide +kernel) rfl, zmem (i := 132) (by decide +kernel) rfl, zmem (i := 1506) (by decide +kernel) rfl⟩
theorem ml_X4_92 : zLV RX4 92 4 3 m_X4_putBack := ⟨RX4, TX4, 12, rfl, zall4 (zmem (i := 1503) (by decide +kernel) rfl) q_X4_putBack.1 q_X4_putBack.2.1 q_X4_putBack.2.2.1, q_X4_putBack.2.2.2, by decide +kernel⟩
theorem ml_X4_102 : zLV RX4 102 6 0 m_X6_rows := ⟨RX6, TX6, 4, rfl, zall4 (zmem (i := 1455) (by decide +kernel) rfl) q_X6_rows.1 q_X6_rows.2.1 q_X6_rows.2.2.1, q_X6_rows.2.2.2, by decide +kernel⟩
theorem q_X6_filled : Cond.instanceMethod m_X6_filled.1 ∈ zGW ∧ Cond.selects RX6 m_X6_filled.1 m_X6_filled.1 ∈ zGW ∧ Cond.initialized RX6 ∈ zGW ∧ Cond.code m_X6_filled.1 m_X6_filled.2.1 m_X6_filled.2.2.1 m_X6_filled.2.2.2 ∈ zGW := ⟨zmem (i := 1279) (by decide +kernel) rfl, zmem (i := 1280) (by decide +kernel) rfl, zmem (i := 133) (by decide +kernel) rfl, zmem (i := 1281) (by decide +kernel) rfl⟩
theorem ml_X4_105 : zLV RX4 105 6 1 m_X6_filled := ⟨RX6, TX6, 4, rfl, zall4 (zmem (i := 1456) (by decide +kernel) rfl) q_X6_filled.1 q_X6_filled.2.1 q_X6_filled.2.2.1, q_X6_filled.2.2.2, by decide +kernel⟩
theorem ml_X4_108 : zLV RX4 108 2 1 m_X2_isGoing := ⟨RX2, TX2, 3, rfl, zall4 (zmem (i := 1465) (by decide +kernel) rfl) q_X2_isGoing.1 q_X2_isGoing.2.1 q_X2_isGoing.2.2.1, q_X2_isGoing.2.2.2, by decide +kernel⟩
theorem ml_X4_109 : zLV RX4 109 6 1 m_X6_isGoing := ⟨RX6, TX6, 4, rfl, zall4 (zmem (i := 1469) (by decide +kernel) rfl) q_X6_isGoing.1 q_X6_isGoing.2.1 q_X6_isGoing.2.2.1, q_X6_isGoing.2.2.2, by decide +kernel⟩
theorem ml_X4_110 : zLV RX4 110 2 2 m_X2_at := ⟨RX2, TX2, 3, rfl, zall4 (zmem (i := 1483) (by decide +kernel) rfl) q_X2_at.1 q_X2_at.2.1 q_X2_at.2.2.1, q_X2_at.2.2.2, by decide +kernel⟩
theorem ml_X4_113 : zLV RX4 113 6 2 m_X6_at := ⟨RX6, TX6, 4, rfl, zall4 (zmem (i := 1487) (by decide +kernel) rfl) q_X6_at.1 q_X6_at.2.1 q_X6_at.2.2.1, q_X6_at.2.2.2, by decide +kernel⟩
theorem q_X6_columns : Cond.instanceMethod m_X6_columns.1 ∈ zGW ∧ Cond.selects RX6 m_X6_columns.1 m_X6_columns.1 ∈ zGW ∧ Cond.initialized RX6 ∈ zGW ∧ Cond.code m_X6_columns.1 m_X6_columns.2.1 m_X6_columns.2.2.1 m_X6_columns.2.2.2 ∈ zGW := ⟨zmem (i := 1270) (by decide +kernel) rfl, zmem (i := 1271) (by decide +kernel) rfl, zmem (i := 133) (by decide +kernel) rfl, zmem (i := 1272) (by decide +kernel) rfl⟩
theorem ml_X4_114 : zLV RX4 114 6 0 m_X6_columns := ⟨RX6, TX6, 4, rfl, zall4 (zmem (i := 1478) (by decide +kernel) rfl) q_X6_columns.1 q_X6_columns.2.1 q_X6_columns.2.2.1, q_X6_columns.2.2.2, by decide +kernel⟩
theorem q_X4_at : Cond.instanceMethod m_X4_at.1 ∈ zGW ∧ Cond.selects RX4 m_X4_at.1 m_X4_at.1 ∈ zGW ∧ Cond.initialized RX4 ∈ zGW ∧ Cond.code m_X4_at.1 m_X4_at.2.1 m_X4_at.2.2.1 m_X4_at.2.2.2 ∈ zGW := ⟨zmem (i := 1481) (by decide +kernel) rfl, zmem (i := 60) (by decide +kernel) rfl, zmem (i := 132) (by decide +kernel) rfl, zmem (i := 1482) (by decide +kernel) rfl⟩
theorem ml_X4_117 : zLV RX4 117 4 2 m_X4_at := ⟨RX4, TX4, 12, rfl, zall4 (zmem (i := 1479) (by decide +kernel) rfl) q_X4_at.1 q_X4_at.2.1 q_X4_at.2.2.1, q_X4_at.2.2.2, by decide +kernel⟩
theorem q_X11_isWide : Cond.static m_X11_isWide.1 ∈ zGW ∧ Cond.initialized m_X11_isWide.1.cls ∈ zGW ∧ Cond.code m_X11_isWide.1 m_X11_isWide.2.1 m_X11_isWide.2.2.1 m_X11_isWide.2.2.2 ∈ zGW := ⟨zmem (i := 644) (by decide +kernel) rfl, zmem (i := 127) (by decide +kernel) rfl, zmem (i := 645) (by decide +kernel) rfl⟩
theorem ml_X4_118 : zLSN RX4 118 1 "InputrowConsole" m_X11_isWide := ⟨znest (i := 1488) (by decide +kernel) rfl, zall2 q_X11_isWide.1 q_X11_isWide.2.1, q_X11_isWide.2.2, by decide +kernel⟩
theorem q_X4_cellsOf : Cond.instanceMethod m_X4_cellsOf.1 ∈ zGW ∧ Cond.selects RX4 m_X4_cellsOf.1 m_X4_cellsOf.1 ∈ zGW ∧ Cond.initialized RX4 ∈ zGW ∧ Cond.code m_X4_cellsOf.1 m_X4_cellsOf.2.1 m_X4_cellsOf.2.2.1 m_X4_cellsOf.2.2.2 ∈ zGW := ⟨zmem (i := 1476) (by decide +kernel) rfl, zmem (i := 59) (by decide +kernel) rfl, zmem (i := 132) (by decide +kernel) rfl, zmem (i := 1477) (by decide +kernel) rfl⟩
theorem ml_X4_121 : zLV RX4 121 4 2 m_X4_cellsOf := ⟨RX4, TX4, 12, rfl, zall4 (zmem (i := 1474) (by decide +kernel) rfl) q_X4_cellsOf.1 q_X4_cellsOf.2.1 q_X4_cellsOf.2.2.1, q_X4_cellsOf.2.2.2, by decide +kernel⟩
theorem q_X4_lengthOfLast : Cond.instanceMethod m_X4_lengthOfLast.1 ∈ zGW ∧ Cond.selects RX4 m_X4_lengthOfLast.1 m_X4_lengthOfLast.1 ∈ zGW ∧ Cond.initialized RX4 ∈ zGW ∧ Cond.code m_X4_lengthOfLast.1 m_X4_lengthOfLast.2.1 m_X4_lengthOfLast.2.2.1 m_X4_lengthOfLast.2.2.2 ∈ zGW := ⟨zmem (i := 1491) (by decide +kernel) rfl, zmem (i := 61) (by decide +kernel) rfl, zmem (i := 132) (by decide +kernel) rfl, zmem (i := 1492) (by decide +kernel) rfl⟩
theorem ml_X4_125 : zLV RX4 125 4 0 m_X4_lengthOfLast := ⟨RX4, TX4, 12, rfl, zall4 (zmem (i := 1489) (by decide +kernel) rfl) q_X4_lengthOfLast.1 q_X4_lengthOfLast.2.1 q_X4_lengthOfLast.2.2.1, q_X4_lengthOfLast.2.2.2, by decide +kernel⟩
theorem q_X4_goOn : Cond.instanceMethod m_X4_goOn.1 ∈ zGW ∧ Cond.selects RX4 m_X4_goOn.1 m_X4_goOn.1 ∈ zGW ∧ Cond.initialized RX4 ∈ zGW ∧ Cond.code m_X4_goOn.1 m_X4_goOn.2.1 m_X4_goOn.2.2.1 m_X4_goOn.2.2.2 ∈ zGW := ⟨zmem (i := 1495) (by decide +kernel) rfl, zmem (i := 62) (by decide +kernel) rfl, zmem (i := 132) (by decide +kernel) rfl, zmem (i := 1496) (by decide +kernel) rfl⟩
theorem ml_X4_128 : zLV RX4 128 4 0 m_X4_goOn := ⟨RX4, TX4, 12, rfl, zall4 (zmem (i := 1493) (by decide +kernel) rfl) q_X4_goOn.1 q_X4_goOn.2.1 q_X4_goOn.2.2.1, q_X4_goOn.2.2.2, by decide +kernel⟩
theorem q_X4_lay : Cond.instanceMethod m_X4_lay.1 ∈ zGW ∧ Cond.selects RX4 m_X4_lay.1 m_X4_lay.1 ∈ zGW ∧ Cond.initialized RX4 ∈ zGW ∧ Cond.code m_X4_lay.1 m_X4_lay.2.1 m_X4_lay.2.2.1 m_X4_lay.2.2.2 ∈ zGW := ⟨zmem (i := 1499) (by decide +kernel) rfl, zmem (i := 63) (by decide +kernel) rfl, zmem (i := 132) (by decide +kernel) rfl, zmem (i := 1500) (by decide +kernel) rfl⟩
theorem ml_X4_131 : zLV RX4 131 4 1 m_X4_lay := ⟨RX4, TX4, 12, rfl, zall4 (zmem (i := 1497) (by decide +kernel) rfl) q_X4_lay.1 q_X4_lay.2.1 q_X4_lay.2.2.1, q_X4_lay.2.2.2, by decide +kernel⟩
theorem q_X2_clear : Cond.instanceMethod m_X2_clear.1 ∈ zGW ∧ Cond.selects RX2 m_X2_clear.1 m_X2_clear.1 ∈ zGW ∧ Cond.initialized RX2 ∈ zGW ∧ Cond.code m_X2_clear.1 m_X2_clear.2.1 m_X2_clear.2.2.1 m_X2_clear.2.2.2 ∈ zGW := ⟨zmem (i := 1130) (by decide +kernel) rfl, zmem (i := 1131) (by decide +kernel) rfl, zmem (i := 134) (by decide +kernel) rfl, zmem (i := 1132) (by decide +kernel) rfl⟩
theorem ml_X4_135 : zLV RX4 135 2 0 m_X2_clear := ⟨RX2, TX2, 3, rfl, zall4 (zmem (i := 1507) (by decide +kernel) rfl) q_X2_clear.1 q_X2_clear.2.1 q_X2_clear.2.2.1, q_X2_clear.2.2.2, by decide +kernel⟩
theorem q_X6_begin : Cond.instanceMethod m_X6_begin.1 ∈ zGW ∧ Cond.selects RX6 m_X6_begin.1 m_X6_begin.1 ∈ zGW ∧ Cond.initialized RX6 ∈ zGW ∧ Cond.code m_X6_begin.1 m_X6_begin.2.1 m_X6_begin.2.2.1 m_X6_begin.2.2.2 ∈ zGW := ⟨zmem (i := 1509) (by decide +kernel) rfl, zmem (i := 1510) (by decide +kernel) rfl, zmem (i := 133) (by decide +kernel) rfl, zmem (i := 1511) (by decide +kernel) rfl⟩
theorem ml_X4_138 : zLV RX4 138 6 2 m_X6_begin := ⟨RX6, TX6, 4, rfl, zall4 (zmem (i := 1508) (by decide +kernel) rfl) q_X6_begin.1 q_X6_begin.2.1 q_X6_begin.2.2.1, q_X6_begin.2.2.2, by decide +kernel⟩
theorem q_X2_add : Cond.instanceMethod m_X2_add.1 ∈ zGW ∧ Cond.selects RX2 m_X2_add.1 m_X2_add.1 ∈ zGW ∧ Cond.initialized RX2 ∈ zGW ∧ Cond.code m_X2_add.1 m_X2_add.2.1 m_X2_add.2.2.1 m_X2_add.2.2.2 ∈ zGW := ⟨zmem (i := 681) (by decide +kernel) rfl, zmem (i := 682) (by decide +kernel) rfl, zmem (i := 134) (by decide +kernel) rfl, zmem (i := 683) (by decide +kernel) rfl⟩
theorem ml_X4_142 : zLV RX4 142 2 1 m_X2_add := ⟨RX2, TX2, 3, rfl, zall4 (zmem (i := 1513) (by decide +kernel) rfl) q_X2_add.1 q_X2_add.2.1 q_X2_add.2.2.1, q_X2_add.2.2.2, by decide +kernel⟩
theorem q_X6_setGoing : Cond.instanceMethod m_X6_setGoing.1 ∈ zGW ∧ Cond.selects RX6 m_X6_setGoing.1 m_X6_setGoing.1 ∈ zGW ∧ Cond.initialized RX6 ∈ zGW ∧ Cond.code m_X6_setGoing.1 m_X6_setGoing.2.1 m_X6_setGoing.2.2.1 m_X6_setGoing.2.2.2 ∈ zGW := ⟨zmem (i := 665) (by decide +kernel) rfl, zmem (i := 666) (by decide +kernel) rfl, zmem (i := 133) (by decide +kernel) rfl, zmem (i := 667) (by decide +kernel) rfl⟩
theorem ml_X4_146 : zLV RX4 146 6 2 m_X6_setGoing := ⟨RX6, TX6, 4, rfl, zall4 (zmem (i := 1514) (by decide +kernel) rfl) q_X6_setGoing.1 q_X6_setGoing.2.1 q_X6_setGoing.2.2.1, q_X6_setGoing.2.2.2, by decide +kernel⟩
theorem q_X2_putLatest : Cond.instanceMethod m_X2_putLatest.1 ∈ zGW ∧ Cond.selects RX2 m_X2_putLatest.1 m_X2_putLatest.1 ∈ zGW ∧ Cond.initialized RX2 ∈ zGW ∧ Cond.code m_X2_putLatest.1 m_X2_putLatest.2.1 m_X2_putLatest.2.2.1 m_X2_putLatest.2.2.2 ∈ zGW := ⟨zmem (i := 1017) (by decide +kernel) rfl, zmem (i := 1018) (by decide +kernel) rfl, zmem (i := 134) (by decide +kernel) rfl, zmem (i := 1019) (by decide +kernel) rfl⟩
theorem ml_X4_150 : zLV RX4 150 2 2 m_X2_putLatest := ⟨RX2, TX2, 3, rfl, zall4 (zmem (i := 1515) (by decide +kernel) rfl) q_X2_putLatest.1 q_X2_putLatest.2.1 q_X2_putLatest.2.2.1, q_X2_putLatest.2.2.2, by decide +kernel⟩
theorem q_X6_put : Cond.instanceMethod m_X6_put.1 ∈ zGW ∧ Cond.selects RX6 m_X6_put.1 m_X6_put.1 ∈ zGW ∧ Cond.initialized RX6 ∈ zGW ∧ Cond.code m_X6_put.1 m_X6_put.2.1 m_X6_put.2.2.1 m_X6_put.2.2.2 ∈ zGW := ⟨zmem (i := 659) (by decide +kernel) rfl, zmem (i := 660) (by decide +kernel) rfl, zmem (i := 133) (by decide +kernel) rfl, zmem (i := 661) (by decide +kernel) rfl⟩
theorem ml_X4_153 : zLV RX4 153 6 3 m_X6_put := ⟨RX6, TX6, 4, rfl, zall4 (zmem (i := 1516) (by decide +kernel) rfl) q_X6_put.1 q_X6_put.2.1 q_X6_put.2.2.1, q_X6_put.2.2.2, by decide +kernel⟩
theorem ml_X6_26 : zLV RX6 26 6 2 m_X6_at := ⟨RX6, TX6, 4, rfl, zall4 (zmem (i := 654) (by decide +kernel) rfl) q_X6_at.1 q_X6_at.2.1 q_X6_at.2.2.1, q_X6_at.2.2.2, by decide +kernel⟩
theorem ml_X6_30 : zLV RX6 30 6 3 m_X6_put := ⟨RX6, TX6, 4, rfl, zall4 (zmem (i := 658) (by decide +kernel) rfl) q_X6_put.1 q_X6_put.2.1 q_X6_put.2.2.1, q_X6_put.2.2.2, by decide +kernel⟩
theorem q_X6_part : Cond.instanceMethod m_X6_part.1 ∈ zGW ∧ Cond.selects RX6 m_X6_part.1 m_X6_part.1 ∈ zGW ∧ Cond.initialized RX6 ∈ zGW ∧ Cond.code m_X6_part.1 m_X6_part.2.1 m_X6_part.2.2.1 m_X6_part.2.2.2 ∈ zGW := ⟨zmem (i := 652) (by decide +kernel) rfl, zmem (i := 12) (by decide +kernel) rfl, zmem (i := 133) (by decide +kernel) rfl, zmem (i := 653) (by decide +kernel) rfl⟩
theorem ml_X6_34 : zLV RX6 34 6 2 m_X6_part := ⟨RX6, TX6, 4, rfl, zall4 (zmem (i := 650) (by decide +kernel) rfl) q_X6_part.1 q_X6_part.2.1 q_X6_part.2.2.1, q_X6_part.2.2.2, by decide +kernel⟩
theorem ml_X6_38 : zMn RX6 38 := zall4 (zmem (i := 662) (by decide +kernel) rfl) (zmem (i := 585) (by decide +kernel) rfl) (zmem (i := 129) (by decide +kernel) rfl) (zmem (i := 586) (by decide +kernel) rfl)
theorem ml_X6_43 : zMx RX6 43 := zall4 (zmem (i := 663) (by decide +kernel) rfl) (zmem (i := 174) (by decide +kernel) rfl) (zmem (i := 129) (by decide +kernel) rfl) (zmem (i := 175) (by decide +kernel) rfl)
theorem ml_X6_46 : zMc RX6 46 := zall4 (zmem (i := 1024) (by decide +kernel) rfl) (zmem (i := 589) (by decide +kernel) rfl) (zmem (i := 588) (by decide +kernel) rfl) (zmem (i := 147) (by decide +kernel) rfl)
theorem q_X6_clearRow : Cond.instanceMethod m_X6_clearRow.1 ∈ zGW ∧ Cond.selects RX6 m_X6_clearRow.1 m_X6_clearRow.1 ∈ zGW ∧ Cond.initialized RX6 ∈ zGW ∧ Cond.code m_X6_clearRow.1 m_X6_clearRow.2.1 m_X6_clearRow.2.2.1 m_X6_clearRow.2.2.2 ∈ zGW := ⟨zmem (i := 1026) (by decide +kernel) rfl, zmem (i := 1027) (by decide +kernel) rfl, zmem (i := 133) (by decide +kernel) rfl, zmem (i := 1028) (by decide +kernel) rfl⟩
theorem ml_X6_52 : zLV RX6 52 6 1 m_X6_clearRow := ⟨RX6, TX6, 4, rfl, zall4 (zmem (i := 1025) (by decide +kernel) rfl) q_X6_clearRow.1 q_X6_clearRow.2.1 q_X6_clearRow.2.2.1, q_X6_clearRow.2.2.2, by decide +kernel⟩
theorem ml_X6_56 : zLS RX6 56 4 m_J7_fill_fda19 := ⟨zall3 (zmem (i := 1029) (by decide +kernel) rfl) q_J7_fill_fda19.1 q_J7_fill_fda19.2.1, q_J7_fill_fda19.2.2, by decide +kernel⟩
theorem q_X6_clear : Cond.instanceMethod m_X6_clear.1 ∈ zGW ∧ Cond.selects RX6 m_X6_clear.1 m_X6_clear.1 ∈ zGW ∧ Cond.initialized RX6 ∈ zGW ∧ Cond.code m_X6_clear.1 m_X6_clear.2.1 m_X6_clear.2.2.1 m_X6_clear.2.2.2 ∈ zGW := ⟨zmem (i := 1094) (by decide +kernel) rfl, zmem (i := 1095) (by decide +kernel) rfl, zmem (i := 133) (by decide +kernel) rfl, zmem (i := 1096) (by decide +kernel) rfl⟩
theorem ml_X6_62 : zLV RX6 62 6 0 m_X6_clear := ⟨RX6, TX6, 4, rfl, zall4 (zmem (i := 1512) (by decide +kernel) rfl) q_X6_clear.1 q_X6_clear.2.1 q_X6_clear.2.2.1, q_X6_clear.2.2.2, by decide +kernel⟩
theorem ml_X6_65 : zLV RX6 65 6 2 m_X6_setGoing := ⟨RX6, TX6, 4, rfl, zall4 (zmem (i := 1521) (by decide +kernel) rfl) q_X6_setGoing.1 q_X6_setGoing.2.1 q_X6_setGoing.2.2.1, q_X6_setGoing.2.2.2, by decide +kernel⟩
theorem q_X7_readTitle : Cond.instanceMethod m_X7_readTitle.1 ∈ zGW ∧ Cond.selects RX7 m_X7_readTitle.1 m_X7_readTitle.1 ∈ zGW ∧ Cond.initialized RX7 ∈ zGW ∧ Cond.code m_X7_readTitle.1 m_X7_readTitle.2.1 m_X7_readTitle.2.2.1 m_X7_readTitle.2.2.2 ∈ zGW := ⟨zmem (i := 600) (by decide +kernel) rfl, zmem (i := 5) (by decide +kernel) rfl, zmem (i := 137) (by decide +kernel) rfl, zmem (i := 601) (by decide +kernel) rfl⟩
theorem ml_X7_31 : zLV RX7 31 7 1 m_X7_readTitle := ⟨RX7, TX7, 8, rfl, zall4 (zmem (i := 598) (by decide +kernel) rfl) q_X7_readTitle.1 q_X7_readTitle.2.1 q_X7_readTitle.2.2.1, q_X7_readTitle.2.2.2, by decide +kernel⟩
theorem q_X7_readControl : Cond.instanceMethod m_X7_readControl.1 ∈ zGW ∧ Cond.selects RX7 m_X7_readControl.1 m_X7_readControl.1 ∈ zGW ∧ Cond.initialized RX7 ∈ zGW ∧ Cond.code m_X7_readControl.1 m_X7_readControl.2.1 m_X7_readControl.2.2.1 m_X7_readControl.2.2.2 ∈ zGW := ⟨zmem (i := 616) (by decide +kernel) rfl, zmem (i := 6) (by decide +kernel) rfl, zmem (i := 137) (by decide +kernel) rfl, zmem (i := 617) (by decide +kernel) rfl⟩
theorem ml_X7_34 : zLV RX7 34 7 1 m_X7_readControl := ⟨RX7, TX7, 8, rfl, zall4 (zmem (i := 614) (by decide +kernel) rfl) q_X7_readControl.1 q_X7_readControl.2.1 q_X7_readControl.2.2.1, q_X7_readControl.2.2.2, by decide +kernel⟩
theorem q_X7_readEscape : Cond.instanceMethod m_X7_readEscape.1 ∈ zGW ∧ Cond.selects RX7 m_X7_readEscape.1 m_X7_readEscape.1 ∈ zGW ∧ Cond.initialized RX7 ∈ zGW ∧ Cond.code m_X7_readEscape.1 m_X7_readEscape.2.1 m_X7_readEscape.2.2.1 m_X7_readEscape.2.2.2 ∈ zGW := ⟨zmem (i := 620) (by decide +kernel) rfl, zmem (i := 7) (by decide +kernel) rfl, zmem (i := 137) (by decide +kernel) rfl, zmem (i := 621) (by decide +kernel) rfl⟩
theorem ml_X7_38 : zLV RX7 38 7 1 m_X7_readEscape := ⟨RX7, TX7, 8, rfl, zall4 (zmem (i := 618) (by decide +kernel) rfl) q_X7_readEscape.1 q_X7_readEscape.2.1 q_X7_readEscape.2.2.1, q_X7_readEscape.2.2.2, by decide +kernel⟩
theorem q_X7_readCode : Cond.instanceMethod m_X7_readCode.1 ∈ zGW ∧ Cond.selects RX7 m_X7_readCode.1 m_X7_readCode.1 ∈ zGW ∧ Cond.initialized RX7 ∈ zGW ∧ Cond.code m_X7_readCode.1 m_X7_readCode.2.1 m_X7_readCode.2.2.1 m_X7_readCode.2.2.2 ∈ zGW := ⟨zmem (i := 628) (by decide +kernel) rfl, zmem (i := 9) (by decide +kernel) rfl, zmem (i := 137) (by decide +kernel) rfl, zmem (i := 629) (by decide +kernel) rfl⟩
theorem ml_X7_41 : zLV RX7 41 7 1 m_X7_readCode := ⟨RX7, TX7, 8, rfl, zall4 (zmem (i := 626) (by decide +kernel) rfl) q_X7_readCode.1 q_X7_readCode.2.1 q_X7_readCode.2.2.1, q_X7_readCode.2.2.2, by decide +kernel⟩
theorem q_X7_beginCode : Cond.instanceMethod m_X7_beginCode.1 ∈ zGW ∧ Cond.selects RX7 m_X7_beginCode.1 m_X7_beginCode.1 ∈ zGW ∧ Cond.initialized RX7 ∈ zGW ∧ Cond.code m_X7_beginCode.1 m_X7_beginCode.2.1 m_X7_beginCode.2.2.1 m_X7_beginCode.2.2.2 ∈ zGW := ⟨zmem (i := 624) (by decide +kernel) rfl, zmem (i := 8) (by decide +kernel) rfl, zmem (i := 137) (by decide +kernel) rfl, zmem (i := 625) (by decide +kernel) rfl⟩
theorem ml_X7_44 : zLV RX7 44 7 0 m_X7_beginCode := ⟨RX7, TX7, 8, rfl, zall4 (zmem (i := 622) (by decide +kernel) rfl) q_X7_beginCode.1 q_X7_beginCode.2.1 q_X7_beginCode.2.2.1, q_X7_beginCode.2.2.2, by decide +kernel⟩
theorem ml_X7_47 : zLV RX7 47 0 0 m_X0_clear := ⟨RX0, TX0, 3, rfl, zall4 (zmem (i := 602) (by decide +kernel) rfl) q_X0_clear.1 q_X0_clear.2.1 q_X0_clear.2.2.1, q_X0_clear.2.2.2, by decide +kernel⟩
theorem ml_X7_63 : zMn RX7 63 := zall4 (zmem (i := 630) (by decide +kernel) rfl) (zmem (i := 585) (by decide +kernel) rfl) (zmem (i := 129) (by decide +kernel) rfl) (zmem (i := 586) (by decide +kernel) rfl)
theorem q_X7_addDigit : Cond.instanceMethod m_X7_addDigit.1 ∈ zGW ∧ Cond.selects RX7 m_X7_addDigit.1 m_X7_addDigit.1 ∈ zGW ∧ Cond.initialized RX7 ∈ zGW ∧ Cond.code m_X7_addDigit.1 m_X7_addDigit.2.1 m_X7_addDigit.2.2.1 m_X7_addDigit.2.2.2 ∈ zGW := ⟨zmem (i := 633) (by decide +kernel) rfl, zmem (i := 10) (by decide +kernel) rfl, zmem (i := 137) (by decide +kernel) rfl, zmem (i := 634) (by decide +kernel) rfl⟩
theorem ml_X7_69 : zLV RX7 69 7 1 m_X7_addDigit := ⟨RX7, TX7, 8, rfl, zall4 (zmem (i := 631) (by decide +kernel) rfl) q_X7_addDigit.1 q_X7_addDigit.2.1 q_X7_addDigit.2.2.1, q_X7_addDigit.2.2.2, by decide +kernel⟩
theorem ml_X7_72 : zLV RX7 72 0 1 m_X0_addAll := ⟨RX0, TX0, 3, rfl, zall4 (zmem (i := 606) (by decide +kernel) rfl) q_X0_addAll.1 q_X0_addAll.2.1 q_X0_addAll.2.2.1, q_X0_addAll.2.2.2, by decide +kernel⟩
theorem ml_X7_76 : zLV RX7 76 0 1 m_X0_add := ⟨RX0, TX0, 3, rfl, zall4 (zmem (i := 613) (by decide +kernel) rfl) q_X0_add.1 q_X0_add.2.1 q_X0_add.2.2.1, q_X0_add.2.2.2, by decide +kernel⟩
theorem q_X8_setFirstTabs : Cond.instanceMethod m_X8_setFirstTabs.1 ∈ zGW ∧ Cond.selects RX8 m_X8_setFirstTabs.1 m_X8_setFirstTabs.1 ∈ zGW ∧ Cond.initialized RX8 ∈ zGW ∧ Cond.code m_X8_setFirstTabs.1 m_X8_setFirstTabs.2.1 m_X8_setFirstTabs.2.2.1 m_X8_setFirstTabs.2.2.2 ∈ zGW := ⟨zmem (i := 425) (by decide +kernel) rfl, zmem (i := 0) (by decide +kernel) rfl, zmem (i := 131) (by decide +kernel) rfl, zmem (i := 426) (by decide +kernel) rfl⟩
theorem ml_X8_72 : zLV RX8 72 8 1 m_X8_setFirstTabs := ⟨RX8, TX8, 14, rfl, zall4 (zmem (i := 423) (by decide +kernel) rfl) q_X8_setFirstTabs.1 q_X8_setFirstTabs.2.1 q_X8_setFirstTabs.2.2.1, q_X8_setFirstTabs.2.2.2, by decide +kernel⟩
theorem ml_X8_104 : zLV RX8 104 2 0 m_X2_count := ⟨RX2, TX2, 3, rfl, zall4 (zmem (i := 1597) (by decide +kernel) rfl) q_X2_count.1 q_X2_count.2.1 q_X2_count.2.2.1, q_X2_count.2.2.2, by decide +kernel⟩
theorem ml_X8_110 : zMx RX8 110 := zall4 (zmem (i := 427) (by decide +kernel) rfl) (zmem (i := 174) (by decide +kernel) rfl) (zmem (i := 129) (by decide +kernel) rfl) (zmem (i := 175) (by decide +kernel) rfl)
theorem q_X7_read : Cond.instanceMethod m_X7_read.1 ∈ zGW ∧ Cond.selects RX7 m_X7_read.1 m_X7_read.1 ∈ zGW ∧ Cond.initialized RX7 ∈ zGW ∧ Cond.code m_X7_read.1 m_X7_read.2.1 m_X7_read.2.2.1 m_X7_read.2.2.2 ∈ zGW := ⟨zmem (i := 595) (by decide +kernel) rfl, zmem (i := 596) (by decide +kernel) rfl, zmem (i := 137) (by decide +kernel) rfl, zmem (i := 597) (by decide +kernel) rfl⟩
theorem ml_X8_116 : zLV RX8 116 7 1 m_X7_read := ⟨RX7, TX7, 8, rfl, zall4 (zmem (i := 594) (by decide +kernel) rfl) q_X7_read.1 q_X7_read.2.1 q_X7_read.2.2.1, q_X7_read.2.2.2, by decide +kernel⟩
theorem q_X8_drawSign : Cond.instanceMethod m_X8_drawSign.1 ∈ zGW ∧ Cond.selects RX8 m_X8_drawSign.1 m_X8_drawSign.1 ∈ zGW ∧ Cond.initialized RX8 ∈ zGW ∧ Cond.code m_X8_drawSign.1 m_X8_drawSign.2.1 m_X8_drawSign.2.2.1 m_X8_drawSign.2.2.2 ∈ zGW := ⟨zmem (i := 637) (by decide +kernel) rfl, zmem (i := 11) (by decide +kernel) rfl, zmem (i := 131) (by decide +kernel) rfl, zmem (i := 638) (by decide +kernel) rfl⟩
theorem ml_X8_120 : zLV RX8 120 8 1 m_X8_drawSign := ⟨RX8, TX8, 14, rfl, zall4 (zmem (i := 635) (by decide +kernel) rfl) q_X8_drawSign.1 q_X8_drawSign.2.1 q_X8_drawSign.2.2.1, q_X8_drawSign.2.2.2, by decide +kernel⟩
theorem q_X8_addMark : Cond.instanceMethod m_X8_addMark.1 ∈ zGW ∧ Cond.selects RX8 m_X8_addMark.1 m_X8_addMark.1 ∈ zGW ∧ Cond.initialized RX8 ∈ zGW ∧ Cond.code m_X8_addMark.1 m_X8_addMark.2.1 m_X8_addMark.2.2.1 m_X8_addMark.2.2.2 ∈ zGW := ⟨zmem (i := 1046) (by decide +kernel) rfl, zmem (i := 17) (by decide +kernel) rfl, zmem (i := 131) (by decide +kernel) rfl, zmem (i := 1047) (by decide +kernel) rfl⟩
theorem ml_X8_123 : zLV RX8 123 8 0 m_X8_addMark := ⟨RX8, TX8, 14, rfl, zall4 (zmem (i := 1044) (by decide +kernel) rfl) q_X8_addMark.1 q_X8_addMark.2.1 q_X8_addMark.2.2.1, q_X8_addMark.2.2.2, by decide +kernel⟩
theorem q_X8_control : Cond.instanceMethod m_X8_control.1 ∈ zGW ∧ Cond.selects RX8 m_X8_control.1 m_X8_control.1 ∈ zGW ∧ Cond.initialized RX8 ∈ zGW ∧ Cond.code m_X8_control.1 m_X8_control.2.1 m_X8_control.2.2.1 m_X8_control.2.2.2 ∈ zGW := ⟨zmem (i := 1055) (by decide +kernel) rfl, zmem (i := 18) (by decide +kernel) rfl, zmem (i := 131) (by decide +kernel) rfl, zmem (i := 1056) (by decide +kernel) rfl⟩
theorem ml_X8_126 : zLV RX8 126 8 1 m_X8_control := ⟨RX8, TX8, 14, rfl, zall4 (zmem (i := 1053) (by decide +kernel) rfl) q_X8_control.1 q_X8_control.2.1 q_X8_control.2.2.1, q_X8_control.2.2.2, by decide +kernel⟩
theorem q_X8_escaped : Cond.instanceMethod m_X8_escaped.1 ∈ zGW ∧ Cond.selects RX8 m_X8_escaped.1 m_X8_escaped.1 ∈ zGW ∧ Cond.initialized RX8 ∈ zGW ∧ Cond.code m_X8_escaped.1 m_X8_escaped.2.1 m_X8_escaped.2.2.1 m_X8_escaped.2.2.2 ∈ zGW := ⟨zmem (i := 1063) (by decide +kernel) rfl, zmem (i := 19) (by decide +kernel) rfl, zmem (i := 131) (by decide +kernel) rfl, zmem (i := 1064) (by decide +kernel) rfl⟩
theorem ml_X8_129 : zLV RX8 129 8 1 m_X8_escaped := ⟨RX8, TX8, 14, rfl, zall4 (zmem (i := 1061) (by decide +kernel) rfl) q_X8_escaped.1 q_X8_escaped.2.1 q_X8_escaped.2.2.1, q_X8_escaped.2.2.2, by decide +kernel⟩
theorem q_X8_coded : Cond.instanceMethod m_X8_coded.1 ∈ zGW ∧ Cond.selects RX8 m_X8_coded.1 m_X8_coded.1 ∈ zGW ∧ Cond.initialized RX8 ∈ zGW ∧ Cond.code m_X8_coded.1 m_X8_coded.2.1 m_X8_coded.2.2.1 m_X8_coded.2.2.2 ∈ zGW := ⟨zmem (i := 1111) (by decide +kernel) rfl, zmem (i := 25) (by decide +kernel) rfl, zmem (i := 131) (by decide +kernel) rfl, zmem (i := 1112) (by decide +kernel) rfl⟩
theorem ml_X8_132 : zLV RX8 132 8 1 m_X8_coded := ⟨RX8, TX8, 14, rfl, zall4 (zmem (i := 1109) (by decide +kernel) rfl) q_X8_coded.1 q_X8_coded.2.1 q_X8_coded.2.2.1, q_X8_coded.2.2.2, by decide +kernel⟩
theorem q_X8_codedWithMark : Cond.instanceMethod m_X8_codedWithMark.1 ∈ zGW ∧ Cond.selects RX8 m_X8_codedWithMark.1 m_X8_codedWithMark.1 ∈ zGW ∧ Cond.initialized RX8 ∈ zGW ∧ Cond.code m_X8_codedWithMark.1 m_X8_codedWithMark.2.1 m_X8_codedWithMark.2.2.1 m_X8_codedWithMark.2.2.2 ∈ zGW := ⟨zmem (i := 1177) (by decide +kernel) rfl, zmem (i := 36) (by decide +kernel) rfl, zmem (i := 131) (by decide +kernel) rfl, zmem (i := 1178) (by decide +kernel) rfl⟩
theorem ml_X8_135 : zLV RX8 135 8 1 m_X8_codedWithMark := ⟨RX8, TX8, 14, rfl, zall4 (zmem (i := 1175) (by decide +kernel) rfl) q_X8_codedWithMark.1 q_X8_codedWithMark.2.1 q_X8_codedWithMark.2.2.1, q_X8_codedWithMark.2.2.2, by decide +kernel⟩
theorem ml_X8_138 : zLV RX8 138 8 0 m_X8_shown := ⟨RX8, TX8, 14, rfl, zall4 (zmem (i := 639) (by decide +kernel) rfl) q_X8_shown.1 q_X8_shown.2.1 q_X8_shown.2.2.1, q_X8_shown.2.2.2, by decide +kernel⟩
theorem ml_X8_142 : zLSN RX8 142 1 "InputrowConsole" m_X11_isWide := ⟨znest (i := 643) (by decide +kernel) rfl, zall2 q_X11_isWide.1 q_X11_isWide.2.1, q_X11_isWide.2.2, by decide +kernel⟩
theorem q_X6_erase : Cond.instanceMethod m_X6_erase.1 ∈ zGW ∧ Cond.selects RX6 m_X6_erase.1 m_X6_erase.1 ∈ zGW ∧ Cond.initialized RX6 ∈ zGW ∧ Cond.code m_X6_erase.1 m_X6_erase.2.1 m_X6_erase.2.2.1 m_X6_erase.2.2.2 ∈ zGW := ⟨zmem (i := 647) (by decide +kernel) rfl, zmem (i := 648) (by decide +kernel) rfl, zmem (i := 133) (by decide +kernel) rfl, zmem (i := 649) (by decide +kernel) rfl⟩
theorem ml_X8_149 : zLV RX8 149 6 3 m_X6_erase := ⟨RX6, TX6, 4, rfl, zall4 (zmem (i := 646) (by decide +kernel) rfl) q_X6_erase.1 q_X6_erase.2.1 q_X6_erase.2.2.1, q_X6_erase.2.2.2, by decide +kernel⟩
theorem ml_X8_153 : zLV RX8 153 6 2 m_X6_setGoing := ⟨RX6, TX6, 4, rfl, zall4 (zmem (i := 664) (by decide +kernel) rfl) q_X6_setGoing.1 q_X6_setGoing.2.1 q_X6_setGoing.2.2.1, q_X6_setGoing.2.2.2, by decide +kernel⟩
theorem q_X8_feed : Cond.instanceMethod m_X8_feed.1 ∈ zGW ∧ Cond.selects RX8 m_X8_feed.1 m_X8_feed.1 ∈ zGW ∧ Cond.initialized RX8 ∈ zGW ∧ Cond.code m_X8_feed.1 m_X8_feed.2.1 m_X8_feed.2.2.1 m_X8_feed.2.2.2 ∈ zGW := ⟨zmem (i := 670) (by decide +kernel) rfl, zmem (i := 13) (by decide +kernel) rfl, zmem (i := 131) (by decide +kernel) rfl, zmem (i := 671) (by decide +kernel) rfl⟩
theorem ml_X8_157 : zLV RX8 157 8 0 m_X8_feed := ⟨RX8, TX8, 14, rfl, zall4 (zmem (i := 668) (by decide +kernel) rfl) q_X8_feed.1 q_X8_feed.2.1 q_X8_feed.2.2.1, q_X8_feed.2.2.2, by decide +kernel⟩
theorem q_X6_insert : Cond.instanceMethod m_X6_insert.1 ∈ zGW ∧ Cond.selects RX6 m_X6_insert.1 m_X6_insert.1 ∈ zGW ∧ Cond.initialized RX6 ∈ zGW ∧ Cond.code m_X6_insert.1 m_X6_insert.2.1 m_X6_insert.2.2.1 m_X6_insert.2.2.2 ∈ zGW := ⟨zmem (i := 1039) (by decide +kernel) rfl, zmem (i := 1040) (by decide +kernel) rfl, zmem (i := 133) (by decide +kernel) rfl, zmem (i := 1041) (by decide +kernel) rfl⟩
theorem ml_X8_163 : zLV RX8 163 6 3 m_X6_insert := ⟨RX6, TX6, 4, rfl, zall4 (zmem (i := 1038) (by decide +kernel) rfl) q_X6_insert.1 q_X6_insert.2.1 q_X6_insert.2.2.1, q_X6_insert.2.2.2, by decide +kernel⟩
theorem ml_X8_166 : zLV RX8 166 6 3 m_X6_put := ⟨RX6, TX6, 4, rfl, zall4 (zmem (i := 1042) (by decide +kernel) rfl) q_X6_put.1 q_X6_put.2.1 q_X6_put.2.2.1, q_X6_put.2.2.2, by decide +kernel⟩
theorem ml_X8_169 : zMn RX8 169 := zall4 (zmem (i := 1043) (by decide +kernel) rfl) (zmem (i := 585) (by decide +kernel) rfl) (zmem (i := 129) (by decide +kernel) rfl) (zmem (i := 586) (by decide +kernel) rfl)
theorem ml_X8_172 : zLV RX8 172 6 2 m_X6_at := ⟨RX6, TX6, 4, rfl, zall4 (zmem (i := 1015) (by decide +kernel) rfl) q_X6_at.1 q_X6_at.2.1 q_X6_at.2.2.1, q_X6_at.2.2.2, by decide +kernel⟩
theorem q_X11_marksOf : Cond.static m_X11_marksOf.1 ∈ zGW ∧ Cond.initialized m_X11_marksOf.1.cls ∈ zGW ∧ Cond.code m_X11_marksOf.1 m_X11_marksOf.2.1 m_X11_marksOf.2.2.1 m_X11_marksOf.2.2.2 ∈ zGW := ⟨zmem (i := 1049) (by decide +kernel) rfl, zmem (i := 127) (by decide +kernel) rfl, zmem (i := 1050) (by decide +kernel) rfl⟩
theorem ml_X8_175 : zLSN RX8 175 1 "InputrowConsole" m_X11_marksOf := ⟨znest (i := 1048) (by decide +kernel) rfl, zall2 q_X11_marksOf.1 q_X11_marksOf.2.1, q_X11_marksOf.2.2, by decide +kernel⟩
theorem ml_X8_182 : zLV RX8 182 8 0 m_X8_nextTab := ⟨RX8, TX8, 14, rfl, zall4 (zmem (i := 1057) (by decide +kernel) rfl) q_X8_nextTab.1 q_X8_nextTab.2.1 q_X8_nextTab.2.2.1, q_X8_nextTab.2.2.2, by decide +kernel⟩
theorem q_X8_scrollUp : Cond.instanceMethod m_X8_scrollUp.1 ∈ zGW ∧ Cond.selects RX8 m_X8_scrollUp.1 m_X8_scrollUp.1 ∈ zGW ∧ Cond.initialized RX8 ∈ zGW ∧ Cond.code m_X8_scrollUp.1 m_X8_scrollUp.2.1 m_X8_scrollUp.2.2.1 m_X8_scrollUp.2.2.2 ∈ zGW := ⟨zmem (i := 674) (by decide +kernel) rfl, zmem (i := 14) (by decide +kernel) rfl, zmem (i := 131) (by decide +kernel) rfl, zmem (i := 675) (by decide +kernel) rfl⟩
theorem ml_X8_185 : zLV RX8 185 8 3 m_X8_scrollUp := ⟨RX8, TX8, 14, rfl, zall4 (zmem (i := 672) (by decide +kernel) rfl) q_X8_scrollUp.1 q_X8_scrollUp.2.1 q_X8_scrollUp.2.2.1, q_X8_scrollUp.2.2.2, by decide +kernel⟩
theorem ml_X8_189 : zLV RX8 189 6 1 m_X6_isGoing := ⟨RX6, TX6, 4, rfl, zall4 (zmem (i := 676) (by decide +kernel) rfl) q_X6_isGoing.1 q_X6_isGoing.2.1 q_X6_isGoing.2.2.1, q_X6_isGoing.2.2.2, by decide +kernel⟩
theorem ml_X8_192 : zLV RX8 192 2 1 m_X2_add := ⟨RX2, TX2, 3, rfl, zall4 (zmem (i := 680) (by decide +kernel) rfl) q_X2_add.1 q_X2_add.2.1 q_X2_add.2.2.1, q_X2_add.2.2.2, by decide +kernel⟩
theorem ml_X8_196 : zLV RX8 196 2 2 m_X2_putLatest := ⟨RX2, TX2, 3, rfl, zall4 (zmem (i := 1016) (by decide +kernel) rfl) q_X2_putLatest.1 q_X2_putLatest.2.1 q_X2_putLatest.2.2.1, q_X2_putLatest.2.2.2, by decide +kernel⟩
theorem q_X6_moveUp : Cond.instanceMethod m_X6_moveUp.1 ∈ zGW ∧ Cond.selects RX6 m_X6_moveUp.1 m_X6_moveUp.1 ∈ zGW ∧ Cond.initialized RX6 ∈ zGW ∧ Cond.code m_X6_moveUp.1 m_X6_moveUp.2.1 m_X6_moveUp.2.2.1 m_X6_moveUp.2.2.2 ∈ zGW := ⟨zmem (i := 1021) (by decide +kernel) rfl, zmem (i := 1022) (by decide +kernel) rfl, zmem (i := 133) (by decide +kernel) rfl, zmem (i := 1023) (by decide +kernel) rfl⟩
theorem ml_X8_200 : zLV RX8 200 6 2 m_X6_moveUp := ⟨RX6, TX6, 4, rfl, zall4 (zmem (i := 1020) (by decide +kernel) rfl) q_X6_moveUp.1 q_X6_moveUp.2.1 q_X6_moveUp.2.2.1, q_X6_moveUp.2.2.2, by decide +kernel⟩
theorem q_X8_endAbove : Cond.instanceMethod m_X8_endAbove.1 ∈ zGW ∧ Cond.selects RX8 m_X8_endAbove.1 m_X8_endAbove.1 ∈ zGW ∧ Cond.initialized RX8 ∈ zGW ∧ Cond.code m_X8_endAbove.1 m_X8_endAbove.2.1 m_X8_endAbove.2.2.1 m_X8_endAbove.2.2.2 ∈ zGW := ⟨zmem (i := 1032) (by decide +kernel) rfl, zmem (i := 16) (by decide +kernel) rfl, zmem (i := 131) (by decide +kernel) rfl, zmem (i := 1033) (by decide +kernel) rfl⟩
theorem ml_X8_203 : zLV RX8 203 8 1 m_X8_endAbove := ⟨RX8, TX8, 14, rfl, zall4 (zmem (i := 1030) (by decide +kernel) rfl) q_X8_endAbove.1 q_X8_endAbove.2.1 q_X8_endAbove.2.2.1, q_X8_endAbove.2.2.2, by decide +kernel⟩
theorem q_X6_moveDown : Cond.instanceMethod m_X6_moveDown.1 ∈ zGW ∧ Cond.selects RX6 m_X6_moveDown.1 m_X6_moveDown.1 ∈ zGW ∧ Cond.initialized RX6 ∈ zGW ∧ Cond.code m_X6_moveDown.1 m_X6_moveDown.2.1 m_X6_moveDown.2.2.1 m_X6_moveDown.2.2.2 ∈ zGW := ⟨zmem (i := 1082) (by decide +kernel) rfl, zmem (i := 1083) (by decide +kernel) rfl, zmem (i := 133) (by decide +kernel) rfl, zmem (i := 1084) (by decide +kernel) rfl⟩
theorem ml_X8_206 : zLV RX8 206 6 2 m_X6_moveDown := ⟨RX6, TX6, 4, rfl, zall4 (zmem (i := 1081) (by decide +kernel) rfl) q_X6_moveDown.1 q_X6_moveDown.2.1 q_X6_moveDown.2.2.1, q_X6_moveDown.2.2.2, by decide +kernel⟩
theorem q_X2_endLatest : Cond.instanceMethod m_X2_endLatest.1 ∈ zGW ∧ Cond.selects RX2 m_X2_endLatest.1 m_X2_endLatest.1 ∈ zGW ∧ Cond.initialized RX2 ∈ zGW ∧ Cond.code m_X2_endLatest.1 m_X2_endLatest.2.1 m_X2_endLatest.2.2.1 m_X2_endLatest.2.2.2 ∈ zGW := ⟨zmem (i := 1035) (by decide +kernel) rfl, zmem (i := 1036) (by decide +kernel) rfl, zmem (i := 134) (by decide +kernel) rfl, zmem (i := 1037) (by decide +kernel) rfl⟩
theorem ml_X8_209 : zLV RX8 209 2 0 m_X2_endLatest := ⟨RX2, TX2, 3, rfl, zall4 (zmem (i := 1034) (by decide +kernel) rfl) q_X2_endLatest.1 q_X2_endLatest.2.1 q_X2_endLatest.2.2.1, q_X2_endLatest.2.2.2, by decide +kernel⟩
theorem q_X1_copy : Cond.instanceMethod m_X1_copy.1 ∈ zGW ∧ Cond.selects RX1 m_X1_copy.1 m_X1_copy.1 ∈ zGW ∧ Cond.initialized RX1 ∈ zGW ∧ Cond.code m_X1_copy.1 m_X1_copy.2.1 m_X1_copy.2.2.1 m_X1_copy.2.2.2 ∈ zGW := ⟨zmem (i := 1066) (by decide +kernel) rfl, zmem (i := 1067) (by decide +kernel) rfl, zmem (i := 135) (by decide +kernel) rfl, zmem (i := 1068) (by decide +kernel) rfl⟩
theorem ml_X8_212 : zLV RX8 212 1 1 m_X1_copy := ⟨RX1, TX1, 5, rfl, zall4 (zmem (i := 1065) (by decide +kernel) rfl) q_X1_copy.1 q_X1_copy.2.1 q_X1_copy.2.2.1, q_X1_copy.2.2.2, by decide +kernel⟩
theorem q_X8_bringBack : Cond.instanceMethod m_X8_bringBack.1 ∈ zGW ∧ Cond.selects RX8 m_X8_bringBack.1 m_X8_bringBack.1 ∈ zGW ∧ Cond.initialized RX8 ∈ zGW ∧ Cond.code m_X8_bringBack.1 m_X8_bringBack.2.1 m_X8_bringBack.2.2.1 m_X8_bringBack.2.2.2 ∈ zGW := ⟨zmem (i := 1071) (by decide +kernel) rfl, zmem (i := 20) (by decide +kernel) rfl, zmem (i := 131) (by decide +kernel) rfl, zmem (i := 1072) (by decide +kernel) rfl⟩
theorem ml_X8_216 : zLV RX8 216 8 0 m_X8_bringBack := ⟨RX8, TX8, 14, rfl, zall4 (zmem (i := 1069) (by decide +kernel) rfl) q_X8_bringBack.1 q_X8_bringBack.2.1 q_X8_bringBack.2.2.1, q_X8_bringBack.2.2.2, by decide +kernel⟩
theorem q_X8_feedBack : Cond.instanceMethod m_X8_feedBack.1 ∈ zGW ∧ Cond.selects RX8 m_X8_feedBack.1 m_X8_feedBack.1 ∈ zGW ∧ Cond.initialized RX8 ∈ zGW ∧ Cond.code m_X8_feedBack.1 m_X8_feedBack.2.1 m_X8_feedBack.2.2.1 m_X8_feedBack.2.2.2 ∈ zGW := ⟨zmem (i := 1075) (by decide +kernel) rfl, zmem (i := 21) (by decide +kernel) rfl, zmem (i := 131) (by decide +kernel) rfl, zmem (i := 1076) (by decide +kernel) rfl⟩
theorem ml_X8_219 : zLV RX8 219 8 0 m_X8_feedBack := ⟨RX8, TX8, 14, rfl, zall4 (zmem (i := 1073) (by decide +kernel) rfl) q_X8_feedBack.1 q_X8_feedBack.2.1 q_X8_feedBack.2.2.1, q_X8_feedBack.2.2.2, by decide +kernel⟩
theorem q_X8_setTab : Cond.instanceMethod m_X8_setTab.1 ∈ zGW ∧ Cond.selects RX8 m_X8_setTab.1 m_X8_setTab.1 ∈ zGW ∧ Cond.initialized RX8 ∈ zGW ∧ Cond.code m_X8_setTab.1 m_X8_setTab.2.1 m_X8_setTab.2.2.1 m_X8_setTab.2.2.2 ∈ zGW := ⟨zmem (i := 1087) (by decide +kernel) rfl, zmem (i := 23) (by decide +kernel) rfl, zmem (i := 131) (by decide +kernel) rfl, zmem (i := 1088) (by decide +kernel) rfl⟩
theorem ml_X8_222 : zLV RX8 222 8 2 m_X8_setTab := ⟨RX8, TX8, 14, rfl, zall4 (zmem (i := 1085) (by decide +kernel) rfl) q_X8_setTab.1 q_X8_setTab.2.1 q_X8_setTab.2.2.1, q_X8_setTab.2.2.2, by decide +kernel⟩
theorem q_X8_reset : Cond.instanceMethod m_X8_reset.1 ∈ zGW ∧ Cond.selects RX8 m_X8_reset.1 m_X8_reset.1 ∈ zGW ∧ Cond.initialized RX8 ∈ zGW ∧ Cond.code m_X8_reset.1 m_X8_reset.2.1 m_X8_reset.2.2.1 m_X8_reset.2.2.2 ∈ zGW := ⟨zmem (i := 1091) (by decide +kernel) rfl, zmem (i := 24) (by decide +kernel) rfl, zmem (i := 131) (by decide +kernel) rfl, zmem (i := 1092) (by decide +kernel) rfl⟩
theorem ml_X8_225 : zLV RX8 225 8 0 m_X8_reset := ⟨RX8, TX8, 14, rfl, zall4 (zmem (i := 1089) (by decide +kernel) rfl) q_X8_reset.1 q_X8_reset.2.1 q_X8_reset.2.2.1, q_X8_reset.2.2.2, by decide +kernel⟩
theorem q_X8_scrollDown : Cond.instanceMethod m_X8_scrollDown.1 ∈ zGW ∧ Cond.selects RX8 m_X8_scrollDown.1 m_X8_scrollDown.1 ∈ zGW ∧ Cond.initialized RX8 ∈ zGW ∧ Cond.code m_X8_scrollDown.1 m_X8_scrollDown.2.1 m_X8_scrollDown.2.2.1 m_X8_scrollDown.2.2.2 ∈ zGW := ⟨zmem (i := 1079) (by decide +kernel) rfl, zmem (i := 22) (by decide +kernel) rfl, zmem (i := 131) (by decide +kernel) rfl, zmem (i := 1080) (by decide +kernel) rfl⟩
theorem ml_X8_228 : zLV RX8 228 8 2 m_X8_scrollDown := ⟨RX8, TX8, 14, rfl, zall4 (zmem (i := 1077) (by decide +kernel) rfl) q_X8_scrollDown.1 q_X8_scrollDown.2.1 q_X8_scrollDown.2.2.1, q_X8_scrollDown.2.2.2, by decide +kernel⟩
theorem ml_X8_231 : zLV RX8 231 6 0 m_X6_clear := ⟨RX6, TX6, 4, rfl, zall4 (zmem (i := 1093) (by decide +kernel) rfl) q_X6_clear.1 q_X6_clear.2.1 q_X6_clear.2.2.1, q_X6_clear.2.2.2, by decide +kernel⟩
theorem q_X1_reset : Cond.instanceMethod m_X1_reset.1 ∈ zGW ∧ Cond.selects RX1 m_X1_reset.1 m_X1_reset.1 ∈ zGW ∧ Cond.initialized RX1 ∈ zGW ∧ Cond.code m_X1_reset.1 m_X1_reset.2.1 m_X1_reset.2.2.1 m_X1_reset.2.2.2 ∈ zGW := ⟨zmem (i := 1098) (by decide +kernel) rfl, zmem (i := 1099) (by decide +kernel) rfl, zmem (i := 135) (by decide +kernel) rfl, zmem (i := 1100) (by decide +kernel) rfl⟩
theorem ml_X8_234 : zLV RX8 234 1 0 m_X1_reset := ⟨RX1, TX1, 5, rfl, zall4 (zmem (i := 1097) (by decide +kernel) rfl) q_X1_reset.1 q_X1_reset.2.1 q_X1_reset.2.2.1, q_X1_reset.2.2.2, by decide +kernel⟩
theorem q_X5_reset : Cond.instanceMethod m_X5_reset.1 ∈ zGW ∧ Cond.selects RX5 m_X5_reset.1 m_X5_reset.1 ∈ zGW ∧ Cond.initialized RX5 ∈ zGW ∧ Cond.code m_X5_reset.1 m_X5_reset.2.1 m_X5_reset.2.2.1 m_X5_reset.2.2.2 ∈ zGW := ⟨zmem (i := 1106) (by decide +kernel) rfl, zmem (i := 1107) (by decide +kernel) rfl, zmem (i := 136) (by decide +kernel) rfl, zmem (i := 1108) (by decide +kernel) rfl⟩
theorem ml_X8_235 : zLV RX8 235 5 0 m_X5_reset := ⟨RX5, TX5, 6, rfl, zall4 (zmem (i := 1105) (by decide +kernel) rfl) q_X5_reset.1 q_X5_reset.2.1 q_X5_reset.2.2.1, q_X5_reset.2.2.2, by decide +kernel⟩
theorem q_X8_endsLate : Cond.static m_X8_endsLate.1 ∈ zGW ∧ Cond.initialized m_X8_endsLate.1.cls ∈ zGW ∧ Cond.code m_X8_endsLate.1 m_X8_endsLate.2.1 m_X8_endsLate.2.2.1 m_X8_endsLate.2.2.2 ∈ zGW := ⟨zmem (i := 1114) (by decide +kernel) rfl, zmem (i := 131) (by decide +kernel) rfl, zmem (i := 1115) (by decide +kernel) rfl⟩
theorem ml_X8_236 : zLS RX8 236 1 m_X8_endsLate := ⟨zall3 (zmem (i := 1113) (by decide +kernel) rfl) q_X8_endsLate.1 q_X8_endsLate.2.1, q_X8_endsLate.2.2, by decide +kernel⟩
theorem q_X7_number : Cond.instanceMethod m_X7_number.1 ∈ zGW ∧ Cond.selects RX7 m_X7_number.1 m_X7_number.1 ∈ zGW ∧ Cond.initialized RX7 ∈ zGW ∧ Cond.code m_X7_number.1 m_X7_number.2.1 m_X7_number.2.2.1 m_X7_number.2.2.2 ∈ zGW := ⟨zmem (i := 1117) (by decide +kernel) rfl, zmem (i := 1118) (by decide +kernel) rfl, zmem (i := 137) (by decide +kernel) rfl, zmem (i := 1119) (by decide +kernel) rfl⟩
theorem ml_X8_239 : zLV RX8 239 7 1 m_X7_number := ⟨RX7, TX7, 8, rfl, zall4 (zmem (i := 1116) (by decide +kernel) rfl) q_X7_number.1 q_X7_number.2.1 q_X7_number.2.2.1, q_X7_number.2.2.2, by decide +kernel⟩
theorem q_X8_goTo : Cond.instanceMethod m_X8_goTo.1 ∈ zGW ∧ Cond.selects RX8 m_X8_goTo.1 m_X8_goTo.1 ∈ zGW ∧ Cond.initialized RX8 ∈ zGW ∧ Cond.code m_X8_goTo.1 m_X8_goTo.2.1 m_X8_goTo.2.2.1 m_X8_goTo.2.2.2 ∈ zGW := ⟨zmem (i := 1122) (by decide +kernel) rfl, zmem (i := 26) (by decide +kernel) rfl, zmem (i := 131) (by decide +kernel) rfl, zmem (i := 1123) (by decide +kernel) rfl⟩
theorem ml_X8_242 : zLV RX8 242 8 2 m_X8_goTo := ⟨RX8, TX8, 14, rfl, zall4 (zmem (i := 1120) (by decide +kernel) rfl) q_X8_goTo.1 q_X8_goTo.2.1 q_X8_goTo.2.2.1, q_X8_goTo.2.2.2, by decide +kernel⟩
theorem q_X8_eraseOtherRows : Cond.instanceMethod m_X8_eraseOtherRows.1 ∈ zGW ∧ Cond.selects RX8 m_X8_eraseOtherRows.1 m_X8_eraseOtherRows.1 ∈ zGW ∧ Cond.initialized RX8 ∈ zGW ∧ Cond.code m_X8_eraseOtherRows.1 m_X8_eraseOtherRows.2.1 m_X8_eraseOtherRows.2.2.1 m_X8_eraseOtherRows.2.2.2 ∈ zGW := ⟨zmem (i := 1127) (by decide +kernel) rfl, zmem (i := 27) (by decide +kernel) rfl, zmem (i := 131) (by decide +kernel) rfl, zmem (i := 1128) (by decide +kernel) rfl⟩
theorem ml_X8_245 : zLV RX8 245 8 1 m_X8_eraseOtherRows := ⟨RX8, TX8, 14, rfl, zall4 (zmem (i := 1125) (by decide +kernel) rfl) q_X8_eraseOtherRows.1 q_X8_eraseOtherRows.2.1 q_X8_eraseOtherRows.2.2.1, q_X8_eraseOtherRows.2.2.2, by decide +kernel⟩
theorem q_X8_eraseRow : Cond.instanceMethod m_X8_eraseRow.1 ∈ zGW ∧ Cond.selects RX8 m_X8_eraseRow.1 m_X8_eraseRow.1 ∈ zGW ∧ Cond.initialized RX8 ∈ zGW ∧ Cond.code m_X8_eraseRow.1 m_X8_eraseRow.2.1 m_X8_eraseRow.2.2.1 m_X8_eraseRow.2.2.2 ∈ zGW := ⟨zmem (i := 1136) (by decide +kernel) rfl, zmem (i := 28) (by decide +kernel) rfl, zmem (i := 131) (by decide +kernel) rfl, zmem (i := 1137) (by decide +kernel) rfl⟩
theorem ml_X8_248 : zLV RX8 248 8 1 m_X8_eraseRow := ⟨RX8, TX8, 14, rfl, zall4 (zmem (i := 1134) (by decide +kernel) rfl) q_X8_eraseRow.1 q_X8_eraseRow.2.1 q_X8_eraseRow.2.2.1, q_X8_eraseRow.2.2.2, by decide +kernel⟩
theorem q_X8_moveLines : Cond.instanceMethod m_X8_moveLines.1 ∈ zGW ∧ Cond.selects RX8 m_X8_moveLines.1 m_X8_moveLines.1 ∈ zGW ∧ Cond.initialized RX8 ∈ zGW ∧ Cond.code m_X8_moveLines.1 m_X8_moveLines.2.1 m_X8_moveLines.2.2.1 m_X8_moveLines.2.2.2 ∈ zGW := ⟨zmem (i := 1140) (by decide +kernel) rfl, zmem (i := 29) (by decide +kernel) rfl, zmem (i := 131) (by decide +kernel) rfl, zmem (i := 1141) (by decide +kernel) rfl⟩
theorem ml_X8_251 : zLV RX8 251 8 2 m_X8_moveLines := ⟨RX8, TX8, 14, rfl, zall4 (zmem (i := 1138) (by decide +kernel) rfl) q_X8_moveLines.1 q_X8_moveLines.2.1 q_X8_moveLines.2.2.1, q_X8_moveLines.2.2.2, by decide +kernel⟩
theorem q_X8_scroll : Cond.instanceMethod m_X8_scroll.1 ∈ zGW ∧ Cond.selects RX8 m_X8_scroll.1 m_X8_scroll.1 ∈ zGW ∧ Cond.initialized RX8 ∈ zGW ∧ Cond.code m_X8_scroll.1 m_X8_scroll.2.1 m_X8_scroll.2.2.1 m_X8_scroll.2.2.2 ∈ zGW := ⟨zmem (i := 1144) (by decide +kernel) rfl, zmem (i := 30) (by decide +kernel) rfl, zmem (i := 131) (by decide +kernel) rfl, zmem (i := 1145) (by decide +kernel) rfl⟩
theorem ml_X8_254 : zLV RX8 254 8 2 m_X8_scroll := ⟨RX8, TX8, 14, rfl, zall4 (zmem (i := 1142) (by decide +kernel) rfl) q_X8_scroll.1 q_X8_scroll.2.1 q_X8_scroll.2.2.1, q_X8_scroll.2.2.2, by decide +kernel⟩
theorem q_X6_delete : Cond.instanceMethod m_X6_delete.1 ∈ zGW ∧ Cond.selects RX6 m_X6_delete.1 m_X6_delete.1 ∈ zGW ∧ Cond.initialized RX6 ∈ zGW ∧ Cond.code m_X6_delete.1 m_X6_delete.2.1 m_X6_delete.2.2.1 m_X6_delete.2.2.2 ∈ zGW := ⟨zmem (i := 1147) (by decide +kernel) rfl, zmem (i := 1148) (by decide +kernel) rfl, zmem (i := 133) (by decide +kernel) rfl, zmem (i := 1149) (by decide +kernel) rfl⟩
theorem ml_X8_257 : zLV RX8 257 6 3 m_X6_delete := ⟨RX6, TX6, 4, rfl, zall4 (zmem (i := 1146) (by decide +kernel) rfl) q_X6_delete.1 q_X6_delete.2.1 q_X6_delete.2.2.1, q_X6_delete.2.2.2, by decide +kernel⟩
theorem q_X8_setRegion : Cond.instanceMethod m_X8_setRegion.1 ∈ zGW ∧ Cond.selects RX8 m_X8_setRegion.1 m_X8_setRegion.1 ∈ zGW ∧ Cond.initialized RX8 ∈ zGW ∧ Cond.code m_X8_setRegion.1 m_X8_setRegion.2.1 m_X8_setRegion.2.2.1 m_X8_setRegion.2.2.2 ∈ zGW := ⟨zmem (i := 1152) (by decide +kernel) rfl, zmem (i := 31) (by decide +kernel) rfl, zmem (i := 131) (by decide +kernel) rfl, zmem (i := 1153) (by decide +kernel) rfl⟩
theorem ml_X8_260 : zLV RX8 260 8 0 m_X8_setRegion := ⟨RX8, TX8, 14, rfl, zall4 (zmem (i := 1150) (by decide +kernel) rfl) q_X8_setRegion.1 q_X8_setRegion.2.1 q_X8_setRegion.2.2.1, q_X8_setRegion.2.2.2, by decide +kernel⟩
theorem q_X8_setAttribute : Cond.instanceMethod m_X8_setAttribute.1 ∈ zGW ∧ Cond.selects RX8 m_X8_setAttribute.1 m_X8_setAttribute.1 ∈ zGW ∧ Cond.initialized RX8 ∈ zGW ∧ Cond.code m_X8_setAttribute.1 m_X8_setAttribute.2.1 m_X8_setAttribute.2.2.1 m_X8_setAttribute.2.2.2 ∈ zGW := ⟨zmem (i := 1156) (by decide +kernel) rfl, zmem (i := 32) (by decide +kernel) rfl, zmem (i := 131) (by decide +kernel) rfl, zmem (i := 1157) (by decide +kernel) rfl⟩
theorem ml_X8_263 : zLV RX8 263 8 0 m_X8_setAttribute := ⟨RX8, TX8, 14, rfl, zall4 (zmem (i := 1154) (by decide +kernel) rfl) q_X8_setAttribute.1 q_X8_setAttribute.2.1 q_X8_setAttribute.2.2.1, q_X8_setAttribute.2.2.2, by decide +kernel⟩
theorem q_X8_clearTabs : Cond.instanceMethod m_X8_clearTabs.1 ∈ zGW ∧ Cond.selects RX8 m_X8_clearTabs.1 m_X8_clearTabs.1 ∈ zGW ∧ Cond.initialized RX8 ∈ zGW ∧ Cond.code m_X8_clearTabs.1 m_X8_clearTabs.2.1 m_X8_clearTabs.2.2.1 m_X8_clearTabs.2.2.2 ∈ zGW := ⟨zmem (i := 1160) (by decide +kernel) rfl, zmem (i := 33) (by decide +kernel) rfl, zmem (i := 131) (by decide +kernel) rfl, zmem (i := 1161) (by decide +kernel) rfl⟩
theorem ml_X8_266 : zLV RX8 266 8 1 m_X8_clearTabs := ⟨RX8, TX8, 14, rfl, zall4 (zmem (i := 1158) (by decide +kernel) rfl) q_X8_clearTabs.1 q_X8_clearTabs.2.1 q_X8_clearTabs.2.2.1, q_X8_clearTabs.2.2.2, by decide +kernel⟩
theorem q_X8_answer : Cond.instanceMethod m_X8_answer.1 ∈ zGW ∧ Cond.selects RX8 m_X8_answer.1 m_X8_answer.1 ∈ zGW ∧ Cond.initialized RX8 ∈ zGW ∧ Cond.code m_X8_answer.1 m_X8_answer.2.1 m_X8_answer.2.2.1 m_X8_answer.2.2.2 ∈ zGW := ⟨zmem (i := 1164) (by decide +kernel) rfl, zmem (i := 34) (by decide +kernel) rfl, zmem (i := 131) (by decide +kernel) rfl, zmem (i := 1165) (by decide +kernel) rfl⟩
theorem ml_X8_269 : zLV RX8 269 8 1 m_X8_answer := ⟨RX8, TX8, 14, rfl, zall4 (zmem (i := 1162) (by decide +kernel) rfl) q_X8_answer.1 q_X8_answer.2.1 q_X8_answer.2.2.1, q_X8_answer.2.2.2, by decide +kernel⟩
theorem q_X8_setInsert : Cond.instanceMethod m_X8_setInsert.1 ∈ zGW ∧ Cond.selects RX8 m_X8_setInsert.1 m_X8_setInsert.1 ∈ zGW ∧ Cond.initialized RX8 ∈ zGW ∧ Cond.code m_X8_setInsert.1 m_X8_setInsert.2.1 m_X8_setInsert.2.2.1 m_X8_setInsert.2.2.2 ∈ zGW := ⟨zmem (i := 1173) (by decide +kernel) rfl, zmem (i := 35) (by decide +kernel) rfl, zmem (i := 131) (by decide +kernel) rfl, zmem (i := 1174) (by decide +kernel) rfl⟩
theorem ml_X8_272 : zLV RX8 272 8 1 m_X8_setInsert := ⟨RX8, TX8, 14, rfl, zall4 (zmem (i := 1171) (by decide +kernel) rfl) q_X8_setInsert.1 q_X8_setInsert.2.1 q_X8_setInsert.2.2.1, q_X8_setInsert.2.2.2, by decide +kernel⟩
theorem ml_X8_278 : zLV RX8 278 1 2 m_X1_goTo := ⟨RX1, TX1, 5, rfl, zall4 (zmem (i := 1124) (by decide +kernel) rfl) q_X1_goTo.1 q_X1_goTo.2.1 q_X1_goTo.2.2.1, q_X1_goTo.2.2.2, by decide +kernel⟩
theorem ml_X8_279 : zLV RX8 279 2 0 m_X2_clear := ⟨RX2, TX2, 3, rfl, zall4 (zmem (i := 1129) (by decide +kernel) rfl) q_X2_clear.1 q_X2_clear.2.1 q_X2_clear.2.2.1, q_X2_clear.2.2.2, by decide +kernel⟩
theorem ml_X8_280 : zLV RX8 280 6 1 m_X6_clearRow := ⟨RX6, TX6, 4, rfl, zall4 (zmem (i := 1133) (by decide +kernel) rfl) q_X6_clearRow.1 q_X6_clearRow.2.1 q_X6_clearRow.2.2.1, q_X6_clearRow.2.2.2, by decide +kernel⟩
theorem ml_X8_285 : zLV RX8 285 0 1 m_X0_add := ⟨RX0, TX0, 3, rfl, zall4 (zmem (i := 1166) (by decide +kernel) rfl) q_X0_add.1 q_X0_add.2.1 q_X0_add.2.2.1, q_X0_add.2.2.2, by decide +kernel⟩
theorem ml_X8_287 : zLV RX8 287 0 1 m_X0_addNumber := ⟨RX0, TX0, 3, rfl, zall4 (zmem (i := 1167) (by decide +kernel) rfl) q_X0_addNumber.1 q_X0_addNumber.2.1 q_X0_addNumber.2.2.1, q_X0_addNumber.2.2.2, by decide +kernel⟩
theorem q_X8_setMarkedMode : Cond.instanceMethod m_X8_setMarkedMode.1 ∈ zGW ∧ Cond.selects RX8 m_X8_setMarkedMode.1 m_X8_setMarkedMode.1 ∈ zGW ∧ Cond.initialized RX8 ∈ zGW ∧ Cond.code m_X8_setMarkedMode.1 m_X8_setMarkedMode.2.1 m_X8_setMarkedMode.2.2.1 m_X8_setMarkedMode.2.2.2 ∈ zGW := ⟨zmem (i := 1181) (by decide +kernel) rfl, zmem (i := 37) (by decide +kernel) rfl, zmem (i := 131) (by decide +kernel) rfl, zmem (i := 1182) (by decide +kernel) rfl⟩
theorem ml_X8_290 : zLV RX8 290 8 2 m_X8_setMarkedMode := ⟨RX8, TX8, 14, rfl, zall4 (zmem (i := 1179) (by decide +kernel) rfl) q_X8_setMarkedMode.1 q_X8_setMarkedMode.2.1 q_X8_setMarkedMode.2.2.1, q_X8_setMarkedMode.2.2.2, by decide +kernel⟩
theorem q_X8_showOther : Cond.instanceMethod m_X8_showOther.1 ∈ zGW ∧ Cond.selects RX8 m_X8_showOther.1 m_X8_showOther.1 ∈ zGW ∧ Cond.initialized RX8 ∈ zGW ∧ Cond.code m_X8_showOther.1 m_X8_showOther.2.1 m_X8_showOther.2.2.1 m_X8_showOther.2.2.2 ∈ zGW := ⟨zmem (i := 1185) (by decide +kernel) rfl, zmem (i := 38) (by decide +kernel) rfl, zmem (i := 131) (by decide +kernel) rfl, zmem (i := 1186) (by decide +kernel) rfl⟩
theorem ml_X8_299 : zLV RX8 299 8 1 m_X8_showOther := ⟨RX8, TX8, 14, rfl, zall4 (zmem (i := 1183) (by decide +kernel) rfl) q_X8_showOther.1 q_X8_showOther.2.1 q_X8_showOther.2.2.1, q_X8_showOther.2.2.2, by decide +kernel⟩
theorem q_X4_wrap : Cond.instanceMethod m_X4_wrap.1 ∈ zGW ∧ Cond.selects RX4 m_X4_wrap.1 m_X4_wrap.1 ∈ zGW ∧ Cond.initialized RX4 ∈ zGW ∧ Cond.code m_X4_wrap.1 m_X4_wrap.2.1 m_X4_wrap.2.2.1 m_X4_wrap.2.2.2 ∈ zGW := ⟨zmem (i := 1444) (by decide +kernel) rfl, zmem (i := 1445) (by decide +kernel) rfl, zmem (i := 132) (by decide +kernel) rfl, zmem (i := 1446) (by decide +kernel) rfl⟩
theorem ml_X8_308 : zLV RX8 308 4 3 m_X4_wrap := ⟨RX4, TX4, 12, rfl, zall4 (zmem (i := 1443) (by decide +kernel) rfl) q_X4_wrap.1 q_X4_wrap.2.1 q_X4_wrap.2.2.1, q_X4_wrap.2.2.2, by decide +kernel⟩
theorem q_X6_cut : Cond.instanceMethod m_X6_cut.1 ∈ zGW ∧ Cond.selects RX6 m_X6_cut.1 m_X6_cut.1 ∈ zGW ∧ Cond.initialized RX6 ∈ zGW ∧ Cond.code m_X6_cut.1 m_X6_cut.2.1 m_X6_cut.2.2.1 m_X6_cut.2.2.2 ∈ zGW := ⟨zmem (i := 1518) (by decide +kernel) rfl, zmem (i := 1519) (by decide +kernel) rfl, zmem (i := 133) (by decide +kernel) rfl, zmem (i := 1520) (by decide +kernel) rfl⟩
theorem ml_X8_312 : zLV RX8 312 6 2 m_X6_cut := ⟨RX6, TX6, 4, rfl, zall4 (zmem (i := 1517) (by decide +kernel) rfl) q_X6_cut.1 q_X6_cut.2.1 q_X6_cut.2.2.1, q_X6_cut.2.2.2, by decide +kernel⟩
theorem ml_X9_26 : zLV RX9 26 6 2 m_X6_begin := ⟨RX6, TX6, 4, rfl, zall4 (zmem (i := 1526) (by decide +kernel) rfl) q_X6_begin.1 q_X6_begin.2.1 q_X6_begin.2.2.1, q_X6_begin.2.2.2, by decide +kernel⟩
theorem ml_X9_30 : zLV RX9 30 6 0 m_X6_columns := ⟨RX6, TX6, 4, rfl, zall4 (zmem (i := 1269) (by decide +kernel) rfl) q_X6_columns.1 q_X6_columns.2.1 q_X6_columns.2.2.1, q_X6_columns.2.2.2, by decide +kernel⟩
theorem q_X9_compare : Cond.instanceMethod m_X9_compare.1 ∈ zGW ∧ Cond.selects RX9 m_X9_compare.1 m_X9_compare.1 ∈ zGW ∧ Cond.initialized RX9 ∈ zGW ∧ Cond.code m_X9_compare.1 m_X9_compare.2.1 m_X9_compare.2.2.1 m_X9_compare.2.2.2 ∈ zGW := ⟨zmem (i := 1275) (by decide +kernel) rfl, zmem (i := 48) (by decide +kernel) rfl, zmem (i := 139) (by decide +kernel) rfl, zmem (i := 1276) (by decide +kernel) rfl⟩
theorem ml_X9_34 : zLV RX9 34 9 2 m_X9_compare := ⟨RX9, TX9, 3, rfl, zall4 (zmem (i := 1273) (by decide +kernel) rfl) q_X9_compare.1 q_X9_compare.2.1 q_X9_compare.2.2.1, q_X9_compare.2.2.2, by decide +kernel⟩
theorem ml_X9_38 : zLV RX9 38 6 1 m_X6_filled := ⟨RX6, TX6, 4, rfl, zall4 (zmem (i := 1278) (by decide +kernel) rfl) q_X6_filled.1 q_X6_filled.2.1 q_X6_filled.2.2.1, q_X6_filled.2.2.2, by decide +kernel⟩
theorem ml_X9_43 : zLV RX9 43 6 2 m_X6_at := ⟨RX6, TX6, 4, rfl, zall4 (zmem (i := 1277) (by decide +kernel) rfl) q_X6_at.1 q_X6_at.2.1 q_X6_at.2.2.1, q_X6_at.2.2.2, by decide +kernel⟩
theorem q_X9_writing : Cond.instanceMethod m_X9_writing.1 ∈ zGW ∧ Cond.selects RX9 m_X9_writing.1 m_X9_writing.1 ∈ zGW ∧ Cond.initialized RX9 ∈ zGW ∧ Cond.code m_X9_writing.1 m_X9_writing.2.1 m_X9_writing.2.2.1 m_X9_writing.2.2.2 ∈ zGW := ⟨zmem (i := 1285) (by decide +kernel) rfl, zmem (i := 49) (by decide +kernel) rfl, zmem (i := 139) (by decide +kernel) rfl, zmem (i := 1286) (by decide +kernel) rfl⟩
theorem ml_X9_47 : zLV RX9 47 9 3 m_X9_writing := ⟨RX9, TX9, 3, rfl, zall4 (zmem (i := 1283) (by decide +kernel) rfl) q_X9_writing.1 q_X9_writing.2.1 q_X9_writing.2.2.1, q_X9_writing.2.2.2, by decide +kernel⟩
theorem q_X9_passing : Cond.instanceMethod m_X9_passing.1 ∈ zGW ∧ Cond.selects RX9 m_X9_passing.1 m_X9_passing.1 ∈ zGW ∧ Cond.initialized RX9 ∈ zGW ∧ Cond.code m_X9_passing.1 m_X9_passing.2.1 m_X9_passing.2.2.1 m_X9_passing.2.2.2 ∈ zGW := ⟨zmem (i := 1298) (by decide +kernel) rfl, zmem (i := 51) (by decide +kernel) rfl, zmem (i := 139) (by decide +kernel) rfl, zmem (i := 1299) (by decide +kernel) rfl⟩
theorem ml_X9_51 : zLV RX9 51 9 4 m_X9_passing := ⟨RX9, TX9, 3, rfl, zall4 (zmem (i := 1296) (by decide +kernel) rfl) q_X9_passing.1 q_X9_passing.2.1 q_X9_passing.2.2.1, q_X9_passing.2.2.2, by decide +kernel⟩
theorem ml_X9_55 : zMn RX9 55 := zall4 (zmem (i := 1304) (by decide +kernel) rfl) (zmem (i := 585) (by decide +kernel) rfl) (zmem (i := 129) (by decide +kernel) rfl) (zmem (i := 586) (by decide +kernel) rfl)
theorem q_X9_keepCosts : Cond.instanceMethod m_X9_keepCosts.1 ∈ zGW ∧ Cond.selects RX9 m_X9_keepCosts.1 m_X9_keepCosts.1 ∈ zGW ∧ Cond.initialized RX9 ∈ zGW ∧ Cond.code m_X9_keepCosts.1 m_X9_keepCosts.2.1 m_X9_keepCosts.2.2.1 m_X9_keepCosts.2.2.2 ∈ zGW := ⟨zmem (i := 1307) (by decide +kernel) rfl, zmem (i := 53) (by decide +kernel) rfl, zmem (i := 139) (by decide +kernel) rfl, zmem (i := 1308) (by decide +kernel) rfl⟩
theorem ml_X9_60 : zLV RX9 60 9 3 m_X9_keepCosts := ⟨RX9, TX9, 3, rfl, zall4 (zmem (i := 1305) (by decide +kernel) rfl) q_X9_keepCosts.1 q_X9_keepCosts.2.1 q_X9_keepCosts.2.2.1, q_X9_keepCosts.2.2.2, by decide +kernel⟩
theorem q_X9_beginning : Cond.instanceMethod m_X9_beginning.1 ∈ zGW ∧ Cond.selects RX9 m_X9_beginning.1 m_X9_beginning.1 ∈ zGW ∧ Cond.initialized RX9 ∈ zGW ∧ Cond.code m_X9_beginning.1 m_X9_beginning.2.1 m_X9_beginning.2.2.1 m_X9_beginning.2.2.2 ∈ zGW := ⟨zmem (i := 1311) (by decide +kernel) rfl, zmem (i := 54) (by decide +kernel) rfl, zmem (i := 139) (by decide +kernel) rfl, zmem (i := 1312) (by decide +kernel) rfl⟩
theorem ml_X9_64 : zLV RX9 64 9 1 m_X9_beginning := ⟨RX9, TX9, 3, rfl, zall4 (zmem (i := 1309) (by decide +kernel) rfl) q_X9_beginning.1 q_X9_beginning.2.1 q_X9_beginning.2.2.1, q_X9_beginning.2.2.2, by decide +kernel⟩
theorem ml_X9_67 : zLSN RX9 67 1 "InputrowConsole" m_X11_isWide := ⟨znest (i := 1287) (by decide +kernel) rfl, zall2 q_X11_isWide.1 q_X11_isWide.2.1, q_X11_isWide.2.2, by decide +kernel⟩
theorem q_X11_attributeOf : Cond.static m_X11_attributeOf.1 ∈ zGW ∧ Cond.initialized m_X11_attributeOf.1.cls ∈ zGW ∧ Cond.code m_X11_attributeOf.1 m_X11_attributeOf.2.1 m_X11_attributeOf.2.2.1 m_X11_attributeOf.2.2.2 ∈ zGW := ⟨zmem (i := 1289) (by decide +kernel) rfl, zmem (i := 127) (by decide +kernel) rfl, zmem (i := 1290) (by decide +kernel) rfl⟩
theorem ml_X9_71 : zLSN RX9 71 1 "InputrowConsole" m_X11_attributeOf := ⟨znest (i := 1288) (by decide +kernel) rfl, zall2 q_X11_attributeOf.1 q_X11_attributeOf.2.1, q_X11_attributeOf.2.2, by decide +kernel⟩
theorem ml_X9_74 : zLSN RX9 74 1 "InputrowConsole" m_X11_marksOf := ⟨znest (i := 1291) (by decide +kernel) rfl, zall2 q_X11_marksOf.1 q_X11_marksOf.2.1, q_X11_marksOf.2.2, by decide +kernel⟩
theorem q_X9_costsFrom : Cond.instanceMethod m_X9_costsFrom.1 ∈ zGW ∧ Cond.selects RX9 m_X9_costsFrom.1 m_X9_costsFrom.1 ∈ zGW ∧ Cond.initialized RX9 ∈ zGW ∧ Cond.code m_X9_costsFrom.1 m_X9_costsFrom.2.1 m_X9_costsFrom.2.2.1 m_X9_costsFrom.2.2.2 ∈ zGW := ⟨zmem (i := 1294) (by decide +kernel) rfl, zmem (i := 50) (by decide +kernel) rfl, zmem (i := 139) (by decide +kernel) rfl, zmem (i := 1295) (by decide +kernel) rfl⟩
theorem ml_X9_77 : zLV RX9 77 9 2 m_X9_costsFrom := ⟨RX9, TX9, 3, rfl, zall4 (zmem (i := 1292) (by decide +kernel) rfl) q_X9_costsFrom.1 q_X9_costsFrom.2.1 q_X9_costsFrom.2.2.1, q_X9_costsFrom.2.2.2, by decide +kernel⟩
theorem q_X9_isLikeAt : Cond.instanceMethod m_X9_isLikeAt.1 ∈ zGW ∧ Cond.selects RX9 m_X9_isLikeAt.1 m_X9_isLikeAt.1 ∈ zGW ∧ Cond.initialized RX9 ∈ zGW ∧ Cond.code m_X9_isLikeAt.1 m_X9_isLikeAt.2.1 m_X9_isLikeAt.2.2.1 m_X9_isLikeAt.2.2.2 ∈ zGW := ⟨zmem (i := 1302) (by decide +kernel) rfl, zmem (i := 52) (by decide +kernel) rfl, zmem (i := 139) (by decide +kernel) rfl, zmem (i := 1303) (by decide +kernel) rfl⟩
theorem ml_X9_80 : zLV RX9 80 9 1 m_X9_isLikeAt := ⟨RX9, TX9, 3, rfl, zall4 (zmem (i := 1300) (by decide +kernel) rfl) q_X9_isLikeAt.1 q_X9_isLikeAt.2.1 q_X9_isLikeAt.2.2.1, q_X9_isLikeAt.2.2.2, by decide +kernel⟩
theorem sb_TByBy_TBy_0 : zSub TByBy TBy (zsh 0) := zSub_of (by decide +kernel) (by decide +kernel)
theorem sb_TByBy_TBy_2 : zSub TByBy TBy (zsh 2) := zSub_of (by decide +kernel) (by decide +kernel)
theorem sb_TCo_TBy_1 : zSub TCo TBy (zsh 1) := zSub_of (by decide +kernel) (by decide +kernel)
theorem sb_TCo_TBy_10 : zSub TCo TBy (zsh 10) := zSub_of (by decide +kernel) (by decide +kernel)
theorem sb_TCo_TBy_29 : zSub TCo TBy (zsh 29) := zSub_of (by decide +kernel) (by decide +kernel)
theorem sb_TCo_TBy_3 : zSub TCo TBy (zsh 3) := zSub_of (by decide +kernel) (by decide +kernel)
theorem sb_TCo_TBy_6 : zSub TCo TBy (zsh 6) := zSub_of (by decide +kernel) (by decide +kernel)
theorem sb_TCo_TBy_8 : zSub TCo TBy (zsh 8) := zSub_of (by decide +kernel) (by decide +kernel)
theorem sb_TCo_THi_19 : zSub TCo THi (zsh 19) := zSub_of (by decide +kernel) (by decide +kernel)
theorem sb_TCo_TLi_5 : zSub TCo TLi (zsh 5) := zSub_of (by decide +kernel) (by decide +kernel)
theorem sb_TCo_TPiPi_71_16 : zSub TCo TPiPi (zsl [71, 72, 73, 16, 17, 18]) := zSub_of (by decide +kernel) (by decide +kernel)
theorem sb_TCo_TPiPi_71_36 : zSub TCo TPiPi (zsl [71, 72, 73, 36, 37, 38]) := zSub_of (by decide +kernel) (by decide +kernel)
theorem sb_TCo_TPi_16 : zSub TCo TPi (zsh 16) := zSub_of (by decide +kernel) (by decide +kernel)
theorem sb_TCo_TPi_36 : zSub TCo TPi (zsh 36) := zSub_of (by decide +kernel) (by decide +kernel)
theorem sb_TCo_TPi_45 : zSub TCo TPi (zsh 45) := zSub_of (by decide +kernel) (by decide +kernel)
theorem sb_TCo_TPi_65 : zSub TCo TPi (zsh 65) := zSub_of (by decide +kernel) (by decide +kernel)
theorem sb_TCo_TSc_14 : zSub TCo TSc (zsh 14) := zSub_of (by decide +kernel) (by decide +kernel)
theorem sb_TCo_TSc_43 : zSub TCo TSc (zsh 43) := zSub_of (by decide +kernel) (by decide +kernel)
theorem sb_TCo_TSlPi_70_16 : zSub TCo TSlPi (zsl [70, 71, 72, 73, 74, 75, 16, 17, 18]) := zSub_of (by decide +kernel) (by decide +kernel)
theorem sb_TCo_TSlPi_70_36 : zSub TCo TSlPi (zsl [70, 71, 72, 73, 74, 75, 36, 37, 38]) := zSub_of (by decide +kernel) (by decide +kernel)
theorem sb_TCo_TTaSc_41 : zSub TCo TTaSc (zsh 41) := zSub_of (by decide +kernel) (by decide +kernel)
theorem sb_THi_TI_1 : zSub THi TI (zsh 1) := zSub_of (by decide +kernel) (by decide +kernel)
theorem sb_TLi_TByBy_5_1 : zSub TLi TByBy (zsl [5, 6, 1, 2]) := zSub_of (by decide +kernel) (by decide +kernel)
theorem sb_TLi_TByBy_7_3 : zSub TLi TByBy (zsl [7, 8, 3, 4]) := zSub_of (by decide +kernel) (by decide +kernel)
theorem sb_TLi_TBy_1 : zSub TLi TBy (zsh 1) := zSub_of (by decide +kernel) (by decide +kernel)
theorem sb_TLi_TBy_3 : zSub TLi TBy (zsh 3) := zSub_of (by decide +kernel) (by decide +kernel)
theorem sb_TLi_TBy_5 : zSub TLi TBy (zsh 5) := zSub_of (by decide +kernel) (by decide +kernel)
theorem sb_TLi_TBy_7 : zSub TLi TBy (zsh 7) := zSub_of (by decide +kernel) (by decide +kernel)
theorem sb_TMaCu_THi_4 : zSub TMaCu THi (zsh 4) := zSub_of (by decide +kernel) (by decide +kernel)
theorem sb_TMaCu_TMa_0 : zSub TMaCu TMa (zsh 0) := zSub_of (by decide +kernel) (by decide +kernel)
theorem sb_TMa_THi_4 : zSub TMa THi (zsh 4) := zSub_of (by decide +kernel) (by decide +kernel)
theorem sb_TMa_TPi_1 : zSub TMa TPi (zsh 1) := zSub_of (by decide +kernel) (by decide +kernel)
theorem sb_TPiPi_TPi_0 : zSub TPiPi TPi (zsh 0) := zSub_of (by decide +kernel) (by decide +kernel)
theorem sb_TPiPi_TPi_3 : zSub TPiPi TPi (zsh 3) := zSub_of (by decide +kernel) (by decide +kernel)
theorem sb_TPi_TI_1 : zSub TPi TI (zsh 1) := zSub_of (by decide +kernel) (by decide +kernel)
theorem sb_TRe_TByBy_1 : zSub TRe TByBy (zsh 1) := zSub_of (by decide +kernel) (by decide +kernel)
theorem sb_TRe_TBy_1 : zSub TRe TBy (zsh 1) := zSub_of (by decide +kernel) (by decide +kernel)
theorem sb_TRe_TBy_3 : zSub TRe TBy (zsh 3) := zSub_of (by decide +kernel) (by decide +kernel)
theorem sb_TSc_TBy_20 : zSub TSc TBy (zsh 20) := zSub_of (by decide +kernel) (by decide +kernel)
theorem sb_TSc_TCuCu_12_25 : zSub TSc TCuCu (zsl [12, 25]) := zSub_of (by decide +kernel) (by decide +kernel)
theorem sb_TSc_TCuCu_25_12 : zSub TSc TCuCu (zsl [25, 12]) := zSub_of (by decide +kernel) (by decide +kernel)
theorem sb_TSc_TCu_12 : zSub TSc TCu (zsh 12) := zSub_of (by decide +kernel) (by decide +kernel)
theorem sb_TSc_TCu_25 : zSub TSc TCu (zsh 25) := zSub_of (by decide +kernel) (by decide +kernel)
theorem sb_TSc_THi_5 : zSub TSc THi (zsh 5) := zSub_of (by decide +kernel) (by decide +kernel)
theorem sb_TSc_TMaCu_1 : zSub TSc TMaCu (zsh 1) := zSub_of (by decide +kernel) (by decide +kernel)
theorem sb_TSc_TMaCu_1_25 : zSub TSc TMaCu (zsl [1, 2, 3, 4, 5, 6, 7, 8, 9, 10, 11, 25]) := zSub_of (by decide +kernel) (by decide +kernel)
theorem sb_TSc_TMd_13 : zSub TSc TMd (zsh 13) := zSub_of (by decide +kernel) (by decide +kernel)
theorem sb_TSc_TPi_2 : zSub TSc TPi (zsh 2) := zSub_of (by decide +kernel) (by decide +kernel)
theorem sb_TSc_TPi_22 : zSub TSc TPi (zsh 22) := zSub_of (by decide +kernel) (by decide +kernel)
theorem sb_TSc_TRe_14 : zSub TSc TRe (zsh 14) := zSub_of (by decide +kernel) (by decide +kernel)
theorem sb_TSlPi_TPi_1 : zSub TSlPi TPi (zsh 1) := zSub_of (by decide +kernel) (by decide +kernel)
theorem sb_TSlPi_TPi_6 : zSub TSlPi TPi (zsh 6) := zSub_of (by decide +kernel) (by decide +kernel)
theorem sb_TSlPi_TSl_0 : zSub TSlPi TSl (zsh 0) := zSub_of (by decide +kernel) (by decide +kernel)
theorem sb_TSl_TPi_1 : zSub TSl TPi (zsh 1) := zSub_of (by decide +kernel) (by decide +kernel)
theorem sb_TTaSc_TSc_2 : zSub TTaSc TSc (zsh 2) := zSub_of (by decide +kernel) (by decide +kernel)
