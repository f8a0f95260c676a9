/-! the methods by their numbers -/
abbrev A_Desk_init : Nat := 0
abbrev A_Row_init : Nat := 1
abbrev A_Tree_init : Nat := 2
abbrev A_Win_init : Nat := 3
abbrev A_Scr_init : Nat := 4
abbrev A_Kept_init : Nat := 5
abbrev A_Mod_init : Nat := 6
abbrev A_Row_clear : Nat := 7
abbrev A_Tree_clear : Nat := 8
abbrev A_Arr_fill : Nat := 9
abbrev A_Desk_screen : Nat := 10
abbrev A_Desk_gone : Nat := 11
abbrev A_Desk_open : Nat := 12
abbrev A_Desk_close : Nat := 13
abbrev A_Desk_focus : Nat := 14
abbrev A_Desk_back : Nat := 15
abbrev A_Desk_toward : Nat := 16
abbrev A_Desk_steps : Nat := 17
abbrev A_Desk_drag : Nat := 18
abbrev A_Desk_move : Nat := 19
abbrev A_Desk_share : Nat := 20
abbrev A_Desk_area : Nat := 21
abbrev A_Desk_about : Nat := 22
abbrev A_Desk_isOf : Nat := 23
abbrev A_Desk_at : Nat := 24
abbrev A_Desk_neighbour : Nat := 25
abbrev A_Desk_told : Nat := 26
abbrev A_Desk_tab : Nat := 27
abbrev A_Desk_count : Nat := 28
abbrev A_Desk_isScreen : Nat := 29
abbrev A_Desk_isScreenSize : Nat := 30
abbrev A_Desk_isWindowSize : Nat := 31
abbrev A_Desk_isSide : Nat := 32
abbrev A_Desk_isAxis : Nat := 33
abbrev A_Desk_isPlace : Nat := 34
abbrev A_Desk_isWindow : Nat := 35
abbrev A_Desk_isShownTile : Nat := 36
abbrev A_Desk_leastScreenBut : Nat := 37
abbrev A_Desk_screenAtHand : Nat := 38
abbrev A_Desk_screensThere : Nat := 39
abbrev A_Desk_screensWithKept : Nat := 40
abbrev A_Desk_windowsUnder : Nat := 41
abbrev A_Desk_leastFreeNumber : Nat := 42
abbrev A_Desk_bringBack : Nat := 43
abbrev A_Row_size : Nat := 44
abbrev A_Row_get : Nat := 45
abbrev A_Scr_setSize : Nat := 46
abbrev A_Kept_forget : Nat := 47
abbrev A_Win_fallsUnder : Nat := 48
abbrev A_Mod_screen : Nat := 49
abbrev A_Mod_gone : Nat := 50
abbrev A_Mod_open : Nat := 51
abbrev A_Mod_close : Nat := 52
abbrev A_Mod_focus : Nat := 53
abbrev A_Mod_back : Nat := 54
abbrev A_Mod_toward : Nat := 55
abbrev A_Mod_steps : Nat := 56
abbrev A_Mod_drag : Nat := 57
abbrev A_Mod_move : Nat := 58
abbrev A_Mod_share : Nat := 59
abbrev A_Mod_area : Nat := 60
abbrev A_Mod_about : Nat := 61
abbrev A_Mod_isOf : Nat := 62
abbrev A_Mod_at : Nat := 63
abbrev A_Mod_neighbour : Nat := 64
abbrev A_Mod_told : Nat := 65
abbrev A_Mod_tab : Nat := 66
abbrev A_Mod_count : Nat := 67
abbrev A_Mod_isIn : Nat := 68
abbrev A_Mod_isWindow : Nat := 69
abbrev A_Mod_spot : Nat := 70
abbrev A_Mod_clearTree : Nat := 71
abbrev A_Mod_screenAtHand : Nat := 72
abbrev A_Mod_freeNumber : Nat := 73
abbrev A_Kept_has : Nat := 74
abbrev A_Kept_keepPlace : Nat := 75
abbrev A_Row_placeOf : Nat := 76
abbrev A_Row_append : Nat := 77
abbrev A_Row_takeOut : Nat := 78
abbrev A_Row_putLast : Nat := 79
abbrev A_Row_putFirst : Nat := 80
abbrev A_Row_copyFrom : Nat := 81
abbrev A_Tree_copyFrom : Nat := 82
abbrev A_Tree_leafOf : Nat := 83
abbrev A_Tree_isShown : Nat := 84
abbrev A_Tree_leaves : Nat := 85
abbrev A_Tree_cuts : Nat := 86
abbrev A_Tree_leafNumber : Nat := 87
abbrev A_Tree_shownIn : Nat := 88
abbrev A_Tree_tabsIn : Nat := 89
abbrev A_Tree_tabIn : Nat := 90
abbrev A_Tree_leastOf : Nat := 91
abbrev A_Tree_fits : Nat := 92
abbrev A_Tree_nearestCut : Nat := 93
abbrev A_Tree_changeShare : Nat := 94
abbrev A_Tree_show : Nat := 95
abbrev A_Tree_addTab : Nat := 96
abbrev A_Tree_addAllTabs : Nat := 97
abbrev A_Tree_cutLeaf : Nat := 98
abbrev A_Tree_takeOut : Nat := 99
abbrev A_Tree_nextShown : Nat := 100
abbrev A_Tree_dropLeaf : Nat := 101
abbrev A_Tree_putInPlaceOf : Nat := 102
abbrev A_Tree_enter : Nat := 103
abbrev A_Tree_newNode : Nat := 104
abbrev A_Tree_settle : Nat := 105
abbrev A_Tree_listNodes : Nat := 106
abbrev A_Tree_measureLeaves : Nat := 107
abbrev A_Tree_measureCuts : Nat := 108
abbrev A_Tree_lay : Nat := 109
abbrev A_Tree_divide : Nat := 110
abbrev A_Tree_firstPart : Nat := 111
abbrev A_Tree_isWide : Nat := 112
abbrev A_Tree_startOf : Nat := 113
abbrev A_Tree_lengthOf : Nat := 114
abbrev A_Tree_endOf : Nat := 115
abbrev A_Tree_shownAt : Nat := 116
abbrev A_Tree_spans : Nat := 117
abbrev A_Tree_neighbourTo : Nat := 118
abbrev A_Tree_meets : Nat := 119
abbrev A_Tree_commonBorder : Nat := 120
abbrev A_Win_prepare : Nat := 121
abbrev A_Win_isTiled : Nat := 122
abbrev A_Win_isFloating : Nat := 123
abbrev A_Win_isSticky : Nat := 124
abbrev A_Win_isOn : Nat := 125
abbrev A_Win_isLooseOn : Nat := 126
abbrev A_Win_canBeWhole : Nat := 127
abbrev A_Win_nearest : Nat := 128
abbrev A_Win_putAt : Nat := 129
abbrev A_Win_sendTo : Nat := 130
abbrev A_Win_coversPoint : Nat := 131
abbrev A_Win_spans : Nat := 132
abbrev A_Desk_between : Nat := 133
abbrev A_Desk_looseOnes : Nat := 134
abbrev A_Desk_windowsOn : Nat := 135
abbrev A_Desk_looseOnesFit : Nat := 136
abbrev A_Desk_sendAll : Nat := 137
abbrev A_Desk_treeOf : Nat := 138
abbrev A_Desk_layTrees : Nat := 139
abbrev A_Desk_startOf : Nat := 140
abbrev A_Desk_lengthOf : Nat := 141
abbrev A_Desk_findRoom : Nat := 142
abbrev A_Desk_middleOf : Nat := 143
abbrev A_Desk_tile : Nat := 144
abbrev A_Desk_leafAtHand : Nat := 145
abbrev A_Desk_tryCut : Nat := 146
abbrev A_Desk_tryTab : Nat := 147
abbrev A_Desk_end : Nat := 148
abbrev A_Desk_giveFocus : Nat := 149
abbrev A_Desk_raise : Nat := 150
abbrev A_Desk_dialogsOf : Nat := 151
abbrev A_Desk_lowestDialogOf : Nat := 152
abbrev A_Desk_reachFrom : Nat := 153
abbrev A_Desk_tryDrag : Nat := 154
abbrev A_Desk_axisOf : Nat := 155
abbrev A_Desk_isAfter : Nat := 156
abbrev A_Desk_gatherWithDialogs : Nat := 157
abbrev A_Desk_gatherDialogs : Nat := 158
abbrev A_Desk_groupCanBeWhole : Nat := 159
abbrev A_Desk_sendGroup : Nat := 160
abbrev A_Desk_keepAll : Nat := 161
abbrev A_Desk_forgetKeptWith : Nat := 162
abbrev A_Desk_takeBack : Nat := 163
abbrev A_Desk_forgetKeptWithGroup : Nat := 164
abbrev A_Mod_half : Nat := 165
abbrev A_Mod_nearest : Nat := 166
abbrev A_Mod_isFloating : Nat := 167
abbrev A_Mod_copyTree : Nat := 168
abbrev A_Mod_newNode : Nat := 169
abbrev A_Mod_newLeaf : Nat := 170
abbrev A_Mod_addTab : Nat := 171
abbrev A_Mod_placeOfTab : Nat := 172
abbrev A_Mod_leafOf : Nat := 173
abbrev A_Mod_above : Nat := 174
abbrev A_Mod_stand : Nat := 175
abbrev A_Mod_leave : Nat := 176
abbrev A_Mod_cutLeaf : Nat := 177
abbrev A_Mod_least : Nat := 178
abbrev A_Mod_fits : Nat := 179
abbrev A_Mod_lay : Nat := 180
abbrev A_Mod_layAll : Nat := 181
abbrev A_Mod_canBeWhole : Nat := 182
abbrev A_Mod_putAt : Nat := 183
abbrev A_Mod_isOnScreen : Nat := 184
abbrev A_Mod_unstack : Nat := 185
abbrev A_Mod_raise : Nat := 186
abbrev A_Mod_front : Nat := 187
abbrev A_Mod_focused : Nat := 188
abbrev A_Mod_forget : Nat := 189
abbrev A_Mod_spread : Nat := 190
abbrev A_Mod_comesBack : Nat := 191
abbrev A_Mod_bring : Nat := 192
abbrev A_Mod_clearLeaves : Nat := 193
abbrev A_Mod_findLeaves : Nat := 194
abbrev A_Mod_moveTabs : Nat := 195
abbrev A_Mod_tile : Nat := 196
abbrev A_Mod_takesTrial : Nat := 197
abbrev A_Mod_closed : Nat := 198
abbrev A_Mod_isShown : Nat := 199
abbrev A_Mod_common : Nat := 200
abbrev A_Mod_neighbourOf : Nat := 201
abbrev A_Mod_areaOf : Nat := 202
abbrev A_Mod_placeIn : Nat := 203
abbrev A_Mod_lies : Nat := 204
abbrev A_Math_floorDiv : Nat := 205
abbrev A_Math_max : Nat := 206
abbrev A_Math_min : Nat := 207
set_option maxRecDepth 100000 in
theorem zq_Desk_init : zi_ms[0]? = some (yX5_init, cX5_init, 2, none, zc_X5_init, 400, 8000) := rfl
set_option maxRecDepth 100000 in
theorem zq_Row_init : zi_ms[1]? = some (yX1_init, cX1_init, 1, none, zc_X1_init, 1, 10) := rfl
set_option maxRecDepth 100000 in
theorem zq_Tree_init : zi_ms[2]? = some (yX3_init, cX3_init, 1, none, zc_X3_init, 30, 600) := rfl
set_option maxRecDepth 100000 in
theorem zq_Win_init : zi_ms[3]? = some (yX4_init, cX4_init, 1, none, zc_X4_init, 2, 4) := rfl
set_option maxRecDepth 100000 in
theorem zq_Scr_init : zi_ms[4]? = some (yX2_init, cX2_init, 1, none, zc_X2_init, 80, 1600) := rfl
set_option maxRecDepth 100000 in
theorem zq_Kept_init : zi_ms[5]? = some (yX0_init, cX0_init, 1, none, zc_X0_init, 40, 800) := rfl
set_option maxRecDepth 100000 in
theorem zq_Mod_init : zi_ms[6]? = some (yX6_init, cX6_init, 2, none, zc_X6_init, 40, 4000) := rfl
set_option maxRecDepth 100000 in
theorem zq_Row_clear : zi_ms[7]? = some (yX1_clear, cX1_clear, 1, none, zc_X1_clear, 0, 0) := rfl
set_option maxRecDepth 100000 in
theorem zq_Tree_clear : zi_ms[8]? = some (yX3_clear, cX3_clear, 1, none, zc_X3_clear, 0, 0) := rfl
set_option maxRecDepth 100000 in
theorem zq_Arr_fill : zi_ms[9]? = some (yJ7_fill_53178, cJ7_fill_53178, 4, none, zc_J7_fill_53178, 0, 0) := rfl
set_option maxRecDepth 100000 in
theorem zq_Desk_screen : zi_ms[10]? = some (yX5_screen, cX5_screen, 6, (some FieldType.int), zc_X5_screen, 0, 0) := rfl
set_option maxRecDepth 100000 in
theorem zq_Desk_gone : zi_ms[11]? = some (yX5_gone, cX5_gone, 5, (some FieldType.int), zc_X5_gone, 0, 0) := rfl
set_option maxRecDepth 100000 in
theorem zq_Desk_open : zi_ms[12]? = some (yX5_open, cX5_open, 8, (some FieldType.int), zc_X5_open, 0, 0) := rfl
set_option maxRecDepth 100000 in
theorem zq_Desk_close : zi_ms[13]? = some (yX5_close, cX5_close, 4, (some FieldType.int), zc_X5_close, 0, 0) := rfl
set_option maxRecDepth 100000 in
theorem zq_Desk_focus : zi_ms[14]? = some (yX5_focus, cX5_focus, 3, (some FieldType.int), zc_X5_focus, 0, 0) := rfl
set_option maxRecDepth 100000 in
theorem zq_Desk_back : zi_ms[15]? = some (yX5_back, cX5_back, 2, (some FieldType.int), zc_X5_back, 0, 0) := rfl
set_option maxRecDepth 100000 in
theorem zq_Desk_toward : zi_ms[16]? = some (yX5_toward, cX5_toward, 4, (some FieldType.int), zc_X5_toward, 0, 0) := rfl
set_option maxRecDepth 100000 in
theorem zq_Desk_steps : zi_ms[17]? = some (yX5_steps, cX5_steps, 4, (some FieldType.int), zc_X5_steps, 0, 0) := rfl
set_option maxRecDepth 100000 in
theorem zq_Desk_drag : zi_ms[18]? = some (yX5_drag, cX5_drag, 6, (some FieldType.int), zc_X5_drag, 0, 0) := rfl
set_option maxRecDepth 100000 in
theorem zq_Desk_move : zi_ms[19]? = some (yX5_move, cX5_move, 5, (some FieldType.int), zc_X5_move, 0, 0) := rfl
set_option maxRecDepth 100000 in
theorem zq_Desk_share : zi_ms[20]? = some (yX5_share, cX5_share, 6, (some FieldType.int), zc_X5_share, 0, 0) := rfl
set_option maxRecDepth 100000 in
theorem zq_Desk_area : zi_ms[21]? = some (yX5_area, cX5_area, 3, (some FieldType.int), zc_X5_area, 0, 0) := rfl
set_option maxRecDepth 100000 in
theorem zq_Desk_about : zi_ms[22]? = some (yX5_about, cX5_about, 4, (some FieldType.int), zc_X5_about, 0, 0) := rfl
set_option maxRecDepth 100000 in
theorem zq_Desk_isOf : zi_ms[23]? = some (yX5_isOf, cX5_isOf, 3, (some FieldType.int), zc_X5_isOf, 0, 0) := rfl
set_option maxRecDepth 100000 in
theorem zq_Desk_at : zi_ms[24]? = some (yX5_at, cX5_at, 6, (some FieldType.int), zc_X5_at, 0, 0) := rfl
set_option maxRecDepth 100000 in
theorem zq_Desk_neighbour : zi_ms[25]? = some (yX5_neighbour, cX5_neighbour, 3, (some FieldType.int), zc_X5_neighbour, 0, 0) := rfl
set_option maxRecDepth 100000 in
theorem zq_Desk_told : zi_ms[26]? = some (yX5_told, cX5_told, 4, (some FieldType.int), zc_X5_told, 0, 0) := rfl
set_option maxRecDepth 100000 in
theorem zq_Desk_tab : zi_ms[27]? = some (yX5_tab, cX5_tab, 6, (some FieldType.int), zc_X5_tab, 0, 0) := rfl
set_option maxRecDepth 100000 in
theorem zq_Desk_count : zi_ms[28]? = some (yX5_count, cX5_count, 2, (some FieldType.int), zc_X5_count, 0, 0) := rfl
set_option maxRecDepth 100000 in
theorem zq_Desk_isScreen : zi_ms[29]? = some (yX5_isScreen, cX5_isScreen, 1, (some FieldType.boolean), zc_X5_isScreen, 0, 0) := rfl
set_option maxRecDepth 100000 in
theorem zq_Desk_isScreenSize : zi_ms[30]? = some (yX5_isScreenSize, cX5_isScreenSize, 1, (some FieldType.boolean), zc_X5_isScreenSize, 0, 0) := rfl
set_option maxRecDepth 100000 in
theorem zq_Desk_isWindowSize : zi_ms[31]? = some (yX5_isWindowSize, cX5_isWindowSize, 1, (some FieldType.boolean), zc_X5_isWindowSize, 0, 0) := rfl
set_option maxRecDepth 100000 in
theorem zq_Desk_isSide : zi_ms[32]? = some (yX5_isSide, cX5_isSide, 1, (some FieldType.boolean), zc_X5_isSide, 0, 0) := rfl
set_option maxRecDepth 100000 in
theorem zq_Desk_isAxis : zi_ms[33]? = some (yX5_isAxis, cX5_isAxis, 1, (some FieldType.boolean), zc_X5_isAxis, 0, 0) := rfl
set_option maxRecDepth 100000 in
theorem zq_Desk_isPlace : zi_ms[34]? = some (yX5_isPlace, cX5_isPlace, 1, (some FieldType.boolean), zc_X5_isPlace, 0, 0) := rfl
set_option maxRecDepth 100000 in
theorem zq_Desk_isWindow : zi_ms[35]? = some (yX5_isWindow, cX5_isWindow, 2, (some FieldType.boolean), zc_X5_isWindow, 0, 0) := rfl
set_option maxRecDepth 100000 in
theorem zq_Desk_isShownTile : zi_ms[36]? = some (yX5_isShownTile, cX5_isShownTile, 2, (some FieldType.boolean), zc_X5_isShownTile, 0, 0) := rfl
set_option maxRecDepth 100000 in
theorem zq_Desk_leastScreenBut : zi_ms[37]? = some (yX5_leastScreenBut, cX5_leastScreenBut, 3, (some FieldType.int), zc_X5_leastScreenBut, 0, 0) := rfl
set_option maxRecDepth 100000 in
theorem zq_Desk_screenAtHand : zi_ms[38]? = some (yX5_screenAtHand, cX5_screenAtHand, 3, (some FieldType.int), zc_X5_screenAtHand, 0, 0) := rfl
set_option maxRecDepth 100000 in
theorem zq_Desk_screensThere : zi_ms[39]? = some (yX5_screensThere, cX5_screensThere, 3, (some FieldType.int), zc_X5_screensThere, 0, 0) := rfl
set_option maxRecDepth 100000 in
theorem zq_Desk_screensWithKept : zi_ms[40]? = some (yX5_screensWithKept, cX5_screensWithKept, 3, (some FieldType.int), zc_X5_screensWithKept, 0, 0) := rfl
set_option maxRecDepth 100000 in
theorem zq_Desk_windowsUnder : zi_ms[41]? = some (yX5_windowsUnder, cX5_windowsUnder, 4, (some FieldType.int), zc_X5_windowsUnder, 0, 0) := rfl
set_option maxRecDepth 100000 in
theorem zq_Desk_leastFreeNumber : zi_ms[42]? = some (yX5_leastFreeNumber, cX5_leastFreeNumber, 2, (some FieldType.int), zc_X5_leastFreeNumber, 0, 0) := rfl
set_option maxRecDepth 100000 in
theorem zq_Desk_bringBack : zi_ms[43]? = some (yX5_bringBack, cX5_bringBack, 5, (some FieldType.int), zc_X5_bringBack, 0, 0) := rfl
set_option maxRecDepth 100000 in
theorem zq_Row_size : zi_ms[44]? = some (yX1_size, cX1_size, 1, (some FieldType.int), zc_X1_size, 0, 0) := rfl
set_option maxRecDepth 100000 in
theorem zq_Row_get : zi_ms[45]? = some (yX1_get, cX1_get, 2, (some FieldType.int), zc_X1_get, 0, 0) := rfl
set_option maxRecDepth 100000 in
theorem zq_Scr_setSize : zi_ms[46]? = some (yX2_setSize, cX2_setSize, 2, none, zc_X2_setSize, 0, 0) := rfl
set_option maxRecDepth 100000 in
theorem zq_Kept_forget : zi_ms[47]? = some (yX0_forget, cX0_forget, 1, none, zc_X0_forget, 0, 0) := rfl
set_option maxRecDepth 100000 in
theorem zq_Win_fallsUnder : zi_ms[48]? = some (yX4_fallsUnder, cX4_fallsUnder, 3, (some FieldType.boolean), zc_X4_fallsUnder, 0, 0) := rfl
set_option maxRecDepth 100000 in
theorem zq_Mod_screen : zi_ms[49]? = some (yX6_screen, cX6_screen, 6, (some FieldType.int), zc_X6_screen, 0, 0) := rfl
set_option maxRecDepth 100000 in
theorem zq_Mod_gone : zi_ms[50]? = some (yX6_gone, cX6_gone, 7, (some FieldType.int), zc_X6_gone, 0, 0) := rfl
set_option maxRecDepth 100000 in
theorem zq_Mod_open : zi_ms[51]? = some (yX6_open, cX6_open, 10, (some FieldType.int), zc_X6_open, 0, 0) := rfl
set_option maxRecDepth 100000 in
theorem zq_Mod_close : zi_ms[52]? = some (yX6_close, cX6_close, 2, (some FieldType.int), zc_X6_close, 0, 0) := rfl
set_option maxRecDepth 100000 in
theorem zq_Mod_focus : zi_ms[53]? = some (yX6_focus, cX6_focus, 3, (some FieldType.int), zc_X6_focus, 0, 0) := rfl
set_option maxRecDepth 100000 in
theorem zq_Mod_back : zi_ms[54]? = some (yX6_back, cX6_back, 2, (some FieldType.int), zc_X6_back, 0, 0) := rfl
set_option maxRecDepth 100000 in
theorem zq_Mod_toward : zi_ms[55]? = some (yX6_toward, cX6_toward, 3, (some FieldType.int), zc_X6_toward, 0, 0) := rfl
set_option maxRecDepth 100000 in
theorem zq_Mod_steps : zi_ms[56]? = some (yX6_steps, cX6_steps, 7, (some FieldType.int), zc_X6_steps, 0, 0) := rfl
set_option maxRecDepth 100000 in
theorem zq_Mod_drag : zi_ms[57]? = some (yX6_drag, cX6_drag, 9, (some FieldType.int), zc_X6_drag, 0, 0) := rfl
set_option maxRecDepth 100000 in
theorem zq_Mod_move : zi_ms[58]? = some (yX6_move, cX6_move, 4, (some FieldType.int), zc_X6_move, 0, 0) := rfl
set_option maxRecDepth 100000 in
theorem zq_Mod_share : zi_ms[59]? = some (yX6_share, cX6_share, 7, (some FieldType.int), zc_X6_share, 0, 0) := rfl
set_option maxRecDepth 100000 in
theorem zq_Mod_area : zi_ms[60]? = some (yX6_area, cX6_area, 3, (some FieldType.int), zc_X6_area, 0, 0) := rfl
set_option maxRecDepth 100000 in
theorem zq_Mod_about : zi_ms[61]? = some (yX6_about, cX6_about, 3, (some FieldType.int), zc_X6_about, 0, 0) := rfl
set_option maxRecDepth 100000 in
theorem zq_Mod_isOf : zi_ms[62]? = some (yX6_isOf, cX6_isOf, 3, (some FieldType.int), zc_X6_isOf, 0, 0) := rfl
set_option maxRecDepth 100000 in
theorem zq_Mod_at : zi_ms[63]? = some (yX6_at, cX6_at, 6, (some FieldType.int), zc_X6_at, 0, 0) := rfl
set_option maxRecDepth 100000 in
theorem zq_Mod_neighbour : zi_ms[64]? = some (yX6_neighbour, cX6_neighbour, 4, (some FieldType.int), zc_X6_neighbour, 0, 0) := rfl
set_option maxRecDepth 100000 in
theorem zq_Mod_told : zi_ms[65]? = some (yX6_told, cX6_told, 5, (some FieldType.int), zc_X6_told, 0, 0) := rfl
set_option maxRecDepth 100000 in
theorem zq_Mod_tab : zi_ms[66]? = some (yX6_tab, cX6_tab, 5, (some FieldType.int), zc_X6_tab, 0, 0) := rfl
set_option maxRecDepth 100000 in
theorem zq_Mod_count : zi_ms[67]? = some (yX6_count, cX6_count, 4, (some FieldType.int), zc_X6_count, 0, 0) := rfl
set_option maxRecDepth 100000 in
theorem zq_Mod_isIn : zi_ms[68]? = some (yX6_isIn, cX6_isIn, 3, (some FieldType.boolean), zc_X6_isIn, 0, 0) := rfl
set_option maxRecDepth 100000 in
theorem zq_Mod_isWindow : zi_ms[69]? = some (yX6_isWindow, cX6_isWindow, 2, (some FieldType.boolean), zc_X6_isWindow, 0, 0) := rfl
set_option maxRecDepth 100000 in
theorem zq_Mod_spot : zi_ms[70]? = some (yX6_spot, cX6_spot, 2, (some FieldType.int), zc_X6_spot, 0, 0) := rfl
set_option maxRecDepth 100000 in
theorem zq_Mod_clearTree : zi_ms[71]? = some (yX6_clearTree, cX6_clearTree, 3, none, zc_X6_clearTree, 0, 0) := rfl
set_option maxRecDepth 100000 in
theorem zq_Mod_screenAtHand : zi_ms[72]? = some (yX6_screenAtHand, cX6_screenAtHand, 2, (some FieldType.int), zc_X6_screenAtHand, 0, 0) := rfl
set_option maxRecDepth 100000 in
theorem zq_Mod_freeNumber : zi_ms[73]? = some (yX6_freeNumber, cX6_freeNumber, 2, (some FieldType.int), zc_X6_freeNumber, 0, 0) := rfl
set_option maxRecDepth 100000 in
theorem zq_Kept_has : zi_ms[74]? = some (yX0_has, cX0_has, 2, (some FieldType.boolean), zc_X0_has, 0, 0) := rfl
set_option maxRecDepth 100000 in
theorem zq_Kept_keepPlace : zi_ms[75]? = some (yX0_keepPlace, cX0_keepPlace, 4, none, zc_X0_keepPlace, 0, 0) := rfl
set_option maxRecDepth 100000 in
theorem zq_Row_placeOf : zi_ms[76]? = some (yX1_placeOf, cX1_placeOf, 3, (some FieldType.int), zc_X1_placeOf, 0, 0) := rfl
set_option maxRecDepth 100000 in
theorem zq_Row_append : zi_ms[77]? = some (yX1_append, cX1_append, 2, none, zc_X1_append, 0, 0) := rfl
set_option maxRecDepth 100000 in
theorem zq_Row_takeOut : zi_ms[78]? = some (yX1_takeOut, cX1_takeOut, 4, none, zc_X1_takeOut, 0, 0) := rfl
set_option maxRecDepth 100000 in
theorem zq_Row_putLast : zi_ms[79]? = some (yX1_putLast, cX1_putLast, 2, none, zc_X1_putLast, 0, 0) := rfl
set_option maxRecDepth 100000 in
theorem zq_Row_putFirst : zi_ms[80]? = some (yX1_putFirst, cX1_putFirst, 3, none, zc_X1_putFirst, 0, 0) := rfl
set_option maxRecDepth 100000 in
theorem zq_Row_copyFrom : zi_ms[81]? = some (yX1_copyFrom, cX1_copyFrom, 2, none, zc_X1_copyFrom, 0, 0) := rfl
set_option maxRecDepth 100000 in
theorem zq_Tree_copyFrom : zi_ms[82]? = some (yX3_copyFrom, cX3_copyFrom, 3, none, zc_X3_copyFrom, 0, 0) := rfl
set_option maxRecDepth 100000 in
theorem zq_Tree_leafOf : zi_ms[83]? = some (yX3_leafOf, cX3_leafOf, 2, (some FieldType.int), zc_X3_leafOf, 0, 0) := rfl
set_option maxRecDepth 100000 in
theorem zq_Tree_isShown : zi_ms[84]? = some (yX3_isShown, cX3_isShown, 3, (some FieldType.boolean), zc_X3_isShown, 0, 0) := rfl
set_option maxRecDepth 100000 in
theorem zq_Tree_leaves : zi_ms[85]? = some (yX3_leaves, cX3_leaves, 1, (some FieldType.int), zc_X3_leaves, 0, 0) := rfl
set_option maxRecDepth 100000 in
theorem zq_Tree_cuts : zi_ms[86]? = some (yX3_cuts, cX3_cuts, 1, (some FieldType.int), zc_X3_cuts, 0, 0) := rfl
set_option maxRecDepth 100000 in
theorem zq_Tree_leafNumber : zi_ms[87]? = some (yX3_leafNumber, cX3_leafNumber, 4, (some FieldType.int), zc_X3_leafNumber, 0, 0) := rfl
set_option maxRecDepth 100000 in
theorem zq_Tree_shownIn : zi_ms[88]? = some (yX3_shownIn, cX3_shownIn, 2, (some FieldType.int), zc_X3_shownIn, 0, 0) := rfl
set_option maxRecDepth 100000 in
theorem zq_Tree_tabsIn : zi_ms[89]? = some (yX3_tabsIn, cX3_tabsIn, 4, (some FieldType.int), zc_X3_tabsIn, 0, 0) := rfl
set_option maxRecDepth 100000 in
theorem zq_Tree_tabIn : zi_ms[90]? = some (yX3_tabIn, cX3_tabIn, 5, (some FieldType.int), zc_X3_tabIn, 0, 0) := rfl
set_option maxRecDepth 100000 in
theorem zq_Tree_leastOf : zi_ms[91]? = some (yX3_leastOf, cX3_leastOf, 2, (some FieldType.int), zc_X3_leastOf, 0, 0) := rfl
set_option maxRecDepth 100000 in
theorem zq_Tree_fits : zi_ms[92]? = some (yX3_fits, cX3_fits, 2, (some FieldType.boolean), zc_X3_fits, 0, 0) := rfl
set_option maxRecDepth 100000 in
theorem zq_Tree_nearestCut : zi_ms[93]? = some (yX3_nearestCut, cX3_nearestCut, 5, (some FieldType.int), zc_X3_nearestCut, 0, 0) := rfl
set_option maxRecDepth 100000 in
theorem zq_Tree_changeShare : zi_ms[94]? = some (yX3_changeShare, cX3_changeShare, 4, (some FieldType.int), zc_X3_changeShare, 0, 0) := rfl
set_option maxRecDepth 100000 in
theorem zq_Tree_show : zi_ms[95]? = some (yX3_show, cX3_show, 3, none, zc_X3_show, 0, 0) := rfl
set_option maxRecDepth 100000 in
theorem zq_Tree_addTab : zi_ms[96]? = some (yX3_addTab, cX3_addTab, 6, none, zc_X3_addTab, 0, 0) := rfl
set_option maxRecDepth 100000 in
theorem zq_Tree_addAllTabs : zi_ms[97]? = some (yX3_addAllTabs, cX3_addAllTabs, 6, none, zc_X3_addAllTabs, 0, 0) := rfl
set_option maxRecDepth 100000 in
theorem zq_Tree_cutLeaf : zi_ms[98]? = some (yX3_cutLeaf, cX3_cutLeaf, 9, none, zc_X3_cutLeaf, 0, 0) := rfl
set_option maxRecDepth 100000 in
theorem zq_Tree_takeOut : zi_ms[99]? = some (yX3_takeOut, cX3_takeOut, 3, none, zc_X3_takeOut, 0, 0) := rfl
set_option maxRecDepth 100000 in
theorem zq_Tree_nextShown : zi_ms[100]? = some (yX3_nextShown, cX3_nextShown, 7, (some FieldType.int), zc_X3_nextShown, 0, 0) := rfl
set_option maxRecDepth 100000 in
theorem zq_Tree_dropLeaf : zi_ms[101]? = some (yX3_dropLeaf, cX3_dropLeaf, 3, none, zc_X3_dropLeaf, 0, 0) := rfl
set_option maxRecDepth 100000 in
theorem zq_Tree_putInPlaceOf : zi_ms[102]? = some (yX3_putInPlaceOf, cX3_putInPlaceOf, 4, none, zc_X3_putInPlaceOf, 0, 0) := rfl
set_option maxRecDepth 100000 in
theorem zq_Tree_enter : zi_ms[103]? = some (yX3_enter, cX3_enter, 5, none, zc_X3_enter, 0, 0) := rfl
set_option maxRecDepth 100000 in
theorem zq_Tree_newNode : zi_ms[104]? = some (yX3_newNode, cX3_newNode, 3, (some FieldType.int), zc_X3_newNode, 0, 0) := rfl
set_option maxRecDepth 100000 in
theorem zq_Tree_settle : zi_ms[105]? = some (yX3_settle, cX3_settle, 2, none, zc_X3_settle, 0, 0) := rfl
set_option maxRecDepth 100000 in
theorem zq_Tree_listNodes : zi_ms[106]? = some (yX3_listNodes, cX3_listNodes, 4, none, zc_X3_listNodes, 0, 0) := rfl
set_option maxRecDepth 100000 in
theorem zq_Tree_measureLeaves : zi_ms[107]? = some (yX3_measureLeaves, cX3_measureLeaves, 5, none, zc_X3_measureLeaves, 0, 0) := rfl
set_option maxRecDepth 100000 in
theorem zq_Tree_measureCuts : zi_ms[108]? = some (yX3_measureCuts, cX3_measureCuts, 6, none, zc_X3_measureCuts, 0, 0) := rfl
set_option maxRecDepth 100000 in
theorem zq_Tree_lay : zi_ms[109]? = some (yX3_lay, cX3_lay, 3, none, zc_X3_lay, 0, 0) := rfl
set_option maxRecDepth 100000 in
theorem zq_Tree_divide : zi_ms[110]? = some (yX3_divide, cX3_divide, 8, none, zc_X3_divide, 0, 0) := rfl
set_option maxRecDepth 100000 in
theorem zq_Tree_firstPart : zi_ms[111]? = some (yX3_firstPart, cX3_firstPart, 5, (some FieldType.int), zc_X3_firstPart, 0, 0) := rfl
set_option maxRecDepth 100000 in
theorem zq_Tree_isWide : zi_ms[112]? = some (yX3_isWide, cX3_isWide, 2, (some FieldType.boolean), zc_X3_isWide, 0, 0) := rfl
set_option maxRecDepth 100000 in
theorem zq_Tree_startOf : zi_ms[113]? = some (yX3_startOf, cX3_startOf, 4, (some FieldType.int), zc_X3_startOf, 0, 0) := rfl
set_option maxRecDepth 100000 in
theorem zq_Tree_lengthOf : zi_ms[114]? = some (yX3_lengthOf, cX3_lengthOf, 4, (some FieldType.int), zc_X3_lengthOf, 0, 0) := rfl
set_option maxRecDepth 100000 in
theorem zq_Tree_endOf : zi_ms[115]? = some (yX3_endOf, cX3_endOf, 3, (some FieldType.int), zc_X3_endOf, 0, 0) := rfl
set_option maxRecDepth 100000 in
theorem zq_Tree_shownAt : zi_ms[116]? = some (yX3_shownAt, cX3_shownAt, 4, (some FieldType.int), zc_X3_shownAt, 0, 0) := rfl
set_option maxRecDepth 100000 in
theorem zq_Tree_spans : zi_ms[117]? = some (yX3_spans, cX3_spans, 4, (some FieldType.boolean), zc_X3_spans, 0, 0) := rfl
set_option maxRecDepth 100000 in
theorem zq_Tree_neighbourTo : zi_ms[118]? = some (yX3_neighbourTo, cX3_neighbourTo, 8, (some FieldType.int), zc_X3_neighbourTo, 0, 0) := rfl
set_option maxRecDepth 100000 in
theorem zq_Tree_meets : zi_ms[119]? = some (yX3_meets, cX3_meets, 5, (some FieldType.boolean), zc_X3_meets, 0, 0) := rfl
set_option maxRecDepth 100000 in
theorem zq_Tree_commonBorder : zi_ms[120]? = some (yX3_commonBorder, cX3_commonBorder, 5, (some FieldType.int), zc_X3_commonBorder, 0, 0) := rfl
set_option maxRecDepth 100000 in
theorem zq_Win_prepare : zi_ms[121]? = some (yX4_prepare, cX4_prepare, 5, none, zc_X4_prepare, 0, 0) := rfl
set_option maxRecDepth 100000 in
theorem zq_Win_isTiled : zi_ms[122]? = some (yX4_isTiled, cX4_isTiled, 1, (some FieldType.boolean), zc_X4_isTiled, 0, 0) := rfl
set_option maxRecDepth 100000 in
theorem zq_Win_isFloating : zi_ms[123]? = some (yX4_isFloating, cX4_isFloating, 1, (some FieldType.boolean), zc_X4_isFloating, 0, 0) := rfl
set_option maxRecDepth 100000 in
theorem zq_Win_isSticky : zi_ms[124]? = some (yX4_isSticky, cX4_isSticky, 1, (some FieldType.boolean), zc_X4_isSticky, 0, 0) := rfl
set_option maxRecDepth 100000 in
theorem zq_Win_isOn : zi_ms[125]? = some (yX4_isOn, cX4_isOn, 2, (some FieldType.boolean), zc_X4_isOn, 0, 0) := rfl
set_option maxRecDepth 100000 in
theorem zq_Win_isLooseOn : zi_ms[126]? = some (yX4_isLooseOn, cX4_isLooseOn, 2, (some FieldType.boolean), zc_X4_isLooseOn, 0, 0) := rfl
set_option maxRecDepth 100000 in
theorem zq_Win_canBeWhole : zi_ms[127]? = some (yX4_canBeWhole, cX4_canBeWhole, 2, (some FieldType.boolean), zc_X4_canBeWhole, 0, 0) := rfl
set_option maxRecDepth 100000 in
theorem zq_Win_nearest : zi_ms[128]? = some (yX4_nearest, cX4_nearest, 4, (some FieldType.int), zc_X4_nearest, 0, 0) := rfl
set_option maxRecDepth 100000 in
theorem zq_Win_putAt : zi_ms[129]? = some (yX4_putAt, cX4_putAt, 4, none, zc_X4_putAt, 0, 0) := rfl
set_option maxRecDepth 100000 in
theorem zq_Win_sendTo : zi_ms[130]? = some (yX4_sendTo, cX4_sendTo, 3, none, zc_X4_sendTo, 0, 0) := rfl
set_option maxRecDepth 100000 in
theorem zq_Win_coversPoint : zi_ms[131]? = some (yX4_coversPoint, cX4_coversPoint, 6, (some FieldType.boolean), zc_X4_coversPoint, 0, 0) := rfl
set_option maxRecDepth 100000 in
theorem zq_Win_spans : zi_ms[132]? = some (yX4_spans, cX4_spans, 5, (some FieldType.boolean), zc_X4_spans, 0, 0) := rfl
set_option maxRecDepth 100000 in
theorem zq_Desk_between : zi_ms[133]? = some (yX5_between, cX5_between, 3, (some FieldType.int), zc_X5_between, 0, 0) := rfl
set_option maxRecDepth 100000 in
theorem zq_Desk_looseOnes : zi_ms[134]? = some (yX5_looseOnes, cX5_looseOnes, 4, (some FieldType.int), zc_X5_looseOnes, 0, 0) := rfl
set_option maxRecDepth 100000 in
theorem zq_Desk_windowsOn : zi_ms[135]? = some (yX5_windowsOn, cX5_windowsOn, 4, (some FieldType.int), zc_X5_windowsOn, 0, 0) := rfl
set_option maxRecDepth 100000 in
theorem zq_Desk_looseOnesFit : zi_ms[136]? = some (yX5_looseOnesFit, cX5_looseOnesFit, 4, (some FieldType.boolean), zc_X5_looseOnesFit, 0, 0) := rfl
set_option maxRecDepth 100000 in
theorem zq_Desk_sendAll : zi_ms[137]? = some (yX5_sendAll, cX5_sendAll, 4, none, zc_X5_sendAll, 0, 0) := rfl
set_option maxRecDepth 100000 in
theorem zq_Desk_treeOf : zi_ms[138]? = some (yX5_treeOf, cX5_treeOf, 2, (some (FieldType.object "WindowDesk$Tree")), zc_X5_treeOf, 0, 0) := rfl
set_option maxRecDepth 100000 in
theorem zq_Desk_layTrees : zi_ms[139]? = some (yX5_layTrees, cX5_layTrees, 2, none, zc_X5_layTrees, 0, 0) := rfl
set_option maxRecDepth 100000 in
theorem zq_Desk_startOf : zi_ms[140]? = some (yX5_startOf, cX5_startOf, 3, (some FieldType.int), zc_X5_startOf, 0, 0) := rfl
set_option maxRecDepth 100000 in
theorem zq_Desk_lengthOf : zi_ms[141]? = some (yX5_lengthOf, cX5_lengthOf, 3, (some FieldType.int), zc_X5_lengthOf, 0, 0) := rfl
set_option maxRecDepth 100000 in
theorem zq_Desk_findRoom : zi_ms[142]? = some (yX5_findRoom, cX5_findRoom, 6, (some FieldType.boolean), zc_X5_findRoom, 0, 0) := rfl
set_option maxRecDepth 100000 in
theorem zq_Desk_middleOf : zi_ms[143]? = some (yX5_middleOf, cX5_middleOf, 4, (some FieldType.int), zc_X5_middleOf, 0, 0) := rfl
set_option maxRecDepth 100000 in
theorem zq_Desk_tile : zi_ms[144]? = some (yX5_tile, cX5_tile, 6, (some FieldType.boolean), zc_X5_tile, 0, 0) := rfl
set_option maxRecDepth 100000 in
theorem zq_Desk_leafAtHand : zi_ms[145]? = some (yX5_leafAtHand, cX5_leafAtHand, 4, (some FieldType.int), zc_X5_leafAtHand, 0, 0) := rfl
set_option maxRecDepth 100000 in
theorem zq_Desk_tryCut : zi_ms[146]? = some (yX5_tryCut, cX5_tryCut, 6, (some FieldType.boolean), zc_X5_tryCut, 0, 0) := rfl
set_option maxRecDepth 100000 in
theorem zq_Desk_tryTab : zi_ms[147]? = some (yX5_tryTab, cX5_tryTab, 5, (some FieldType.boolean), zc_X5_tryTab, 0, 0) := rfl
set_option maxRecDepth 100000 in
theorem zq_Desk_end : zi_ms[148]? = some (yX5_end, cX5_end, 2, none, zc_X5_end, 0, 0) := rfl
set_option maxRecDepth 100000 in
theorem zq_Desk_giveFocus : zi_ms[149]? = some (yX5_giveFocus, cX5_giveFocus, 2, none, zc_X5_giveFocus, 0, 0) := rfl
set_option maxRecDepth 100000 in
theorem zq_Desk_raise : zi_ms[150]? = some (yX5_raise, cX5_raise, 5, none, zc_X5_raise, 0, 0) := rfl
set_option maxRecDepth 100000 in
theorem zq_Desk_dialogsOf : zi_ms[151]? = some (yX5_dialogsOf, cX5_dialogsOf, 4, (some FieldType.int), zc_X5_dialogsOf, 0, 0) := rfl
set_option maxRecDepth 100000 in
theorem zq_Desk_lowestDialogOf : zi_ms[152]? = some (yX5_lowestDialogOf, cX5_lowestDialogOf, 3, (some FieldType.int), zc_X5_lowestDialogOf, 0, 0) := rfl
set_option maxRecDepth 100000 in
theorem zq_Desk_reachFrom : zi_ms[153]? = some (yX5_reachFrom, cX5_reachFrom, 4, none, zc_X5_reachFrom, 0, 0) := rfl
set_option maxRecDepth 100000 in
theorem zq_Desk_tryDrag : zi_ms[154]? = some (yX5_tryDrag, cX5_tryDrag, 6, none, zc_X5_tryDrag, 0, 0) := rfl
set_option maxRecDepth 100000 in
theorem zq_Desk_axisOf : zi_ms[155]? = some (yX5_axisOf, cX5_axisOf, 1, (some FieldType.int), zc_X5_axisOf, 0, 0) := rfl
set_option maxRecDepth 100000 in
theorem zq_Desk_isAfter : zi_ms[156]? = some (yX5_isAfter, cX5_isAfter, 1, (some FieldType.boolean), zc_X5_isAfter, 0, 0) := rfl
set_option maxRecDepth 100000 in
theorem zq_Desk_gatherWithDialogs : zi_ms[157]? = some (yX5_gatherWithDialogs, cX5_gatherWithDialogs, 3, none, zc_X5_gatherWithDialogs, 0, 0) := rfl
set_option maxRecDepth 100000 in
theorem zq_Desk_gatherDialogs : zi_ms[158]? = some (yX5_gatherDialogs, cX5_gatherDialogs, 3, none, zc_X5_gatherDialogs, 0, 0) := rfl
set_option maxRecDepth 100000 in
theorem zq_Desk_groupCanBeWhole : zi_ms[159]? = some (yX5_groupCanBeWhole, cX5_groupCanBeWhole, 3, (some FieldType.boolean), zc_X5_groupCanBeWhole, 0, 0) := rfl
set_option maxRecDepth 100000 in
theorem zq_Desk_sendGroup : zi_ms[160]? = some (yX5_sendGroup, cX5_sendGroup, 3, none, zc_X5_sendGroup, 0, 0) := rfl
set_option maxRecDepth 100000 in
theorem zq_Desk_keepAll : zi_ms[161]? = some (yX5_keepAll, cX5_keepAll, 4, none, zc_X5_keepAll, 0, 0) := rfl
set_option maxRecDepth 100000 in
theorem zq_Desk_forgetKeptWith : zi_ms[162]? = some (yX5_forgetKeptWith, cX5_forgetKeptWith, 3, none, zc_X5_forgetKeptWith, 0, 0) := rfl
set_option maxRecDepth 100000 in
theorem zq_Desk_takeBack : zi_ms[163]? = some (yX5_takeBack, cX5_takeBack, 3, none, zc_X5_takeBack, 0, 0) := rfl
set_option maxRecDepth 100000 in
theorem zq_Desk_forgetKeptWithGroup : zi_ms[164]? = some (yX5_forgetKeptWithGroup, cX5_forgetKeptWithGroup, 2, none, zc_X5_forgetKeptWithGroup, 0, 0) := rfl
set_option maxRecDepth 100000 in
theorem zq_Mod_half : zi_ms[165]? = some (yX6_half, cX6_half, 1, (some FieldType.int), zc_X6_half, 0, 0) := rfl
set_option maxRecDepth 100000 in
theorem zq_Mod_nearest : zi_ms[166]? = some (yX6_nearest, cX6_nearest, 2, (some FieldType.int), zc_X6_nearest, 0, 0) := rfl
set_option maxRecDepth 100000 in
theorem zq_Mod_isFloating : zi_ms[167]? = some (yX6_isFloating, cX6_isFloating, 2, (some FieldType.boolean), zc_X6_isFloating, 0, 0) := rfl
set_option maxRecDepth 100000 in
theorem zq_Mod_copyTree : zi_ms[168]? = some (yX6_copyTree, cX6_copyTree, 7, none, zc_X6_copyTree, 0, 0) := rfl
set_option maxRecDepth 100000 in
theorem zq_Mod_newNode : zi_ms[169]? = some (yX6_newNode, cX6_newNode, 4, (some FieldType.int), zc_X6_newNode, 0, 0) := rfl
set_option maxRecDepth 100000 in
theorem zq_Mod_newLeaf : zi_ms[170]? = some (yX6_newLeaf, cX6_newLeaf, 4, (some FieldType.int), zc_X6_newLeaf, 0, 0) := rfl
set_option maxRecDepth 100000 in
theorem zq_Mod_addTab : zi_ms[171]? = some (yX6_addTab, cX6_addTab, 4, none, zc_X6_addTab, 0, 0) := rfl
set_option maxRecDepth 100000 in
theorem zq_Mod_placeOfTab : zi_ms[172]? = some (yX6_placeOfTab, cX6_placeOfTab, 5, (some FieldType.int), zc_X6_placeOfTab, 0, 0) := rfl
set_option maxRecDepth 100000 in
theorem zq_Mod_leafOf : zi_ms[173]? = some (yX6_leafOf, cX6_leafOf, 4, (some FieldType.int), zc_X6_leafOf, 0, 0) := rfl
set_option maxRecDepth 100000 in
theorem zq_Mod_above : zi_ms[174]? = some (yX6_above, cX6_above, 4, (some FieldType.int), zc_X6_above, 0, 0) := rfl
set_option maxRecDepth 100000 in
theorem zq_Mod_stand : zi_ms[175]? = some (yX6_stand, cX6_stand, 5, none, zc_X6_stand, 0, 0) := rfl
set_option maxRecDepth 100000 in
theorem zq_Mod_leave : zi_ms[176]? = some (yX6_leave, cX6_leave, 9, none, zc_X6_leave, 0, 0) := rfl
set_option maxRecDepth 100000 in
theorem zq_Mod_cutLeaf : zi_ms[177]? = some (yX6_cutLeaf, cX6_cutLeaf, 9, none, zc_X6_cutLeaf, 0, 0) := rfl
set_option maxRecDepth 100000 in
theorem zq_Mod_least : zi_ms[178]? = some (yX6_least, cX6_least, 8, (some FieldType.int), zc_X6_least, 0, 0) := rfl
set_option maxRecDepth 100000 in
theorem zq_Mod_fits : zi_ms[179]? = some (yX6_fits, cX6_fits, 4, (some FieldType.boolean), zc_X6_fits, 0, 0) := rfl
set_option maxRecDepth 100000 in
theorem zq_Mod_lay : zi_ms[180]? = some (yX6_lay, cX6_lay, 13, none, zc_X6_lay, 0, 0) := rfl
set_option maxRecDepth 100000 in
theorem zq_Mod_layAll : zi_ms[181]? = some (yX6_layAll, cX6_layAll, 2, none, zc_X6_layAll, 0, 0) := rfl
set_option maxRecDepth 100000 in
theorem zq_Mod_canBeWhole : zi_ms[182]? = some (yX6_canBeWhole, cX6_canBeWhole, 4, (some FieldType.boolean), zc_X6_canBeWhole, 0, 0) := rfl
set_option maxRecDepth 100000 in
theorem zq_Mod_putAt : zi_ms[183]? = some (yX6_putAt, cX6_putAt, 5, none, zc_X6_putAt, 0, 0) := rfl
set_option maxRecDepth 100000 in
theorem zq_Mod_isOnScreen : zi_ms[184]? = some (yX6_isOnScreen, cX6_isOnScreen, 3, (some FieldType.boolean), zc_X6_isOnScreen, 0, 0) := rfl
set_option maxRecDepth 100000 in
theorem zq_Mod_unstack : zi_ms[185]? = some (yX6_unstack, cX6_unstack, 4, none, zc_X6_unstack, 0, 0) := rfl
set_option maxRecDepth 100000 in
theorem zq_Mod_raise : zi_ms[186]? = some (yX6_raise, cX6_raise, 6, none, zc_X6_raise, 0, 0) := rfl
set_option maxRecDepth 100000 in
theorem zq_Mod_front : zi_ms[187]? = some (yX6_front, cX6_front, 5, none, zc_X6_front, 0, 0) := rfl
set_option maxRecDepth 100000 in
theorem zq_Mod_focused : zi_ms[188]? = some (yX6_focused, cX6_focused, 2, none, zc_X6_focused, 0, 0) := rfl
set_option maxRecDepth 100000 in
theorem zq_Mod_forget : zi_ms[189]? = some (yX6_forget, cX6_forget, 3, none, zc_X6_forget, 0, 0) := rfl
set_option maxRecDepth 100000 in
theorem zq_Mod_spread : zi_ms[190]? = some (yX6_spread, cX6_spread, 3, none, zc_X6_spread, 0, 0) := rfl
set_option maxRecDepth 100000 in
theorem zq_Mod_comesBack : zi_ms[191]? = some (yX6_comesBack, cX6_comesBack, 4, (some FieldType.boolean), zc_X6_comesBack, 0, 0) := rfl
set_option maxRecDepth 100000 in
theorem zq_Mod_bring : zi_ms[192]? = some (yX6_bring, cX6_bring, 7, (some FieldType.int), zc_X6_bring, 0, 0) := rfl
set_option maxRecDepth 100000 in
theorem zq_Mod_clearLeaves : zi_ms[193]? = some (yX6_clearLeaves, cX6_clearLeaves, 2, none, zc_X6_clearLeaves, 0, 0) := rfl
set_option maxRecDepth 100000 in
theorem zq_Mod_findLeaves : zi_ms[194]? = some (yX6_findLeaves, cX6_findLeaves, 3, none, zc_X6_findLeaves, 0, 0) := rfl
set_option maxRecDepth 100000 in
theorem zq_Mod_moveTabs : zi_ms[195]? = some (yX6_moveTabs, cX6_moveTabs, 9, (some FieldType.int), zc_X6_moveTabs, 0, 0) := rfl
set_option maxRecDepth 100000 in
theorem zq_Mod_tile : zi_ms[196]? = some (yX6_tile, cX6_tile, 6, (some FieldType.boolean), zc_X6_tile, 0, 0) := rfl
set_option maxRecDepth 100000 in
theorem zq_Mod_takesTrial : zi_ms[197]? = some (yX6_takesTrial, cX6_takesTrial, 2, (some FieldType.boolean), zc_X6_takesTrial, 0, 0) := rfl
set_option maxRecDepth 100000 in
theorem zq_Mod_closed : zi_ms[198]? = some (yX6_closed, cX6_closed, 5, (some FieldType.int), zc_X6_closed, 0, 0) := rfl
set_option maxRecDepth 100000 in
theorem zq_Mod_isShown : zi_ms[199]? = some (yX6_isShown, cX6_isShown, 2, (some FieldType.boolean), zc_X6_isShown, 0, 0) := rfl
set_option maxRecDepth 100000 in
theorem zq_Mod_common : zi_ms[200]? = some (yX6_common, cX6_common, 6, (some FieldType.int), zc_X6_common, 0, 0) := rfl
set_option maxRecDepth 100000 in
theorem zq_Mod_neighbourOf : zi_ms[201]? = some (yX6_neighbourOf, cX6_neighbourOf, 11, (some FieldType.int), zc_X6_neighbourOf, 0, 0) := rfl
set_option maxRecDepth 100000 in
theorem zq_Mod_areaOf : zi_ms[202]? = some (yX6_areaOf, cX6_areaOf, 4, (some FieldType.int), zc_X6_areaOf, 0, 0) := rfl
set_option maxRecDepth 100000 in
theorem zq_Mod_placeIn : zi_ms[203]? = some (yX6_placeIn, cX6_placeIn, 4, (some FieldType.int), zc_X6_placeIn, 0, 0) := rfl
set_option maxRecDepth 100000 in
theorem zq_Mod_lies : zi_ms[204]? = some (yX6_lies, cX6_lies, 7, (some FieldType.boolean), zc_X6_lies, 0, 0) := rfl
set_option maxRecDepth 100000 in
theorem zq_Math_floorDiv : zi_ms[205]? = some (yJ9_floorDiv_7cf53, cJ9_floorDiv_7cf53, 3, (some FieldType.int), zc_J9_floorDiv_7cf53, 0, 0) := rfl
set_option maxRecDepth 100000 in
theorem zq_Math_max : zi_ms[206]? = some (yJ9_max_7cf53, cJ9_max_7cf53, 2, (some FieldType.int), zc_J9_max_7cf53, 0, 0) := rfl
set_option maxRecDepth 100000 in
theorem zq_Math_min : zi_ms[207]? = some (yJ9_min_7cf53, cJ9_min_7cf53, 2, (some FieldType.int), zc_J9_min_7cf53, 0, 0) := rfl
/-! evaluation over the memory: a method returns; a stretch of code is gone through -/
def ze_E (D a : Nat) (vs : List Value) (h : zi_Hp) (r : Option Value) (h' : zi_Hp) : Prop := ∃ N, ∀ F, N ≤ F → zi_run zi_ms F D a vs h [] = some [([], r, h')]
section ZEV
variable {D nL : Nat} {ret : Option FieldType} {code0 : List zi_Row}
/-- from one place of the code to another, whatever fuel is left behind it -/
def ze_S (D nL : Nat) (ret : Option FieldType) (code0 : List zi_Row) (pc : Nat) (L : zi_Lc) (st : List Value) (h : zi_Hp) (pc' : Nat) (L' : zi_Lc) (st' : List Value) (h' : zi_Hp) : Prop :=
  ∃ N k, ∀ F n, N ≤ F → zi_go zi_ms none nL ret code0 0 0 (zi_run zi_ms F D) (n + k) pc L st h [] 0 0 = zi_go zi_ms none nL ret code0 0 0 (zi_run zi_ms F D) n pc' L' st' h' [] 0 0
/-- from a place of the code to the method's end -/
def ze_G (D nL : Nat) (ret : Option FieldType) (code0 : List zi_Row) (pc : Nat) (L : zi_Lc) (st : List Value) (h : zi_Hp) (r : Option Value) (h' : zi_Hp) : Prop :=
  ∃ N k, ∀ F n, N ≤ F → zi_go zi_ms none nL ret code0 0 0 (zi_run zi_ms F D) (n + k) pc L st h [] 0 0 = some [([], r, h')]
theorem ze_S.refl {pc : Nat} {L : zi_Lc} {st : List Value} {h : zi_Hp} : ze_S D nL ret code0 pc L st h pc L st h := ⟨0, 0, fun _ _ _ => rfl⟩
theorem ze_S.trans {p1 p2 p3 : Nat} {L1 L2 L3 : zi_Lc} {s1 s2 s3 : List Value} {h1 h2 h3 : zi_Hp} (a : ze_S D nL ret code0 p1 L1 s1 h1 p2 L2 s2 h2) (b : ze_S D nL ret code0 p2 L2 s2 h2 p3 L3 s3 h3) : ze_S D nL ret code0 p1 L1 s1 h1 p3 L3 s3 h3 := by
  obtain ⟨N, k, a⟩ := a
  obtain ⟨M, j, b⟩ := b
  refine ⟨N + M, j + k, fun F n hF => ?_⟩
  rw [← Nat.add_assoc, a F (n + j) (by omega), b F n (by omega)]
theorem ze_S.end {p1 p2 : Nat} {L1 L2 : zi_Lc} {s1 s2 : List Value} {h1 h2 h3 : zi_Hp} {r : Option Value} (a : ze_S D nL ret code0 p1 L1 s1 h1 p2 L2 s2 h2) (b : ze_G D nL ret code0 p2 L2 s2 h2 r h3) : ze_G D nL ret code0 p1 L1 s1 h1 r h3 := by
  obtain ⟨N, k, a⟩ := a
  obtain ⟨M, j, b⟩ := b
  refine ⟨N + M, j + k, fun F n hF => ?_⟩
  rw [← Nat.add_assoc, a F (n + j) (by omega), b F n (by omega)]
/-- a method that makes nothing -/
theorem ze_enter {a : Nat} {y : MethodName} {cc : ByteArray} {vs : List Value} {h h' : zi_Hp} {r : Option Value} (hm : zi_ms[a]? = some (y, cc, nL, ret, code0, 0, 0)) (hs : (lg_sl vs).length ≤ nL) (g : ze_G D nL ret code0 0 (lv_args 0 vs) [] h r h') : ze_E (D + 1) a vs h r h' := by
  obtain ⟨N, k, g⟩ := g
  refine ⟨N + k, fun F hF => ?_⟩
  obtain ⟨n, rfl⟩ : ∃ n, F = n + k := ⟨F - k, by omega⟩
  unfold zi_run
  rw [hm]
  dsimp only
  rw [if_pos hs]
  exact g (n + k) n (by omega)
end ZEV
theorem zi_get_set_eq {L : zi_Lc} {k : Nat} {v : Value} : zi_get (zi_set L k v) k = some v := by
  simp [zi_get, zi_set]
theorem zi_get_set_ne {L : zi_Lc} {j k : Nat} {v x : Value} (hj : j ≠ k) (h : zi_get L j = some x) (hx : x.category = 1) : zi_get (zi_set L k v) j = some x := by
  have h0 : (k == j) = false := by simpa using Ne.symm hj
  unfold zi_get zi_set at *
  rw [List.find?_cons, h0]
  dsimp only
  obtain ⟨q, hq, rfl⟩ := Option.map_eq_some_iff.mp h
  have hqj : q.1 = j := by simpa using List.find?_some hq
  have key : ∀ L : zi_Lc, L.find? (fun q => q.1 == j) = some q → (L.filter (fun q => !(q.1 == k) && !(q.1 + 1 == k && q.2.category == 2))).find? (fun q => q.1 == j) = some q := by
    intro L
    induction L with
    | nil => intro h; cases h
    | cons a L ih =>
      intro h
      rw [List.find?_cons] at h
      by_cases e : (a.1 == j) = true
      · rw [e] at h
        have h : a = q := by simpa using h
        subst h
        have e1 : (!(a.1 == k) && !(a.1 + 1 == k && a.2.category == 2)) = true := by
          have : (a.1 == k) = false := by
            rw [hqj]
            simpa using hj
          rw [this, hx]
          simp
        rw [List.filter_cons, if_pos e1, List.find?_cons, e]
      · have e : (a.1 == j) = false := by simpa using e
        rw [e] at h
        dsimp only at h
        by_cases e1 : (!(a.1 == k) && !(a.1 + 1 == k && a.2.category == 2)) = true
        · rw [List.filter_cons, if_pos e1, List.find?_cons, e]
          exact ih h
        · rw [List.filter_cons, if_neg e1]
          exact ih h
  rw [key L hq]
  rfl
theorem zm_len (μ : zm_M) : (zm_mk μ).length = 262 := by
  unfold zm_mk
  rw [List.length_mapIdx]
  decide +kernel
theorem zi_f3 : ((3 : Fin 4) : Nat) = 3 := rfl
theorem zi_cr (a : Nat) : (Value.ref a).category = 1 := rfl
theorem zi_ci (x : Int32) : (Value.int x).category = 1 := rfl
theorem zi_cn : Value.null.category = 1 := rfl
/-- entering a method: its locals written out -/
theorem ze_in {D nL : Nat} {ret : Option FieldType} {code0 : List zi_Row} {a : Nat} {y : MethodName} {cc : ByteArray} {vs : List Value} {h h' : zi_Hp} {r : Option Value} (L : zi_Lc) (hm : zi_ms[a]? = some (y, cc, nL, ret, code0, 0, 0)) (hs : (lg_sl vs).length ≤ nL) (hL : lv_args 0 vs = L) (g : ze_G D nL ret code0 0 L [] h r h') : ze_E (D + 1) a vs h r h' := by
  subst hL
  exact ze_enter hm hs g
