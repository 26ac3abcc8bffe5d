set_option maxRecDepth 20000 in
theorem ggX5_ask_X7_reigns : GoodIn wsX5_ask wsX7_reigns := goodIn_r _ [10, 11, 12, 24, 25, 26, 27, 28, 29, 30, 31, 32] (by decide +kernel) (by decide +kernel)
set_option maxRecDepth 20000 in
theorem gX5_ask_X7_reigns : GoodIn wsX5_ask (wsV RX5 264 RX7 yX7_reigns wsX7_reigns) := goodIn_app (goodIn_of _ (by decide +kernel)) ggX5_ask_X7_reigns
set_option maxRecDepth 20000 in
theorem ggX5_looksSameTo_X3_isSame : GoodIn wsX5_looksSameTo wsX3_isSame := goodIn_r _ [9, 10, 11, 12, 13, 14, 15, 16, 17, 18, 19, 20, 21, 22, 23, 87, 88, 89, 90, 91, 92, 93, 94, 95, 96, 97] (by decide +kernel) (by decide +kernel)
set_option maxRecDepth 20000 in
theorem gX5_looksSameTo_X3_isSame : GoodIn wsX5_looksSameTo (wsV RX5 270 RX3 yX3_isSame wsX3_isSame) := goodIn_app (goodIn_of _ (by decide +kernel)) ggX5_looksSameTo_X3_isSame
set_option maxRecDepth 20000 in
theorem ggX5_looksSameTo_X1_looksSame : GoodIn wsX5_looksSameTo wsX1_looksSame := goodIn_r _ [28, 29, 30, 31, 32, 33, 34, 35, 36, 37, 38, 39, 40, 41, 42, 43, 44, 45, 46, 47, 48, 49, 50, 51, 27, 52, 53, 54, 69, 70, 71, 72, 73, 74, 75, 76, 77, 78, 79, 80, 98, 99, 100] (by decide +kernel) (by decide +kernel)
set_option maxRecDepth 20000 in
theorem gX5_looksSameTo_X1_looksSame : GoodIn wsX5_looksSameTo (wsV RX5 274 RX1 yX1_looksSame wsX1_looksSame) := goodIn_app (goodIn_of _ (by decide +kernel)) ggX5_looksSameTo_X1_looksSame
set_option maxRecDepth 20000 in
theorem ggX6_add_J7_copyOf_59c91 : GoodIn wsX6_add wsJ7_copyOf_59c91 := goodIn_r _ [10, 11, 12, 13, 14, 15, 16, 17, 18, 19, 20, 21, 22, 4, 5, 6] (by decide +kernel) (by decide +kernel)
set_option maxRecDepth 20000 in
theorem gX6_add_J7_copyOf_59c91 : GoodIn wsX6_add (va_wsS RX6 28 yJ7_copyOf_59c91 wsJ7_copyOf_59c91) := goodIn_app (goodIn_of _ (by decide +kernel)) ggX6_add_J7_copyOf_59c91
set_option maxRecDepth 20000 in
theorem ggX6_isSame_X6_left : GoodIn wsX6_isSame wsX6_left := goodIn_r _ [6, 7, 1, 13, 14, 15] (by decide +kernel) (by decide +kernel)
set_option maxRecDepth 20000 in
theorem gX6_isSame_X6_left : GoodIn wsX6_isSame (wsV RX6 40 RX6 yX6_left wsX6_left) := goodIn_app (goodIn_of _ (by decide +kernel)) ggX6_isSame_X6_left
set_option maxRecDepth 20000 in
theorem ggX6_isSame_X6_isSameRecord : GoodIn wsX6_isSame wsX6_isSameRecord := goodIn_r _ [11, 12, 13, 14, 15] (by decide +kernel) (by decide +kernel)
set_option maxRecDepth 20000 in
theorem gX6_isSame_X6_isSameRecord : GoodIn wsX6_isSame (wsV RX6 44 RX6 yX6_isSameRecord wsX6_isSameRecord) := goodIn_app (goodIn_of _ (by decide +kernel)) ggX6_isSame_X6_isSameRecord
set_option maxRecDepth 20000 in
theorem ggX7_init_X9_init : GoodIn wsX7_init wsX9_init := goodIn_r _ [18, 19, 2, 3, 20, 21, 22, 23, 5, 24, 34, 35] (by decide +kernel) (by decide +kernel)
set_option maxRecDepth 20000 in
theorem gX7_init_X9_init : GoodIn wsX7_init (wsX9_init) := ggX7_init_X9_init
set_option maxRecDepth 20000 in
theorem ggX8_init_X5_init : GoodIn wsX8_init wsX5_init := goodIn_r _ [13, 14, 2, 3, 15, 16, 17, 18, 19, 20, 21, 22, 23, 24, 25, 26, 27, 28, 29, 30, 31, 32, 33, 34, 35, 36, 37, 38, 39, 40, 41, 42, 43, 44, 45, 46, 47, 48, 49, 50, 51, 52, 53, 54, 55, 56, 57, 58, 59, 60, 61, 62, 63, 64, 65, 66, 67, 68, 69, 70, 76, 77, 78, 79, 80, 81, 82, 83, 84, 85, 86, 87, 88, 89, 90, 91, 92, 93, 94, 95, 96, 97, 98, 99, 100, 101, 102, 103, 104, 105, 106, 107, 108, 109, 110, 111, 112, 113, 114, 115, 116, 117, 118, 119, 120, 121] (by decide +kernel) (by decide +kernel)
set_option maxRecDepth 20000 in
theorem gX8_init_X5_init : GoodIn wsX8_init (wsX5_init) := ggX8_init_X5_init
set_option maxRecDepth 20000 in
theorem ggX8_choose_X0_count : GoodIn wsX8_choose wsX0_count := goodIn_r _ [14, 15, 28, 29, 30, 31, 41, 42] (by decide +kernel) (by decide +kernel)
set_option maxRecDepth 20000 in
theorem gX8_choose_X0_count : GoodIn wsX8_choose (wsV RX8 26 RX0 yX0_count wsX0_count) := goodIn_app (goodIn_of _ (by decide +kernel)) ggX8_choose_X0_count
set_option maxRecDepth 20000 in
theorem ggX8_choose_X9_get : GoodIn wsX8_choose wsX9_get := goodIn_r _ [20, 21, 22, 41, 42] (by decide +kernel) (by decide +kernel)
set_option maxRecDepth 20000 in
theorem gX8_choose_X9_get : GoodIn wsX8_choose (wsV RX8 49 RX9 yX9_get wsX9_get) := goodIn_app (goodIn_of _ (by decide +kernel)) ggX8_choose_X9_get
set_option maxRecDepth 20000 in
theorem ggX8_redo_X5_reset : GoodIn wsX8_redo wsX5_reset := goodIn_r _ [8, 9, 10, 11, 12, 13, 14, 15, 16, 17, 18, 19, 20, 21, 22, 23, 24, 25, 26, 27, 28, 29, 30, 31, 32, 33, 34, 35, 36, 37, 38, 39, 40, 41, 42, 43, 44, 45, 46, 47, 48, 49, 50, 51, 52, 53, 54, 55, 56, 57, 58, 59, 60, 61, 62, 63, 64, 65, 66, 67, 68, 69, 70, 71, 72, 73, 74, 75, 76, 77, 299, 300, 301, 302, 303, 313, 314, 315, 316, 317, 318, 319, 320, 321, 304, 305, 306, 307, 308, 309, 310, 311, 312, 322, 323, 324, 325, 326, 327, 328, 329, 330, 331, 332, 333, 334, 335, 336, 337, 338, 339, 340] (by decide +kernel) (by decide +kernel)
set_option maxRecDepth 20000 in
theorem gX8_redo_X5_reset : GoodIn wsX8_redo (wsV RX8 61 RX5 yX5_reset wsX5_reset) := goodIn_app (goodIn_of _ (by decide +kernel)) ggX8_redo_X5_reset
set_option maxRecDepth 20000 in
theorem ggX8_redo_X9_get : GoodIn wsX8_redo wsX9_get := goodIn_r _ [76, 41, 77, 322, 323] (by decide +kernel) (by decide +kernel)
set_option maxRecDepth 20000 in
theorem gX8_redo_X9_get : GoodIn wsX8_redo (wsV RX8 49 RX9 yX9_get wsX9_get) := goodIn_app (goodIn_of _ (by decide +kernel)) ggX8_redo_X9_get
set_option maxRecDepth 20000 in
theorem ggX8_redo_X5_passIdleUntil : GoodIn wsX8_redo wsX5_passIdleUntil := goodIn_r _ [82, 12, 83, 84, 85, 7, 86, 87, 88, 89, 90, 13, 9, 11, 91, 92, 93, 65, 94, 71, 70, 68, 69, 73, 74, 75, 39, 76, 41, 77, 95, 96, 97, 98, 99, 100, 101, 45, 102, 50, 47, 48, 103, 104, 105, 57, 106, 59, 60, 54, 55, 56, 58, 107, 108, 109, 110, 10, 111, 112, 113, 114, 67, 72, 299, 300, 301, 302, 303, 335, 336, 337, 338, 339, 340, 313, 314, 315, 316, 317, 318, 319, 320, 321, 324, 325, 326, 327, 328, 329, 330, 331, 341, 342, 343, 344, 322, 323, 332, 333, 334, 304, 305, 306, 307, 308, 309, 310, 311, 312] (by decide +kernel) (by decide +kernel)
set_option maxRecDepth 20000 in
theorem gX8_redo_X5_passIdleUntil : GoodIn wsX8_redo (wsV RX8 67 RX5 yX5_passIdleUntil wsX5_passIdleUntil) := goodIn_app (goodIn_of _ (by decide +kernel)) ggX8_redo_X5_passIdleUntil
set_option maxRecDepth 20000 in
theorem ggX8_redo_X9_add : GoodIn wsX8_redo wsX9_add := goodIn_r _ [118, 41, 77, 119, 120, 34, 121, 122, 123, 124, 125, 126, 127, 128, 129, 130, 131, 132, 133, 134, 135, 136, 322, 323] (by decide +kernel) (by decide +kernel)
set_option maxRecDepth 20000 in
theorem gX8_redo_X9_add : GoodIn wsX8_redo (wsV RX8 85 RX9 yX9_add wsX9_add) := goodIn_app (goodIn_of _ (by decide +kernel)) ggX8_redo_X9_add
set_option maxRecDepth 20000 in
theorem ggX8_redo_X5_passWithStep : GoodIn wsX8_redo wsX5_passWithStep := goodIn_r _ [140, 12, 87, 88, 89, 7, 90, 13, 9, 11, 91, 92, 93, 65, 94, 71, 70, 68, 69, 73, 74, 75, 39, 76, 41, 77, 95, 96, 97, 98, 99, 100, 101, 45, 102, 50, 47, 48, 103, 104, 105, 57, 106, 59, 60, 54, 55, 56, 58, 141, 142, 143, 144, 10, 145, 146, 147, 148, 149, 150, 151, 152, 153, 154, 155, 156, 157, 158, 17, 159, 21, 160, 161, 162, 163, 164, 165, 166, 167, 30, 168, 169, 170, 171, 31, 172, 173, 174, 175, 176, 177, 178, 179, 180, 181, 182, 183, 184, 185, 186, 20, 187, 116, 117, 118, 119, 120, 34, 121, 122, 123, 124, 125, 126, 127, 128, 129, 130, 131, 132, 133, 134, 135, 136, 188, 189, 190, 191, 19, 192, 193, 194, 195, 196, 197, 198, 199, 200, 201, 202, 203, 204, 205, 206, 207, 208, 209, 210, 211, 212, 213, 214, 215, 216, 217, 218, 219, 220, 221, 222, 223, 224, 225, 226, 227, 228, 229, 230, 231, 232, 233, 234, 235, 236, 237, 238, 239, 240, 241, 242, 243, 244, 245, 246, 247, 248, 249, 250, 251, 252, 253, 254, 255, 52, 53, 256, 257, 258, 259, 260, 261, 262, 263, 264, 265, 266, 267, 268, 269, 270, 271, 272, 273, 274, 275, 276, 277, 278, 279, 280, 281, 282, 283, 284, 285, 29, 286, 287, 288, 289, 22, 25, 26, 27, 28, 32, 33, 35, 107, 108, 109, 110, 111, 112, 113, 114, 67, 72, 299, 300, 301, 302, 303, 313, 314, 315, 316, 317, 318, 319, 320, 321, 324, 325, 326, 327, 328, 329, 330, 331, 341, 342, 343, 344, 335, 336, 337, 338, 339, 340, 322, 323, 332, 333, 334, 304, 305, 306, 307, 308, 309, 310, 311, 312] (by decide +kernel) (by decide +kernel)
set_option maxRecDepth 20000 in
theorem gX8_redo_X5_passWithStep : GoodIn wsX8_redo (wsV RX8 88 RX5 yX5_passWithStep wsX5_passWithStep) := goodIn_app (goodIn_of _ (by decide +kernel)) ggX8_redo_X5_passWithStep
set_option maxRecDepth 20000 in
theorem ggX9_add_J7_copyOf_59c91 : GoodIn wsX9_add wsJ7_copyOf_59c91 := goodIn_r _ [6, 7, 8, 9, 10, 11, 12, 13, 14, 15, 16, 17, 18, 19, 20, 21] (by decide +kernel) (by decide +kernel)
set_option maxRecDepth 20000 in
theorem gX9_add_J7_copyOf_59c91 : GoodIn wsX9_add (va_wsS RX9 23 yJ7_copyOf_59c91 wsJ7_copyOf_59c91) := goodIn_app (goodIn_of _ (by decide +kernel)) ggX9_add_J7_copyOf_59c91
set_option maxRecDepth 20000 in
theorem ggX10_init_X7_init : GoodIn wsX10_init wsX7_init := goodIn_r _ [25, 26, 2, 3, 27, 28, 29, 30, 31, 32, 33, 34, 35, 36, 37, 38, 39, 40, 41, 42, 43, 12, 9, 13, 44, 104, 105, 106, 107, 108, 109, 110, 111, 112, 127, 128] (by decide +kernel) (by decide +kernel)
set_option maxRecDepth 20000 in
theorem gX10_init_X7_init : GoodIn wsX10_init (wsX7_init) := ggX10_init_X7_init
set_option maxRecDepth 20000 in
theorem ggX10_init_X5_init : GoodIn wsX10_init wsX5_init := goodIn_r _ [47, 48, 2, 3, 49, 50, 51, 52, 53, 54, 55, 56, 57, 58, 59, 60, 61, 62, 63, 64, 65, 28, 66, 67, 68, 33, 34, 69, 70, 71, 40, 41, 42, 43, 12, 9, 13, 44, 72, 73, 74, 75, 76, 77, 78, 79, 80, 81, 82, 83, 84, 85, 86, 87, 88, 89, 90, 91, 92, 93, 118, 119, 120, 121, 122, 104, 105, 106, 107, 108, 109, 110, 111, 112, 129, 130, 131, 132, 133, 134, 135, 136, 137, 138, 139, 140, 141, 142, 143, 144, 145, 146, 147, 148, 149, 150, 151, 127, 128, 152, 153, 154, 155, 156, 157, 158] (by decide +kernel) (by decide +kernel)
set_option maxRecDepth 20000 in
theorem gX10_init_X5_init : GoodIn wsX10_init (wsX5_init) := ggX10_init_X5_init
set_option maxRecDepth 20000 in
theorem ggX10_init_X0_init : GoodIn wsX10_init wsX0_init := goodIn_r _ [96, 97, 2, 3, 98, 33, 34, 99, 100, 101, 102, 103, 40, 41, 42, 43, 12, 9, 13, 28, 44, 127, 128, 123, 124, 125, 126] (by decide +kernel) (by decide +kernel)
set_option maxRecDepth 20000 in
theorem gX10_init_X0_init : GoodIn wsX10_init (wsX0_init) := ggX10_init_X0_init
set_option maxRecDepth 20000 in
theorem ggX10_flow_X7_hasDomain : GoodIn wsX10_flow wsX7_hasDomain := goodIn_r _ [6, 7, 24, 25, 26, 27, 28, 29, 30, 31, 32] (by decide +kernel) (by decide +kernel)
set_option maxRecDepth 20000 in
theorem gX10_flow_X7_hasDomain : GoodIn wsX10_flow (wsV RX10 47 RX7 yX7_hasDomain wsX7_hasDomain) := goodIn_app (goodIn_of _ (by decide +kernel)) ggX10_flow_X7_hasDomain
set_option maxRecDepth 20000 in
theorem ggX10_flow_X7_hasLink : GoodIn wsX10_flow wsX7_hasLink := goodIn_r _ [11, 12, 13, 24, 25, 26, 27, 28, 29, 30, 31, 32, 33, 34, 35, 36] (by decide +kernel) (by decide +kernel)
set_option maxRecDepth 20000 in
theorem gX10_flow_X7_hasLink : GoodIn wsX10_flow (wsV RX10 51 RX7 yX7_hasLink wsX7_hasLink) := goodIn_app (goodIn_of _ (by decide +kernel)) ggX10_flow_X7_hasLink
set_option maxRecDepth 20000 in
theorem ggX10_flow_X7_setFlow : GoodIn wsX10_flow wsX7_setFlow := goodIn_r _ [17, 18, 24, 25, 26, 27, 28, 29, 30, 31, 32] (by decide +kernel) (by decide +kernel)
set_option maxRecDepth 20000 in
theorem gX10_flow_X7_setFlow : GoodIn wsX10_flow (wsV RX10 55 RX7 yX7_setFlow wsX7_setFlow) := goodIn_app (goodIn_of _ (by decide +kernel)) ggX10_flow_X7_setFlow
set_option maxRecDepth 20000 in
theorem ggX10_channel_X7_hasDomain : GoodIn wsX10_channel wsX7_hasDomain := goodIn_r _ [13, 14, 56, 57, 58, 59, 60, 61, 62, 63, 64] (by decide +kernel) (by decide +kernel)
set_option maxRecDepth 20000 in
theorem gX10_channel_X7_hasDomain : GoodIn wsX10_channel (wsV RX10 47 RX7 yX7_hasDomain wsX7_hasDomain) := goodIn_app (goodIn_of _ (by decide +kernel)) ggX10_channel_X7_hasDomain
set_option maxRecDepth 20000 in
theorem ggX10_channel_X7_mayFlow : GoodIn wsX10_channel wsX7_mayFlow := goodIn_r _ [18, 19, 56, 57, 58, 59, 60, 61, 62, 63, 64] (by decide +kernel) (by decide +kernel)
set_option maxRecDepth 20000 in
theorem gX10_channel_X7_mayFlow : GoodIn wsX10_channel (wsV RX10 59 RX7 yX7_mayFlow wsX7_mayFlow) := goodIn_app (goodIn_of _ (by decide +kernel)) ggX10_channel_X7_mayFlow
set_option maxRecDepth 20000 in
theorem ggX10_channel_X4_init : GoodIn wsX10_channel wsX4_init := goodIn_r _ [22, 23, 24, 25, 26, 27, 28, 29, 65, 66, 67, 68] (by decide +kernel) (by decide +kernel)
set_option maxRecDepth 20000 in
theorem gX10_channel_X4_init : GoodIn wsX10_channel (wsX4_init) := ggX10_channel_X4_init
set_option maxRecDepth 20000 in
theorem ggX10_channel_X1_init : GoodIn wsX10_channel wsX1_init := goodIn_r _ [32, 33, 24, 25, 34, 35, 36, 37, 38, 39, 40, 41, 42, 43, 44, 45, 46, 47, 48, 49, 50, 74, 75, 76, 77, 78, 79, 80, 81, 65, 66, 67, 68, 82, 83, 84] (by decide +kernel) (by decide +kernel)
set_option maxRecDepth 20000 in
theorem gX10_channel_X1_init : GoodIn wsX10_channel (wsX1_init) := ggX10_channel_X1_init
set_option maxRecDepth 20000 in
theorem ggX10_code_X7_hasDomain : GoodIn wsX10_code wsX7_hasDomain := goodIn_r _ [6, 7, 39, 40, 41, 42, 43, 44, 45, 46, 47] (by decide +kernel) (by decide +kernel)
set_option maxRecDepth 20000 in
theorem gX10_code_X7_hasDomain : GoodIn wsX10_code (wsV RX10 47 RX7 yX7_hasDomain wsX7_hasDomain) := goodIn_app (goodIn_of _ (by decide +kernel)) ggX10_code_X7_hasDomain
set_option maxRecDepth 20000 in
theorem ggX10_code_X9_add : GoodIn wsX10_code wsX9_add := goodIn_r _ [12, 13, 14, 15, 16, 17, 18, 19, 20, 21, 22, 23, 24, 25, 26, 27, 28, 29, 30, 31, 32, 33, 48, 49] (by decide +kernel) (by decide +kernel)
set_option maxRecDepth 20000 in
theorem gX10_code_X9_add : GoodIn wsX10_code (wsV RX10 93 RX9 yX9_add wsX9_add) := goodIn_app (goodIn_of _ (by decide +kernel)) ggX10_code_X9_add
set_option maxRecDepth 20000 in
theorem ggX10_onFail_X7_hasDomain : GoodIn wsX10_onFail wsX7_hasDomain := goodIn_r _ [6, 7, 13, 14, 15, 16, 17, 18, 19, 20, 21] (by decide +kernel) (by decide +kernel)
set_option maxRecDepth 20000 in
theorem gX10_onFail_X7_hasDomain : GoodIn wsX10_onFail (wsV RX10 47 RX7 yX7_hasDomain wsX7_hasDomain) := goodIn_app (goodIn_of _ (by decide +kernel)) ggX10_onFail_X7_hasDomain
set_option maxRecDepth 20000 in
theorem ggX10_slot_X10_isSchedule : GoodIn wsX10_slot wsX10_isSchedule := goodIn_r _ [5] (by decide +kernel) (by decide +kernel)
set_option maxRecDepth 20000 in
theorem gX10_slot_X10_isSchedule : GoodIn wsX10_slot (va_wsS RX10 100 yX10_isSchedule wsX10_isSchedule) := goodIn_app (goodIn_of _ (by decide +kernel)) ggX10_slot_X10_isSchedule
set_option maxRecDepth 20000 in
theorem ggX10_slot_X7_hasDomain : GoodIn wsX10_slot wsX7_hasDomain := goodIn_r _ [10, 11, 43, 44, 45, 46, 47, 48, 49, 50, 51] (by decide +kernel) (by decide +kernel)
set_option maxRecDepth 20000 in
theorem gX10_slot_X7_hasDomain : GoodIn wsX10_slot (wsV RX10 47 RX7 yX7_hasDomain wsX7_hasDomain) := goodIn_app (goodIn_of _ (by decide +kernel)) ggX10_slot_X7_hasDomain
set_option maxRecDepth 20000 in
theorem ggX10_slot_X9_add : GoodIn wsX10_slot wsX9_add := goodIn_r _ [16, 17, 18, 19, 20, 21, 22, 23, 24, 25, 26, 27, 28, 29, 30, 31, 32, 33, 34, 35, 36, 37, 52, 53] (by decide +kernel) (by decide +kernel)
set_option maxRecDepth 20000 in
theorem gX10_slot_X9_add : GoodIn wsX10_slot (wsV RX10 93 RX9 yX9_add wsX9_add) := goodIn_app (goodIn_of _ (by decide +kernel)) ggX10_slot_X9_add
set_option maxRecDepth 20000 in
theorem ggX10_seal_X2_start : GoodIn wsX10_seal wsX2_start := goodIn_r _ [7, 8, 9, 10, 11, 12, 13, 14, 15, 16, 17, 18, 19, 20, 42, 43, 44, 45, 46, 47, 26, 27, 28, 29, 30, 31, 32, 33, 34, 35, 36] (by decide +kernel) (by decide +kernel)
set_option maxRecDepth 20000 in
theorem gX10_seal_X2_start : GoodIn wsX10_seal (wsV RX10 113 RX2 yX2_start wsX2_start) := goodIn_app (goodIn_of _ (by decide +kernel)) ggX10_seal_X2_start
set_option maxRecDepth 20000 in
theorem ggX10_input_X7_hasDomain : GoodIn wsX10_input wsX7_hasDomain := goodIn_r _ [8, 9, 55, 56, 57, 58, 59, 60, 61, 62, 63] (by decide +kernel) (by decide +kernel)
set_option maxRecDepth 20000 in
theorem gX10_input_X7_hasDomain : GoodIn wsX10_input (wsV RX10 47 RX7 yX7_hasDomain wsX7_hasDomain) := goodIn_app (goodIn_of _ (by decide +kernel)) ggX10_input_X7_hasDomain
set_option maxRecDepth 20000 in
theorem ggX10_input_X0_count : GoodIn wsX10_input wsX0_count := goodIn_r _ [14, 15, 86, 87, 88, 89, 78, 79] (by decide +kernel) (by decide +kernel)
set_option maxRecDepth 20000 in
theorem gX10_input_X0_count : GoodIn wsX10_input (wsV RX10 118 RX0 yX0_count wsX0_count) := goodIn_app (goodIn_of _ (by decide +kernel)) ggX10_input_X0_count
set_option maxRecDepth 20000 in
theorem ggX10_input_X0_add : GoodIn wsX10_input wsX0_add := goodIn_r _ [19, 20, 21, 15, 22, 23, 24, 25, 26, 27, 28, 29, 30, 31, 32, 33, 34, 35, 36, 37, 38, 39, 40, 41, 42, 43, 44, 45, 46, 47, 48, 86, 87, 88, 89, 78, 79] (by decide +kernel) (by decide +kernel)
set_option maxRecDepth 20000 in
theorem gX10_input_X0_add : GoodIn wsX10_input (wsV RX10 135 RX0 yX0_add wsX0_add) := goodIn_app (goodIn_of _ (by decide +kernel)) ggX10_input_X0_add
set_option maxRecDepth 20000 in
theorem ggX10_input_X9_add : GoodIn wsX10_input wsX9_add := goodIn_r _ [27, 28, 29, 30, 31, 32, 33, 34, 35, 36, 37, 38, 39, 40, 41, 42, 43, 44, 45, 46, 47, 48, 78, 79] (by decide +kernel) (by decide +kernel)
set_option maxRecDepth 20000 in
theorem gX10_input_X9_add : GoodIn wsX10_input (wsV RX10 93 RX9 yX9_add wsX9_add) := goodIn_app (goodIn_of _ (by decide +kernel)) ggX10_input_X9_add
set_option maxRecDepth 20000 in
theorem ggX10_tick_X5_stepIsDue : GoodIn wsX10_tick wsX5_stepIsDue := goodIn_r _ [8, 9, 10, 11, 12, 13, 14, 15, 16, 17, 18, 19, 20, 21, 22, 23, 24, 25, 26, 27, 28, 29, 30, 31, 293, 294, 295, 296, 297, 304, 305, 306, 307, 308, 309, 310, 311, 312, 298, 299, 300, 301, 302, 303, 284, 285, 286, 287, 288, 289, 290, 291, 292, 313, 314] (by decide +kernel) (by decide +kernel)
set_option maxRecDepth 20000 in
theorem gX10_tick_X5_stepIsDue : GoodIn wsX10_tick (wsV RX10 138 RX5 yX5_stepIsDue wsX5_stepIsDue) := goodIn_app (goodIn_of _ (by decide +kernel)) ggX10_tick_X5_stepIsDue
set_option maxRecDepth 20000 in
theorem ggX10_tick_X0_count : GoodIn wsX10_tick wsX0_count := goodIn_r _ [36, 37, 315, 316, 317, 318, 313, 314] (by decide +kernel) (by decide +kernel)
set_option maxRecDepth 20000 in
theorem gX10_tick_X0_count : GoodIn wsX10_tick (wsV RX10 118 RX0 yX0_count wsX0_count) := goodIn_app (goodIn_of _ (by decide +kernel)) ggX10_tick_X0_count
set_option maxRecDepth 20000 in
theorem ggX10_tick_X2_slotDomain : GoodIn wsX10_tick wsX2_slotDomain := goodIn_r _ [31, 18, 19, 20, 21, 22, 23, 24, 25, 26, 27, 298, 299, 300, 301, 302, 303, 284, 285, 286, 287, 288, 289, 290, 291, 292, 313, 314] (by decide +kernel) (by decide +kernel)
set_option maxRecDepth 20000 in
theorem gX10_tick_X2_slotDomain : GoodIn wsX10_tick (wsV RX10 142 RX2 yX2_slotDomain wsX2_slotDomain) := goodIn_app (goodIn_of _ (by decide +kernel)) ggX10_tick_X2_slotDomain
set_option maxRecDepth 20000 in
theorem ggX10_tick_X5_dueInstruction : GoodIn wsX10_tick wsX5_dueInstruction := goodIn_r _ [42, 10, 43, 11, 28, 29, 30, 15, 31, 18, 19, 20, 21, 22, 23, 24, 25, 26, 27, 44, 293, 294, 295, 296, 297, 284, 285, 286, 287, 288, 289, 290, 291, 292, 304, 305, 306, 307, 308, 309, 310, 311, 312, 298, 299, 300, 301, 302, 303, 313, 314] (by decide +kernel) (by decide +kernel)
set_option maxRecDepth 20000 in
theorem gX10_tick_X5_dueInstruction : GoodIn wsX10_tick (wsV RX10 145 RX5 yX5_dueInstruction wsX5_dueInstruction) := goodIn_app (goodIn_of _ (by decide +kernel)) ggX10_tick_X5_dueInstruction
set_option maxRecDepth 20000 in
theorem ggX10_tick_X0_add : GoodIn wsX10_tick wsX0_add := goodIn_r _ [48, 49, 50, 37, 51, 52, 53, 54, 24, 55, 26, 27, 56, 57, 58, 59, 60, 61, 62, 63, 64, 65, 66, 67, 68, 69, 70, 71, 72, 73, 74, 315, 316, 317, 318, 313, 314] (by decide +kernel) (by decide +kernel)
set_option maxRecDepth 20000 in
theorem gX10_tick_X0_add : GoodIn wsX10_tick (wsV RX10 135 RX0 yX0_add wsX0_add) := goodIn_app (goodIn_of _ (by decide +kernel)) ggX10_tick_X0_add
set_option maxRecDepth 20000 in
theorem ggX10_tick_X5_passWithStep : GoodIn wsX10_tick wsX5_passWithStep := goodIn_r _ [78, 10, 79, 80, 81, 7, 82, 9, 43, 83, 12, 13, 14, 15, 16, 17, 18, 19, 20, 21, 22, 23, 24, 25, 26, 27, 28, 29, 30, 31, 84, 85, 86, 87, 88, 89, 90, 91, 92, 93, 94, 95, 96, 97, 98, 99, 100, 101, 102, 103, 104, 105, 106, 11, 107, 40, 41, 42, 44, 108, 109, 110, 111, 112, 113, 114, 115, 116, 117, 118, 119, 120, 121, 122, 123, 124, 125, 126, 127, 128, 129, 130, 131, 132, 133, 134, 135, 136, 137, 138, 139, 140, 141, 142, 143, 144, 145, 146, 147, 148, 149, 150, 53, 54, 55, 56, 57, 58, 59, 60, 61, 62, 63, 64, 65, 66, 67, 68, 69, 70, 71, 72, 73, 74, 151, 152, 153, 154, 155, 156, 157, 158, 159, 160, 161, 162, 163, 164, 165, 166, 167, 168, 169, 170, 171, 172, 173, 174, 175, 176, 177, 178, 179, 180, 181, 182, 183, 184, 185, 186, 187, 188, 189, 190, 191, 192, 193, 194, 195, 196, 197, 198, 199, 200, 201, 202, 203, 204, 205, 206, 207, 208, 209, 210, 211, 212, 213, 214, 215, 216, 217, 218, 219, 220, 221, 222, 223, 224, 225, 226, 227, 228, 229, 230, 231, 232, 233, 234, 235, 236, 237, 238, 239, 240, 241, 242, 243, 244, 245, 246, 247, 248, 249, 250, 251, 252, 253, 254, 255, 256, 257, 258, 259, 260, 261, 262, 263, 264, 265, 266, 267, 268, 269, 270, 271, 272, 273, 274, 293, 294, 295, 296, 297, 284, 285, 286, 287, 288, 289, 290, 291, 292, 319, 320, 321, 322, 323, 324, 325, 326, 327, 328, 329, 330, 298, 299, 300, 301, 302, 303, 313, 314, 331, 332, 333, 304, 305, 306, 307, 308, 309, 310, 311, 312] (by decide +kernel) (by decide +kernel)
set_option maxRecDepth 20000 in
theorem gX10_tick_X5_passWithStep : GoodIn wsX10_tick (wsV RX10 148 RX5 yX5_passWithStep wsX5_passWithStep) := goodIn_app (goodIn_of _ (by decide +kernel)) ggX10_tick_X5_passWithStep
set_option maxRecDepth 20000 in
theorem ggX10_tick_X5_passIdle : GoodIn wsX10_tick wsX5_passIdle := goodIn_r _ [278, 79, 80, 81, 7, 82, 10, 9, 43, 83, 12, 13, 14, 15, 16, 17, 18, 19, 20, 21, 22, 23, 24, 25, 26, 27, 28, 29, 30, 31, 84, 85, 86, 87, 88, 89, 90, 91, 92, 93, 94, 95, 96, 97, 98, 99, 100, 101, 102, 265, 266, 267, 268, 11, 269, 270, 271, 272, 273, 274, 293, 294, 295, 296, 297, 284, 285, 286, 287, 288, 289, 290, 291, 292, 319, 320, 321, 322, 323, 324, 325, 326, 327, 328, 329, 330, 298, 299, 300, 301, 302, 303, 313, 314, 331, 332, 333, 304, 305, 306, 307, 308, 309, 310, 311, 312] (by decide +kernel) (by decide +kernel)
set_option maxRecDepth 20000 in
theorem gX10_tick_X5_passIdle : GoodIn wsX10_tick (wsV RX10 151 RX5 yX5_passIdle wsX5_passIdle) := goodIn_app (goodIn_of _ (by decide +kernel)) ggX10_tick_X5_passIdle
set_option maxRecDepth 20000 in
theorem ggX10_register_X7_hasDomain : GoodIn wsX10_register wsX7_hasDomain := goodIn_r _ [7, 8, 25, 26, 27, 28, 29, 30, 31, 32, 33] (by decide +kernel) (by decide +kernel)
set_option maxRecDepth 20000 in
theorem gX10_register_X7_hasDomain : GoodIn wsX10_register (wsV RX10 47 RX7 yX7_hasDomain wsX7_hasDomain) := goodIn_app (goodIn_of _ (by decide +kernel)) ggX10_register_X7_hasDomain
set_option maxRecDepth 20000 in
theorem ggX10_register_X3_registerOrZero : GoodIn wsX10_register wsX3_registerOrZero := goodIn_r _ [13, 14, 34, 35, 36, 37, 38, 39, 40, 41, 42] (by decide +kernel) (by decide +kernel)
set_option maxRecDepth 20000 in
theorem gX10_register_X3_registerOrZero : GoodIn wsX10_register (wsV RX10 154 RX3 yX3_registerOrZero wsX3_registerOrZero) := goodIn_app (goodIn_of _ (by decide +kernel)) ggX10_register_X3_registerOrZero
set_option maxRecDepth 20000 in
theorem ggX10_cell_X7_hasDomain : GoodIn wsX10_cell wsX7_hasDomain := goodIn_r _ [7, 8, 28, 29, 30, 31, 32, 33, 34, 35, 36] (by decide +kernel) (by decide +kernel)
set_option maxRecDepth 20000 in
theorem gX10_cell_X7_hasDomain : GoodIn wsX10_cell (wsV RX10 47 RX7 yX7_hasDomain wsX7_hasDomain) := goodIn_app (goodIn_of _ (by decide +kernel)) ggX10_cell_X7_hasDomain
set_option maxRecDepth 20000 in
theorem ggX10_cell_X3_cellOrZero : GoodIn wsX10_cell wsX3_cellOrZero := goodIn_r _ [13, 14, 15, 16, 12, 17, 37, 38, 39, 40, 41, 42, 43, 44, 45] (by decide +kernel) (by decide +kernel)
set_option maxRecDepth 20000 in
theorem gX10_cell_X3_cellOrZero : GoodIn wsX10_cell (wsV RX10 158 RX3 yX3_cellOrZero wsX3_cellOrZero) := goodIn_app (goodIn_of _ (by decide +kernel)) ggX10_cell_X3_cellOrZero
set_option maxRecDepth 20000 in
theorem ggX10_of_X7_hasDomain : GoodIn wsX10_of wsX7_hasDomain := goodIn_r _ [7, 8, 35, 36, 37, 38, 39, 40, 41, 42, 43] (by decide +kernel) (by decide +kernel)
set_option maxRecDepth 20000 in
theorem gX10_of_X7_hasDomain : GoodIn wsX10_of (wsV RX10 47 RX7 yX7_hasDomain wsX7_hasDomain) := goodIn_app (goodIn_of _ (by decide +kernel)) ggX10_of_X7_hasDomain
set_option maxRecDepth 20000 in
theorem ggX10_of_X7_reigns : GoodIn wsX10_of wsX7_reigns := goodIn_r _ [12, 13, 8, 35, 36, 37, 38, 39, 40, 41, 42, 43] (by decide +kernel) (by decide +kernel)
set_option maxRecDepth 20000 in
theorem gX10_of_X7_reigns : GoodIn wsX10_of (wsV RX10 179 RX7 yX7_reigns wsX7_reigns) := goodIn_app (goodIn_of _ (by decide +kernel)) ggX10_of_X7_reigns
set_option maxRecDepth 20000 in
theorem ggX10_output_X7_hasDomain : GoodIn wsX10_output wsX7_hasDomain := goodIn_r _ [7, 8, 35, 36, 37, 38, 39, 40, 41, 42, 43] (by decide +kernel) (by decide +kernel)
set_option maxRecDepth 20000 in
theorem gX10_output_X7_hasDomain : GoodIn wsX10_output (wsV RX10 47 RX7 yX7_hasDomain wsX7_hasDomain) := goodIn_app (goodIn_of _ (by decide +kernel)) ggX10_output_X7_hasDomain
set_option maxRecDepth 20000 in
theorem ggX10_output_X9_get : GoodIn wsX10_output wsX9_get := goodIn_r _ [13, 14, 15, 44, 45] (by decide +kernel) (by decide +kernel)
set_option maxRecDepth 20000 in
theorem gX10_output_X9_get : GoodIn wsX10_output (wsV RX10 182 RX9 yX9_get wsX9_get) := goodIn_app (goodIn_of _ (by decide +kernel)) ggX10_output_X9_get
set_option maxRecDepth 20000 in
theorem ggX10_at_X6_left : GoodIn wsX10_at wsX6_left := goodIn_r _ [7, 8, 9, 54, 55, 56] (by decide +kernel) (by decide +kernel)
set_option maxRecDepth 20000 in
theorem gX10_at_X6_left : GoodIn wsX10_at (wsV RX10 203 RX6 yX6_left wsX6_left) := goodIn_app (goodIn_of _ (by decide +kernel)) ggX10_at_X6_left
set_option maxRecDepth 20000 in
theorem ggX10_at_X1_age : GoodIn wsX10_at wsX1_age := goodIn_r _ [14, 15, 16, 36, 37, 38, 39, 40, 41, 42, 43] (by decide +kernel) (by decide +kernel)
set_option maxRecDepth 20000 in
theorem gX10_at_X1_age : GoodIn wsX10_at (wsV RX10 217 RX1 yX1_age wsX1_age) := goodIn_app (goodIn_of _ (by decide +kernel)) ggX10_at_X1_age
set_option maxRecDepth 20000 in
theorem ggX10_told_X0_count : GoodIn wsX10_told wsX0_count := goodIn_r _ [8, 9, 50, 51, 52, 53, 54, 55] (by decide +kernel) (by decide +kernel)
set_option maxRecDepth 20000 in
theorem gX10_told_X0_count : GoodIn wsX10_told (wsV RX10 118 RX0 yX0_count wsX0_count) := goodIn_app (goodIn_of _ (by decide +kernel)) ggX10_told_X0_count
set_option maxRecDepth 20000 in
theorem ggX10_told_X2_slotDomain : GoodIn wsX10_told wsX2_slotDomain := goodIn_r _ [14, 15, 16, 17, 18, 19, 20, 21, 22, 23, 24, 35, 36, 37, 38, 39, 40, 41, 42, 43, 44, 45, 46, 47, 48, 49, 54, 55] (by decide +kernel) (by decide +kernel)
set_option maxRecDepth 20000 in
theorem gX10_told_X2_slotDomain : GoodIn wsX10_told (wsV RX10 142 RX2 yX2_slotDomain wsX2_slotDomain) := goodIn_app (goodIn_of _ (by decide +kernel)) ggX10_told_X2_slotDomain
set_option maxRecDepth 20000 in
theorem ggX10_action_X9_get : GoodIn wsX10_action wsX9_get := goodIn_r _ [6, 7, 8, 18, 19] (by decide +kernel) (by decide +kernel)
set_option maxRecDepth 20000 in
theorem gX10_action_X9_get : GoodIn wsX10_action (wsV RX10 182 RX9 yX9_get wsX9_get) := goodIn_app (goodIn_of _ (by decide +kernel)) ggX10_action_X9_get
set_option maxRecDepth 20000 in
theorem ggX10_purge_X7_hasDomain : GoodIn wsX10_purge wsX7_hasDomain := goodIn_r _ [12, 13, 368, 369, 370, 371, 372, 373, 374, 375, 376] (by decide +kernel) (by decide +kernel)
set_option maxRecDepth 20000 in
theorem gX10_purge_X7_hasDomain : GoodIn wsX10_purge (wsV RX10 47 RX7 yX7_hasDomain wsX7_hasDomain) := goodIn_app (goodIn_of _ (by decide +kernel)) ggX10_purge_X7_hasDomain
set_option maxRecDepth 20000 in
theorem ggX10_purge_X8_init : GoodIn wsX10_purge wsX8_init := goodIn_r _ [16, 17, 18, 19, 20, 21, 22, 23, 24, 25, 26, 27, 28, 29, 30, 31, 32, 33, 34, 35, 36, 37, 38, 39, 40, 41, 42, 43, 44, 45, 46, 47, 48, 49, 50, 51, 52, 53, 54, 55, 56, 57, 58, 59, 60, 61, 62, 63, 64, 65, 66, 67, 68, 69, 70, 71, 72, 73, 74, 75, 76, 77, 78, 79, 80, 81, 82, 83, 84, 85, 86, 377, 378, 379, 380, 381, 382, 383, 384, 385, 386, 368, 369, 370, 371, 372, 373, 374, 375, 376, 393, 394, 395, 396, 397, 398, 399, 400, 401, 402, 403, 404, 405, 406, 407, 408, 409, 387, 388, 389, 390, 391, 392, 410, 411, 412, 413, 414, 415, 416, 417, 418] (by decide +kernel) (by decide +kernel)
set_option maxRecDepth 20000 in
theorem gX10_purge_X8_init : GoodIn wsX10_purge (wsX8_init) := ggX10_purge_X8_init
set_option maxRecDepth 20000 in
theorem ggX10_purge_X8_choose : GoodIn wsX10_purge wsX8_choose := goodIn_r _ [90, 91, 26, 92, 61, 62, 63, 25, 93, 20, 94, 95, 96, 97, 98, 99, 100, 101, 102, 53, 103, 104, 64, 377, 378, 379, 380, 381, 419, 420, 421, 422, 368, 369, 370, 371, 372, 373, 374, 375, 376, 410, 411] (by decide +kernel) (by decide +kernel)
set_option maxRecDepth 20000 in
theorem gX10_purge_X8_choose : GoodIn wsX10_purge (wsV RX10 252 RX8 yX8_choose wsX8_choose) := goodIn_app (goodIn_of _ (by decide +kernel)) ggX10_purge_X8_choose
set_option maxRecDepth 20000 in
theorem ggX10_purge_X8_redo : GoodIn wsX10_purge wsX8_redo := goodIn_r _ [108, 24, 91, 26, 109, 110, 111, 23, 112, 31, 33, 37, 43, 113, 114, 115, 116, 35, 117, 54, 55, 118, 119, 120, 121, 122, 123, 124, 125, 126, 49, 50, 127, 128, 129, 130, 131, 132, 133, 53, 134, 104, 135, 136, 137, 39, 138, 73, 74, 139, 140, 75, 141, 142, 143, 144, 145, 72, 146, 147, 148, 149, 150, 151, 152, 42, 153, 154, 155, 156, 86, 157, 158, 159, 101, 102, 103, 64, 100, 160, 161, 162, 163, 164, 165, 166, 167, 168, 169, 170, 171, 172, 173, 174, 175, 176, 177, 178, 179, 180, 181, 182, 183, 184, 185, 186, 187, 188, 189, 190, 191, 192, 193, 194, 195, 196, 197, 198, 199, 200, 201, 202, 203, 204, 205, 206, 207, 208, 48, 209, 210, 62, 211, 212, 213, 214, 215, 216, 217, 218, 219, 220, 221, 222, 223, 224, 225, 226, 227, 228, 229, 230, 231, 232, 233, 234, 235, 236, 237, 238, 239, 240, 241, 242, 243, 244, 245, 246, 247, 248, 249, 250, 251, 252, 253, 254, 255, 256, 257, 258, 259, 260, 261, 262, 263, 264, 265, 266, 267, 268, 269, 270, 271, 272, 273, 274, 275, 276, 277, 278, 279, 280, 281, 282, 283, 284, 285, 286, 287, 288, 289, 290, 291, 292, 293, 294, 295, 296, 297, 298, 299, 300, 301, 302, 303, 304, 305, 81, 306, 307, 308, 309, 310, 311, 312, 313, 314, 315, 316, 317, 318, 319, 320, 321, 322, 323, 324, 325, 326, 327, 328, 329, 330, 331, 332, 333, 334, 335, 336, 337, 338, 339, 9, 10, 11, 12, 13, 340, 341, 342, 343, 344, 345, 346, 347, 348, 349, 350, 351, 352, 353, 354, 355, 356, 357, 358, 359, 360, 361, 362, 377, 378, 379, 380, 381, 419, 420, 421, 422, 382, 383, 384, 385, 386, 393, 394, 395, 396, 397, 398, 399, 400, 401, 368, 369, 370, 371, 372, 373, 374, 375, 376, 410, 411, 402, 403, 404, 405, 406, 407, 408, 409, 416, 417, 418, 387, 388, 389, 390, 391, 392, 412, 413, 414, 415] (by decide +kernel) (by decide +kernel)
set_option maxRecDepth 20000 in
theorem gX10_purge_X8_redo : GoodIn wsX10_purge (wsV RX10 256 RX8 yX8_redo wsX8_redo) := goodIn_app (goodIn_of _ (by decide +kernel)) ggX10_purge_X8_redo
