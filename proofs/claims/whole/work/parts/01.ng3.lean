set_option maxRecDepth 20000 in
theorem ggX10_purged_X7_hasDomain : GoodIn wsX10_purged wsX7_hasDomain := goodIn_r _ [7, 8, 56, 57, 58, 59, 60, 61, 62, 63, 64] (by decide +kernel) (by decide +kernel)
set_option maxRecDepth 20000 in
theorem gX10_purged_X7_hasDomain : GoodIn wsX10_purged (wsV RX10 47 RX7 yX7_hasDomain wsX7_hasDomain) := goodIn_app (goodIn_of _ (by decide +kernel)) ggX10_purged_X7_hasDomain
set_option maxRecDepth 20000 in
theorem ggX10_purged_X3_registerOrZero : GoodIn wsX10_purged wsX3_registerOrZero := goodIn_r _ [13, 14, 45, 46, 47, 48, 49, 50, 51, 52, 53] (by decide +kernel) (by decide +kernel)
set_option maxRecDepth 20000 in
theorem gX10_purged_X3_registerOrZero : GoodIn wsX10_purged (wsV RX10 154 RX3 yX3_registerOrZero wsX3_registerOrZero) := goodIn_app (goodIn_of _ (by decide +kernel)) ggX10_purged_X3_registerOrZero
set_option maxRecDepth 20000 in
theorem ggX10_purged_X3_cellOrZero : GoodIn wsX10_purged wsX3_cellOrZero := goodIn_r _ [18, 19, 20, 21, 12, 22, 45, 46, 47, 48, 49, 50, 51, 52, 53] (by decide +kernel) (by decide +kernel)
set_option maxRecDepth 20000 in
theorem gX10_purged_X3_cellOrZero : GoodIn wsX10_purged (wsV RX10 158 RX3 yX3_cellOrZero wsX3_cellOrZero) := goodIn_app (goodIn_of _ (by decide +kernel)) ggX10_purged_X3_cellOrZero
set_option maxRecDepth 20000 in
theorem ggX10_purged_X9_get : GoodIn wsX10_purged wsX9_get := goodIn_r _ [27, 28, 29, 54, 55] (by decide +kernel) (by decide +kernel)
set_option maxRecDepth 20000 in
theorem gX10_purged_X9_get : GoodIn wsX10_purged (wsV RX10 182 RX9 yX9_get wsX9_get) := goodIn_app (goodIn_of _ (by decide +kernel)) ggX10_purged_X9_get
set_option maxRecDepth 20000 in
theorem ggX10_undisturbed_X7_hasDomain : GoodIn wsX10_undisturbed wsX7_hasDomain := goodIn_r _ [12, 13, 394, 395, 396, 397, 398, 399, 400, 401, 402] (by decide +kernel) (by decide +kernel)
set_option maxRecDepth 20000 in
theorem gX10_undisturbed_X7_hasDomain : GoodIn wsX10_undisturbed (wsV RX10 47 RX7 yX7_hasDomain wsX7_hasDomain) := goodIn_app (goodIn_of _ (by decide +kernel)) ggX10_undisturbed_X7_hasDomain
set_option maxRecDepth 20000 in
theorem ggX10_undisturbed_X8_init : GoodIn wsX10_undisturbed wsX8_init := goodIn_r _ [16, 17, 18, 19, 20, 21, 22, 23, 24, 25, 26, 27, 28, 29, 30, 31, 32, 33, 34, 35, 36, 37, 38, 39, 40, 41, 42, 43, 44, 45, 46, 47, 48, 49, 50, 51, 52, 53, 54, 55, 56, 57, 58, 59, 60, 61, 62, 63, 64, 65, 66, 67, 68, 69, 70, 71, 72, 73, 74, 75, 76, 77, 78, 79, 80, 81, 82, 83, 84, 85, 86, 403, 404, 405, 406, 407, 408, 409, 410, 411, 412, 394, 395, 396, 397, 398, 399, 400, 401, 402, 419, 420, 421, 422, 423, 424, 425, 426, 427, 428, 429, 430, 431, 432, 433, 434, 435, 413, 414, 415, 416, 417, 418, 436, 437, 438, 439, 440, 441, 442, 443, 444] (by decide +kernel) (by decide +kernel)
set_option maxRecDepth 20000 in
theorem gX10_undisturbed_X8_init : GoodIn wsX10_undisturbed (wsX8_init) := ggX10_undisturbed_X8_init
set_option maxRecDepth 20000 in
theorem ggX10_undisturbed_X8_choose : GoodIn wsX10_undisturbed wsX8_choose := goodIn_r _ [90, 91, 26, 92, 61, 62, 63, 25, 93, 20, 94, 95, 96, 97, 98, 99, 100, 101, 102, 53, 103, 104, 64, 403, 404, 405, 406, 407, 445, 446, 447, 448, 394, 395, 396, 397, 398, 399, 400, 401, 402, 436, 437] (by decide +kernel) (by decide +kernel)
set_option maxRecDepth 20000 in
theorem gX10_undisturbed_X8_choose : GoodIn wsX10_undisturbed (wsV RX10 252 RX8 yX8_choose wsX8_choose) := goodIn_app (goodIn_of _ (by decide +kernel)) ggX10_undisturbed_X8_choose
set_option maxRecDepth 20000 in
theorem ggX10_undisturbed_X8_redo : GoodIn wsX10_undisturbed wsX8_redo := goodIn_r _ [108, 24, 91, 26, 109, 110, 111, 23, 112, 31, 33, 37, 43, 113, 114, 115, 116, 35, 117, 54, 55, 118, 119, 120, 121, 122, 123, 124, 125, 126, 49, 50, 127, 128, 129, 130, 131, 132, 133, 53, 134, 104, 135, 136, 137, 39, 138, 73, 74, 139, 140, 75, 141, 142, 143, 144, 145, 72, 146, 147, 148, 149, 150, 151, 152, 42, 153, 154, 155, 156, 86, 157, 158, 159, 101, 102, 103, 64, 100, 160, 161, 162, 163, 164, 165, 166, 167, 168, 169, 170, 171, 172, 173, 174, 175, 176, 177, 178, 179, 180, 181, 182, 183, 184, 185, 186, 187, 188, 189, 190, 191, 192, 193, 194, 195, 196, 197, 198, 199, 200, 201, 202, 203, 204, 205, 206, 207, 208, 48, 209, 210, 62, 211, 212, 213, 214, 215, 216, 217, 218, 219, 220, 221, 222, 223, 224, 225, 226, 227, 228, 229, 230, 231, 232, 233, 234, 235, 236, 237, 238, 239, 240, 241, 242, 243, 244, 245, 246, 247, 248, 249, 250, 251, 252, 253, 254, 255, 256, 257, 258, 259, 260, 261, 262, 263, 264, 265, 266, 267, 268, 269, 270, 271, 272, 273, 274, 275, 276, 277, 278, 279, 280, 281, 282, 283, 284, 285, 286, 287, 288, 289, 290, 291, 292, 293, 294, 295, 296, 297, 298, 299, 300, 301, 302, 303, 304, 305, 81, 306, 307, 308, 309, 310, 311, 312, 313, 314, 315, 316, 317, 318, 319, 320, 321, 322, 323, 324, 325, 326, 327, 328, 329, 330, 331, 332, 333, 334, 335, 336, 337, 338, 339, 9, 10, 11, 12, 13, 340, 341, 342, 343, 344, 345, 346, 347, 348, 349, 350, 351, 352, 353, 354, 355, 356, 357, 358, 359, 360, 361, 362, 403, 404, 405, 406, 407, 445, 446, 447, 448, 408, 409, 410, 411, 412, 419, 420, 421, 422, 423, 424, 425, 426, 427, 394, 395, 396, 397, 398, 399, 400, 401, 402, 436, 437, 428, 429, 430, 431, 432, 433, 434, 435, 442, 443, 444, 413, 414, 415, 416, 417, 418, 438, 439, 440, 441] (by decide +kernel) (by decide +kernel)
set_option maxRecDepth 20000 in
theorem gX10_undisturbed_X8_redo : GoodIn wsX10_undisturbed (wsV RX10 256 RX8 yX8_redo wsX8_redo) := goodIn_app (goodIn_of _ (by decide +kernel)) ggX10_undisturbed_X8_redo
set_option maxRecDepth 20000 in
theorem ggX10_undisturbed_X5_looksSameTo : GoodIn wsX10_undisturbed wsX5_looksSameTo := goodIn_r _ [366, 33, 31, 37, 43, 367, 368, 369, 35, 370, 126, 118, 119, 49, 50, 54, 55, 371, 372, 373, 53, 374, 104, 64, 375, 376, 377, 39, 378, 69, 73, 74, 75, 379, 380, 381, 72, 382, 148, 383, 185, 186, 187, 147, 384, 385, 386, 387, 81, 388, 331, 332, 333, 141, 142, 408, 409, 410, 411, 412, 394, 395, 396, 397, 398, 399, 400, 401, 402, 428, 429, 430, 431, 432, 433, 434, 435, 438, 439, 440, 441, 413, 414, 415, 416, 417, 418, 419, 420, 421, 422, 423, 424, 425, 426, 427, 436, 437, 442, 443, 444] (by decide +kernel) (by decide +kernel)
set_option maxRecDepth 20000 in
theorem gX10_undisturbed_X5_looksSameTo : GoodIn wsX10_undisturbed (wsV RX10 273 RX5 yX5_looksSameTo wsX5_looksSameTo) := goodIn_app (goodIn_of _ (by decide +kernel)) ggX10_undisturbed_X5_looksSameTo
set_option maxRecDepth 20000 in
theorem ggX11_reigns_X11_flowsTo : GoodIn wsX11_reigns wsX11_flowsTo := goodIn_r _ [6, 7, 8, 9, 10, 11, 12, 13, 14, 15, 16, 17, 18, 19, 20, 21, 22, 23, 24, 25, 26, 27, 28, 29, 30, 31, 32, 33, 34, 35, 36, 37, 38, 39, 40, 41, 42, 43, 44, 45, 46, 47, 48, 49, 50, 51, 52, 53, 54, 55, 56, 57, 58, 59, 60, 61, 62, 63] (by decide +kernel) (by decide +kernel)
set_option maxRecDepth 20000 in
theorem gX11_reigns_X11_flowsTo : GoodIn wsX11_reigns (wsV RX11 172 RX11 yX11_flowsTo wsX11_flowsTo) := goodIn_app (goodIn_of _ (by decide +kernel)) ggX11_reigns_X11_flowsTo
set_option maxRecDepth 20000 in
theorem ggX11_flow_X11_isDomain : GoodIn wsX11_flow wsX11_isDomain := goodIn_r _ [10, 11, 12, 13, 14, 15, 16, 17, 18, 19, 20, 21, 22, 23, 24, 25, 26, 27, 28, 29, 30, 31, 32, 33, 34, 35, 36, 37, 38, 39, 40, 41, 42, 43, 44, 45, 46, 47, 48, 49, 50, 51, 52, 53, 54, 55, 56, 57, 58, 59, 60, 61, 62, 63, 64, 65, 66, 67] (by decide +kernel) (by decide +kernel)
set_option maxRecDepth 20000 in
theorem gX11_flow_X11_isDomain : GoodIn wsX11_flow (wsV RX11 176 RX11 yX11_isDomain wsX11_isDomain) := goodIn_app (goodIn_of _ (by decide +kernel)) ggX11_flow_X11_isDomain
set_option maxRecDepth 20000 in
theorem ggX11_channel_X11_isDomain : GoodIn wsX11_channel wsX11_isDomain := goodIn_r _ [12, 13, 14, 15, 16, 17, 18, 19, 20, 21, 22, 23, 24, 25, 26, 27, 28, 29, 30, 31, 32, 33, 34, 35, 36, 37, 38, 39, 40, 41, 42, 43, 44, 45, 46, 47, 48, 49, 50, 51, 52, 53, 54, 55, 56, 57, 58, 59, 60, 61, 62, 63, 64, 65, 66, 67, 68, 69] (by decide +kernel) (by decide +kernel)
set_option maxRecDepth 20000 in
theorem gX11_channel_X11_isDomain : GoodIn wsX11_channel (wsV RX11 176 RX11 yX11_isDomain wsX11_isDomain) := goodIn_app (goodIn_of _ (by decide +kernel)) ggX11_channel_X11_isDomain
set_option maxRecDepth 20000 in
theorem ggX11_code_X11_isDomain : GoodIn wsX11_code wsX11_isDomain := goodIn_r _ [8, 9, 10, 11, 12, 13, 14, 15, 16, 17, 18, 19, 20, 21, 22, 23, 24, 25, 26, 27, 28, 29, 30, 31, 32, 33, 34, 35, 36, 37, 38, 39, 40, 41, 42, 43, 44, 45, 46, 47, 48, 49, 50, 51, 52, 53, 54, 55, 56, 57, 58, 59, 60, 61, 62, 63, 64, 65] (by decide +kernel) (by decide +kernel)
set_option maxRecDepth 20000 in
theorem gX11_code_X11_isDomain : GoodIn wsX11_code (wsV RX11 176 RX11 yX11_isDomain wsX11_isDomain) := goodIn_app (goodIn_of _ (by decide +kernel)) ggX11_code_X11_isDomain
set_option maxRecDepth 20000 in
theorem ggX11_onFail_X11_isDomain : GoodIn wsX11_onFail wsX11_isDomain := goodIn_r _ [7, 8, 9, 10, 11, 12, 13, 14, 15, 16, 17, 18, 19, 20, 21, 22, 23, 24, 25, 26, 27, 28, 29, 30, 31, 32, 33, 34, 35, 36, 37, 38, 39, 40, 41, 42, 43, 44, 45, 46, 47, 48, 49, 50, 51, 52, 53, 54, 55, 56, 57, 58, 59, 60, 61, 62, 63, 64] (by decide +kernel) (by decide +kernel)
set_option maxRecDepth 20000 in
theorem gX11_onFail_X11_isDomain : GoodIn wsX11_onFail (wsV RX11 176 RX11 yX11_isDomain wsX11_isDomain) := goodIn_app (goodIn_of _ (by decide +kernel)) ggX11_onFail_X11_isDomain
set_option maxRecDepth 20000 in
theorem ggX11_slot_X11_isDomain : GoodIn wsX11_slot wsX11_isDomain := goodIn_r _ [9, 10, 11, 12, 13, 14, 15, 16, 17, 18, 19, 20, 21, 22, 23, 24, 25, 26, 27, 28, 29, 30, 31, 32, 33, 34, 35, 36, 37, 38, 39, 40, 41, 42, 43, 44, 45, 46, 47, 48, 49, 50, 51, 52, 53, 54, 55, 56, 57, 58, 59, 60, 61, 62, 63, 64, 65, 66] (by decide +kernel) (by decide +kernel)
set_option maxRecDepth 20000 in
theorem gX11_slot_X11_isDomain : GoodIn wsX11_slot (wsV RX11 176 RX11 yX11_isDomain wsX11_isDomain) := goodIn_app (goodIn_of _ (by decide +kernel)) ggX11_slot_X11_isDomain
set_option maxRecDepth 20000 in
theorem ggX11_seal_X11_reset : GoodIn wsX11_seal wsX11_reset := goodIn_r _ [7, 8, 9, 10, 11, 12, 13, 14, 15, 16, 17, 18, 19, 20, 21, 22, 23, 24, 25, 26, 27, 28, 29, 30, 31, 32, 33, 34, 35, 36, 37, 38, 39, 40, 41, 42, 43, 44, 45, 46, 47, 48, 49, 50, 51, 52, 53, 54, 55, 56, 57, 58, 59, 60, 61, 62, 63, 64, 65, 66, 67, 68, 69, 70, 71, 72, 73, 74, 75, 76, 77, 78, 79, 80, 81, 82, 83, 84, 85, 86, 87, 88, 89] (by decide +kernel) (by decide +kernel)
set_option maxRecDepth 20000 in
theorem gX11_seal_X11_reset : GoodIn wsX11_seal (wsV RX11 187 RX11 yX11_reset wsX11_reset) := goodIn_app (goodIn_of _ (by decide +kernel)) ggX11_seal_X11_reset
set_option maxRecDepth 20000 in
theorem ggX11_isReady_X11_slotDomain : GoodIn wsX11_isReady wsX11_slotDomain := goodIn_r _ [8, 9, 10, 11, 12, 13, 14, 15, 16, 17, 18, 19, 20, 21, 22, 23, 24, 25, 26, 27, 28, 29, 30, 31, 32, 33, 34, 35, 36, 37, 38, 39, 40, 41, 42, 43, 44, 45, 46, 47, 48, 49, 50, 51, 52, 53, 54, 55, 56, 57, 58, 59, 60, 61, 62, 63, 64, 65, 66, 67] (by decide +kernel) (by decide +kernel)
set_option maxRecDepth 20000 in
theorem gX11_isReady_X11_slotDomain : GoodIn wsX11_isReady (wsV RX11 191 RX11 yX11_slotDomain wsX11_slotDomain) := goodIn_app (goodIn_of _ (by decide +kernel)) ggX11_isReady_X11_slotDomain
set_option maxRecDepth 20000 in
theorem ggX11_pass_X11_slotDomain : GoodIn wsX11_pass wsX11_slotDomain := goodIn_r _ [14, 15, 7, 5, 97, 98, 99, 100, 101, 102, 103, 104, 105, 106, 107, 108, 109, 110, 111, 112, 113, 114, 115, 116, 117, 118, 119, 120, 121, 122, 123, 124, 125, 126, 127, 128, 129, 130, 131, 132, 133, 134, 135, 136, 137, 138, 139, 140, 141, 142, 143, 144, 145, 146, 147, 148, 149, 150, 151, 152] (by decide +kernel) (by decide +kernel)
set_option maxRecDepth 20000 in
theorem gX11_pass_X11_slotDomain : GoodIn wsX11_pass (wsV RX11 191 RX11 yX11_slotDomain wsX11_slotDomain) := goodIn_app (goodIn_of _ (by decide +kernel)) ggX11_pass_X11_slotDomain
set_option maxRecDepth 20000 in
theorem ggX11_pass_X11_beginSlot : GoodIn wsX11_pass wsX11_beginSlot := goodIn_r _ [19, 20, 21, 22, 23, 24, 25, 26, 27, 28, 29, 30, 31, 32, 1, 97, 98, 99, 100, 101, 102, 103, 104, 105, 106, 107, 108, 109, 110, 111, 112, 113, 114, 115, 116, 117, 118, 119, 120, 121, 122, 123, 124, 125, 126, 127, 128, 129, 130, 131, 132, 133, 134, 135, 136, 137, 138, 139, 140, 141, 142, 143, 144, 145, 146, 147, 148, 149, 150, 151, 152] (by decide +kernel) (by decide +kernel)
set_option maxRecDepth 20000 in
theorem gX11_pass_X11_beginSlot : GoodIn wsX11_pass (wsV RX11 195 RX11 yX11_beginSlot wsX11_beginSlot) := goodIn_app (goodIn_of _ (by decide +kernel)) ggX11_pass_X11_beginSlot
set_option maxRecDepth 20000 in
theorem ggX11_pass_X11_step : GoodIn wsX11_pass wsX11_step := goodIn_r _ [36, 37, 38, 39, 40, 41, 42, 43, 44, 45, 46, 47, 48, 13, 49, 50, 51, 52, 3, 32, 8, 4, 53, 54, 55, 56, 20, 21, 30, 22, 31, 57, 24, 26, 58, 59, 60, 61, 62, 63, 64, 65, 66, 67, 68, 69, 70, 71, 72, 25, 27, 29, 73, 74, 75, 76, 77, 78, 79, 80, 81, 82, 83, 84, 85, 86, 87, 88, 89, 90, 91, 92, 93, 94, 95, 96, 97, 98, 99, 100, 101, 102, 103, 104, 105, 106, 107, 108, 109, 110, 111, 112, 113, 114, 115, 116, 117, 118, 119, 120, 121, 122, 123, 124, 125, 126, 127, 128, 129, 130, 131, 132, 133, 134, 135, 136, 137, 138, 139, 140, 141, 142, 143, 144, 145, 146, 147, 148, 149, 150, 151, 152] (by decide +kernel) (by decide +kernel)
set_option maxRecDepth 20000 in
theorem gX11_pass_X11_step : GoodIn wsX11_pass (wsV RX11 199 RX11 yX11_step wsX11_step) := goodIn_app (goodIn_of _ (by decide +kernel)) ggX11_pass_X11_step
set_option maxRecDepth 20000 in
theorem ggX11_step_X11_does : GoodIn wsX11_step wsX11_does := goodIn_r _ [14, 8, 7, 15, 2, 9, 16, 17, 18, 19, 20, 21, 22, 23, 24, 13, 25, 26, 27, 28, 29, 30, 31, 32, 33, 34, 35, 36, 37, 38, 39, 40, 41, 42, 43, 44, 45, 46, 47, 48, 49, 50, 51, 52, 53, 54, 55, 56, 57, 58, 59, 60, 61, 62, 63, 64, 65, 66, 67, 68, 69, 70, 71, 72, 73, 74, 75, 76, 77, 78, 79, 80, 81, 82, 83, 84, 85, 86, 87, 88, 89, 90, 91, 92, 93, 94, 95, 96, 97, 98, 99, 100, 101, 102, 103, 104, 105, 106, 107, 108, 109, 110, 111, 112, 113, 114, 115, 116, 117, 118, 119, 120, 121, 122, 123, 124, 125, 126, 127, 128, 129, 130, 131] (by decide +kernel) (by decide +kernel)
set_option maxRecDepth 20000 in
theorem gX11_step_X11_does : GoodIn wsX11_step (wsV RX11 202 RX11 yX11_does wsX11_does) := goodIn_app (goodIn_of _ (by decide +kernel)) ggX11_step_X11_does
set_option maxRecDepth 20000 in
theorem ggX11_does_X11_sends : GoodIn wsX11_does wsX11_sends := goodIn_r _ [16, 17, 18, 19, 20, 21, 22, 1, 23, 24, 25, 5, 26, 27, 28, 29, 30, 8, 31, 32, 15, 33, 34, 35, 36, 37, 38, 39, 40, 41, 42, 43, 44, 45, 46, 67, 68, 69, 70, 71, 72, 73, 74, 75, 76, 77, 78, 79, 80, 81, 82, 83, 84, 85, 86, 87, 88, 89, 90, 91, 92, 93, 94, 95, 96, 97, 98, 99, 100, 101, 102, 103, 104, 105, 106, 107, 108, 109, 110, 111, 112, 113, 114, 115, 116, 117, 118, 119, 120, 121, 122] (by decide +kernel) (by decide +kernel)
set_option maxRecDepth 20000 in
theorem gX11_does_X11_sends : GoodIn wsX11_does (wsV RX11 208 RX11 yX11_sends wsX11_sends) := goodIn_app (goodIn_of _ (by decide +kernel)) ggX11_does_X11_sends
set_option maxRecDepth 20000 in
theorem ggX11_does_X11_areCells : GoodIn wsX11_does wsX11_areCells := goodIn_r _ [33, 34] (by decide +kernel) (by decide +kernel)
set_option maxRecDepth 20000 in
theorem gX11_does_X11_areCells : GoodIn wsX11_does (va_wsS RX11 213 yX11_areCells wsX11_areCells) := goodIn_app (goodIn_of _ (by decide +kernel)) ggX11_does_X11_areCells
set_option maxRecDepth 20000 in
theorem ggX11_does_X11_take : GoodIn wsX11_does wsX11_take := goodIn_r _ [50, 51, 1, 52, 67, 68, 69, 70, 71, 72, 73, 74, 75, 76, 77, 78, 79, 80, 81, 82, 83, 84, 85, 86, 87, 88, 89, 90, 91, 92, 93, 94, 95, 96, 97, 98, 99, 100, 101, 102, 103, 104, 105, 106, 107, 108, 109, 110, 111, 112, 113, 114, 115, 116, 117, 118, 119, 120, 121, 122] (by decide +kernel) (by decide +kernel)
set_option maxRecDepth 20000 in
theorem gX11_does_X11_take : GoodIn wsX11_does (wsV RX11 217 RX11 yX11_take wsX11_take) := goodIn_app (goodIn_of _ (by decide +kernel)) ggX11_does_X11_take
set_option maxRecDepth 20000 in
theorem ggX11_does_X11_isDomain : GoodIn wsX11_does wsX11_isDomain := goodIn_r _ [56, 57, 67, 68, 69, 70, 71, 72, 73, 74, 75, 76, 77, 78, 79, 80, 81, 82, 83, 84, 85, 86, 87, 88, 89, 90, 91, 92, 93, 94, 95, 96, 97, 98, 99, 100, 101, 102, 103, 104, 105, 106, 107, 108, 109, 110, 111, 112, 113, 114, 115, 116, 117, 118, 119, 120, 121, 122] (by decide +kernel) (by decide +kernel)
set_option maxRecDepth 20000 in
theorem gX11_does_X11_isDomain : GoodIn wsX11_does (wsV RX11 176 RX11 yX11_isDomain wsX11_isDomain) := goodIn_app (goodIn_of _ (by decide +kernel)) ggX11_does_X11_isDomain
set_option maxRecDepth 20000 in
theorem ggX11_does_X11_flowsTo : GoodIn wsX11_does wsX11_flowsTo := goodIn_r _ [61, 62, 67, 68, 69, 70, 71, 72, 73, 74, 75, 76, 77, 78, 79, 80, 81, 82, 83, 84, 85, 86, 87, 88, 89, 90, 91, 92, 93, 94, 95, 96, 97, 98, 99, 100, 101, 102, 103, 104, 105, 106, 107, 108, 109, 110, 111, 112, 113, 114, 115, 116, 117, 118, 119, 120, 121, 122] (by decide +kernel) (by decide +kernel)
set_option maxRecDepth 20000 in
theorem gX11_does_X11_flowsTo : GoodIn wsX11_does (wsV RX11 172 RX11 yX11_flowsTo wsX11_flowsTo) := goodIn_app (goodIn_of _ (by decide +kernel)) ggX11_does_X11_flowsTo
set_option maxRecDepth 20000 in
theorem ggX11_does_X11_reigns : GoodIn wsX11_does wsX11_reigns := goodIn_r _ [66, 57, 58, 59, 60, 15, 61, 62, 67, 68, 69, 70, 71, 72, 73, 74, 75, 76, 77, 78, 79, 80, 81, 82, 83, 84, 85, 86, 87, 88, 89, 90, 91, 92, 93, 94, 95, 96, 97, 98, 99, 100, 101, 102, 103, 104, 105, 106, 107, 108, 109, 110, 111, 112, 113, 114, 115, 116, 117, 118, 119, 120, 121, 122] (by decide +kernel) (by decide +kernel)
set_option maxRecDepth 20000 in
theorem gX11_does_X11_reigns : GoodIn wsX11_does (wsV RX11 220 RX11 yX11_reigns wsX11_reigns) := goodIn_app (goodIn_of _ (by decide +kernel)) ggX11_does_X11_reigns
set_option maxRecDepth 20000 in
theorem ggX11_sends_X11_areCells : GoodIn wsX11_sends wsX11_areCells := goodIn_r _ [21, 22] (by decide +kernel) (by decide +kernel)
set_option maxRecDepth 20000 in
theorem gX11_sends_X11_areCells : GoodIn wsX11_sends (va_wsS RX11 213 yX11_areCells wsX11_areCells) := goodIn_app (goodIn_of _ (by decide +kernel)) ggX11_sends_X11_areCells
set_option maxRecDepth 20000 in
theorem ggX11_sends_X11_send : GoodIn wsX11_sends wsX11_send := goodIn_r _ [26, 27, 10, 12, 11, 28, 29, 13, 30, 35, 36, 37, 38, 39, 40, 41, 42, 43, 44, 45, 46, 47, 48, 49, 50, 51, 52, 53, 54, 55, 56, 57, 58, 59, 60, 61, 62, 63, 64, 65, 66, 67, 68, 69, 70, 71, 72, 73, 74, 75, 76, 77, 78, 79, 80, 81, 82, 83, 84, 85, 86, 87, 88, 89, 90] (by decide +kernel) (by decide +kernel)
set_option maxRecDepth 20000 in
theorem gX11_sends_X11_send : GoodIn wsX11_sends (wsV RX11 223 RX11 yX11_send wsX11_send) := goodIn_app (goodIn_of _ (by decide +kernel)) ggX11_sends_X11_send
set_option maxRecDepth 20000 in
theorem ggX11_sends_X11_ageOf : GoodIn wsX11_sends wsX11_ageOf := goodIn_r _ [34, 15, 17, 16, 35, 36, 37, 38, 39, 40, 41, 42, 43, 44, 45, 46, 47, 48, 49, 50, 51, 52, 53, 54, 55, 56, 57, 58, 59, 60, 61, 62, 63, 64, 65, 66, 67, 68, 69, 70, 71, 72, 73, 74, 75, 76, 77, 78, 79, 80, 81, 82, 83, 84, 85, 86, 87, 88, 89, 90] (by decide +kernel) (by decide +kernel)
set_option maxRecDepth 20000 in
theorem gX11_sends_X11_ageOf : GoodIn wsX11_sends (wsV RX11 227 RX11 yX11_ageOf wsX11_ageOf) := goodIn_app (goodIn_of _ (by decide +kernel)) ggX11_sends_X11_ageOf
set_option maxRecDepth 20000 in
theorem ggX11_input_X11_isDomain : GoodIn wsX11_input wsX11_isDomain := goodIn_r _ [8, 9, 24, 25, 26, 27, 28, 29, 30, 31, 32, 33, 34, 35, 36, 37, 38, 39, 40, 41, 42, 43, 44, 45, 46, 47, 48, 49, 50, 51, 52, 53, 54, 55, 56, 57, 58, 59, 60, 61, 62, 63, 64, 65, 66, 67, 68, 69, 70, 71, 72, 73, 74, 75, 76, 77, 78, 79] (by decide +kernel) (by decide +kernel)
set_option maxRecDepth 20000 in
theorem gX11_input_X11_isDomain : GoodIn wsX11_input (wsV RX11 176 RX11 yX11_isDomain wsX11_isDomain) := goodIn_app (goodIn_of _ (by decide +kernel)) ggX11_input_X11_isDomain
set_option maxRecDepth 20000 in
theorem ggX11_input_X11_note : GoodIn wsX11_input wsX11_note := goodIn_r _ [13, 14, 3, 15, 16, 17, 18, 24, 25, 26, 27, 28, 29, 30, 31, 32, 33, 34, 35, 36, 37, 38, 39, 40, 41, 42, 43, 44, 45, 46, 47, 48, 49, 50, 51, 52, 53, 54, 55, 56, 57, 58, 59, 60, 61, 62, 63, 64, 65, 66, 67, 68, 69, 70, 71, 72, 73, 74, 75, 76, 77, 78, 79] (by decide +kernel) (by decide +kernel)
set_option maxRecDepth 20000 in
theorem gX11_input_X11_note : GoodIn wsX11_input (wsV RX11 234 RX11 yX11_note wsX11_note) := goodIn_app (goodIn_of _ (by decide +kernel)) ggX11_input_X11_note
set_option maxRecDepth 20000 in
theorem ggX11_input_X11_give : GoodIn wsX11_input wsX11_give := goodIn_r _ [22, 23, 2, 24, 25, 26, 27, 28, 29, 30, 31, 32, 33, 34, 35, 36, 37, 38, 39, 40, 41, 42, 43, 44, 45, 46, 47, 48, 49, 50, 51, 52, 53, 54, 55, 56, 57, 58, 59, 60, 61, 62, 63, 64, 65, 66, 67, 68, 69, 70, 71, 72, 73, 74, 75, 76, 77, 78, 79] (by decide +kernel) (by decide +kernel)
set_option maxRecDepth 20000 in
theorem gX11_input_X11_give : GoodIn wsX11_input (wsV RX11 238 RX11 yX11_give wsX11_give) := goodIn_app (goodIn_of _ (by decide +kernel)) ggX11_input_X11_give
set_option maxRecDepth 20000 in
theorem ggX11_tick_X11_isReady : GoodIn wsX11_tick wsX11_isReady := goodIn_r _ [7, 8, 9, 10, 11, 12, 13, 6, 14, 15, 16, 17, 119, 120, 121, 122, 123, 124, 125, 126, 127, 128, 129, 130, 131, 132, 133, 134, 135, 136, 137, 138, 139, 140, 141, 142, 143, 144, 145, 146, 147, 148, 149, 150, 151, 152, 153, 154, 155, 156, 157, 158, 159, 160, 161, 162, 163, 164, 165, 166, 167, 168, 169, 170, 171, 172, 173, 174] (by decide +kernel) (by decide +kernel)
set_option maxRecDepth 20000 in
theorem gX11_tick_X11_isReady : GoodIn wsX11_tick (wsV RX11 242 RX11 yX11_isReady wsX11_isReady) := goodIn_app (goodIn_of _ (by decide +kernel)) ggX11_tick_X11_isReady
set_option maxRecDepth 20000 in
theorem ggX11_tick_X11_slotDomain : GoodIn wsX11_tick wsX11_slotDomain := goodIn_r _ [14, 15, 16, 17, 119, 120, 121, 122, 123, 124, 125, 126, 127, 128, 129, 130, 131, 132, 133, 134, 135, 136, 137, 138, 139, 140, 141, 142, 143, 144, 145, 146, 147, 148, 149, 150, 151, 152, 153, 154, 155, 156, 157, 158, 159, 160, 161, 162, 163, 164, 165, 166, 167, 168, 169, 170, 171, 172, 173, 174] (by decide +kernel) (by decide +kernel)
set_option maxRecDepth 20000 in
theorem gX11_tick_X11_slotDomain : GoodIn wsX11_tick (wsV RX11 191 RX11 yX11_slotDomain wsX11_slotDomain) := goodIn_app (goodIn_of _ (by decide +kernel)) ggX11_tick_X11_slotDomain
set_option maxRecDepth 20000 in
theorem ggX11_tick_X11_instructionAt : GoodIn wsX11_tick wsX11_instructionAt := goodIn_r _ [21, 22, 23, 24, 119, 120, 121, 122, 123, 124, 125, 126, 127, 128, 129, 130, 131, 132, 133, 134, 135, 136, 137, 138, 139, 140, 141, 142, 143, 144, 145, 146, 147, 148, 149, 150, 151, 152, 153, 154, 155, 156, 157, 158, 159, 160, 161, 162, 163, 164, 165, 166, 167, 168, 169, 170, 171, 172, 173, 174] (by decide +kernel) (by decide +kernel)
set_option maxRecDepth 20000 in
theorem gX11_tick_X11_instructionAt : GoodIn wsX11_tick (wsV RX11 245 RX11 yX11_instructionAt wsX11_instructionAt) := goodIn_app (goodIn_of _ (by decide +kernel)) ggX11_tick_X11_instructionAt
set_option maxRecDepth 20000 in
theorem ggX11_tick_X11_note : GoodIn wsX11_tick wsX11_note := goodIn_r _ [28, 29, 2, 30, 31, 32, 33, 119, 120, 121, 122, 123, 124, 125, 126, 127, 128, 129, 130, 131, 132, 133, 134, 135, 136, 137, 138, 139, 140, 141, 142, 143, 144, 145, 146, 147, 148, 149, 150, 151, 152, 153, 154, 155, 156, 157, 158, 159, 160, 161, 162, 163, 164, 165, 166, 167, 168, 169, 170, 171, 172, 173, 174] (by decide +kernel) (by decide +kernel)
set_option maxRecDepth 20000 in
theorem gX11_tick_X11_note : GoodIn wsX11_tick (wsV RX11 234 RX11 yX11_note wsX11_note) := goodIn_app (goodIn_of _ (by decide +kernel)) ggX11_tick_X11_note
set_option maxRecDepth 20000 in
theorem ggX11_tick_X11_pass : GoodIn wsX11_tick wsX11_pass := goodIn_r _ [37, 9, 38, 32, 39, 17, 40, 16, 41, 42, 11, 12, 13, 6, 14, 15, 43, 44, 45, 46, 47, 48, 49, 50, 51, 52, 53, 54, 55, 56, 57, 58, 10, 59, 60, 61, 62, 63, 22, 23, 24, 64, 65, 8, 66, 67, 68, 69, 70, 71, 72, 73, 74, 75, 76, 77, 78, 79, 80, 81, 82, 83, 84, 85, 86, 87, 88, 89, 90, 91, 92, 93, 94, 95, 96, 97, 98, 99, 100, 101, 102, 103, 104, 105, 106, 107, 108, 109, 110, 111, 112, 113, 114, 115, 116, 117, 118, 119, 120, 121, 122, 123, 124, 125, 126, 127, 128, 129, 130, 131, 132, 133, 134, 135, 136, 137, 138, 139, 140, 141, 142, 143, 144, 145, 146, 147, 148, 149, 150, 151, 152, 153, 154, 155, 156, 157, 158, 159, 160, 161, 162, 163, 164, 165, 166, 167, 168, 169, 170, 171, 172, 173, 174] (by decide +kernel) (by decide +kernel)
set_option maxRecDepth 20000 in
theorem gX11_tick_X11_pass : GoodIn wsX11_tick (wsV RX11 248 RX11 yX11_pass wsX11_pass) := goodIn_app (goodIn_of _ (by decide +kernel)) ggX11_tick_X11_pass
set_option maxRecDepth 20000 in
theorem ggX11_choose_X11_flowsTo : GoodIn wsX11_choose wsX11_flowsTo := goodIn_r _ [9, 10, 11, 12, 13, 14, 15, 16, 17, 18, 19, 20, 21, 22, 23, 24, 25, 26, 27, 28, 29, 30, 31, 32, 33, 34, 35, 36, 37, 38, 39, 40, 41, 42, 43, 44, 45, 46, 47, 48, 49, 50, 51, 52, 53, 54, 55, 56, 57, 58, 59, 60, 61, 62, 63, 64, 65, 66] (by decide +kernel) (by decide +kernel)
set_option maxRecDepth 20000 in
theorem gX11_choose_X11_flowsTo : GoodIn wsX11_choose (wsV RX11 172 RX11 yX11_flowsTo wsX11_flowsTo) := goodIn_app (goodIn_of _ (by decide +kernel)) ggX11_choose_X11_flowsTo
set_option maxRecDepth 20000 in
theorem ggX11_again_X11_reset : GoodIn wsX11_again wsX11_reset := goodIn_r _ [11, 12, 13, 14, 15, 16, 17, 18, 19, 20, 21, 22, 23, 24, 25, 26, 27, 28, 29, 1, 30, 31, 32, 33, 34, 35, 36, 114, 115, 116, 117, 118, 119, 120, 121, 122, 123, 124, 125, 126, 127, 128, 129, 130, 131, 132, 133, 134, 135, 136, 137, 138, 139, 140, 141, 142, 143, 144, 145, 146, 147, 148, 149, 150, 151, 152, 153, 154, 155, 156, 157, 158, 159, 160, 161, 162, 163, 164, 165, 166, 167, 168, 169] (by decide +kernel) (by decide +kernel)
set_option maxRecDepth 20000 in
theorem gX11_again_X11_reset : GoodIn wsX11_again (wsV RX11 187 RX11 yX11_reset wsX11_reset) := goodIn_app (goodIn_of _ (by decide +kernel)) ggX11_again_X11_reset
set_option maxRecDepth 20000 in
theorem ggX11_again_X11_give : GoodIn wsX11_again wsX11_give := goodIn_r _ [40, 13, 18, 114, 115, 116, 117, 118, 119, 120, 121, 122, 123, 124, 125, 126, 127, 128, 129, 130, 131, 132, 133, 134, 135, 136, 137, 138, 139, 140, 141, 142, 143, 144, 145, 146, 147, 148, 149, 150, 151, 152, 153, 154, 155, 156, 157, 158, 159, 160, 161, 162, 163, 164, 165, 166, 167, 168, 169] (by decide +kernel) (by decide +kernel)
set_option maxRecDepth 20000 in
theorem gX11_again_X11_give : GoodIn wsX11_again (wsV RX11 238 RX11 yX11_give wsX11_give) := goodIn_app (goodIn_of _ (by decide +kernel)) ggX11_again_X11_give
set_option maxRecDepth 20000 in
theorem ggX11_again_X11_pass : GoodIn wsX11_again wsX11_pass := goodIn_r _ [44, 35, 22, 1, 32, 31, 45, 30, 34, 33, 46, 47, 48, 10, 49, 50, 51, 52, 53, 54, 55, 56, 57, 25, 23, 24, 58, 59, 60, 61, 62, 26, 36, 63, 64, 65, 66, 21, 16, 67, 68, 20, 69, 17, 12, 15, 70, 71, 72, 73, 74, 19, 75, 76, 77, 78, 79, 80, 81, 82, 83, 14, 27, 28, 84, 85, 86, 87, 88, 89, 90, 91, 29, 92, 93, 94, 95, 96, 97, 98, 99, 18, 13, 100, 101, 102, 103, 104, 105, 106, 107, 108, 109, 110, 111, 112, 113, 114, 115, 116, 117, 118, 119, 120, 121, 122, 123, 124, 125, 126, 127, 128, 129, 130, 131, 132, 133, 134, 135, 136, 137, 138, 139, 140, 141, 142, 143, 144, 145, 146, 147, 148, 149, 150, 151, 152, 153, 154, 155, 156, 157, 158, 159, 160, 161, 162, 163, 164, 165, 166, 167, 168, 169] (by decide +kernel) (by decide +kernel)
set_option maxRecDepth 20000 in
theorem gX11_again_X11_pass : GoodIn wsX11_again (wsV RX11 248 RX11 yX11_pass wsX11_pass) := goodIn_app (goodIn_of _ (by decide +kernel)) ggX11_again_X11_pass
set_option maxRecDepth 20000 in
theorem ggX11_purge_X11_isDomain : GoodIn wsX11_purge wsX11_isDomain := goodIn_r _ [9, 10, 126, 127, 128, 129, 130, 131, 132, 133, 134, 135, 136, 137, 138, 139, 140, 141, 142, 143, 144, 145, 146, 147, 148, 149, 150, 151, 152, 153, 154, 155, 156, 157, 158, 159, 160, 161, 162, 163, 164, 165, 166, 167, 168, 169, 170, 171, 172, 173, 174, 175, 176, 177, 178, 179, 180, 181] (by decide +kernel) (by decide +kernel)
set_option maxRecDepth 20000 in
theorem gX11_purge_X11_isDomain : GoodIn wsX11_purge (wsV RX11 176 RX11 yX11_isDomain wsX11_isDomain) := goodIn_app (goodIn_of _ (by decide +kernel)) ggX11_purge_X11_isDomain
set_option maxRecDepth 20000 in
theorem ggX11_purge_X11_choose : GoodIn wsX11_purge wsX11_choose := goodIn_r _ [14, 15, 3, 16, 10, 17, 18, 19, 8, 20, 21, 126, 127, 128, 129, 130, 131, 132, 133, 134, 135, 136, 137, 138, 139, 140, 141, 142, 143, 144, 145, 146, 147, 148, 149, 150, 151, 152, 153, 154, 155, 156, 157, 158, 159, 160, 161, 162, 163, 164, 165, 166, 167, 168, 169, 170, 171, 172, 173, 174, 175, 176, 177, 178, 179, 180, 181] (by decide +kernel) (by decide +kernel)
set_option maxRecDepth 20000 in
theorem gX11_purge_X11_choose : GoodIn wsX11_purge (wsV RX11 252 RX11 yX11_choose wsX11_choose) := goodIn_app (goodIn_of _ (by decide +kernel)) ggX11_purge_X11_choose
set_option maxRecDepth 20000 in
theorem ggX11_purge_X11_again : GoodIn wsX11_purge wsX11_again := goodIn_r _ [25, 26, 3, 27, 28, 16, 29, 30, 31, 32, 8, 33, 34, 35, 36, 37, 38, 39, 40, 41, 42, 43, 44, 45, 46, 47, 48, 49, 50, 51, 52, 53, 54, 55, 56, 57, 58, 59, 60, 61, 62, 63, 64, 65, 66, 67, 68, 69, 70, 71, 72, 73, 74, 75, 76, 77, 78, 79, 80, 81, 82, 83, 84, 85, 86, 87, 88, 89, 90, 91, 92, 93, 94, 95, 96, 97, 98, 99, 100, 101, 102, 103, 104, 105, 106, 107, 108, 109, 110, 111, 112, 113, 114, 115, 116, 117, 118, 119, 120, 121, 5, 6, 7, 9, 10, 17, 18, 19, 20, 21, 122, 123, 124, 125, 126, 127, 128, 129, 130, 131, 132, 133, 134, 135, 136, 137, 138, 139, 140, 141, 142, 143, 144, 145, 146, 147, 148, 149, 150, 151, 152, 153, 154, 155, 156, 157, 158, 159, 160, 161, 162, 163, 164, 165, 166, 167, 168, 169, 170, 171, 172, 173, 174, 175, 176, 177, 178, 179, 180, 181] (by decide +kernel) (by decide +kernel)
set_option maxRecDepth 20000 in
theorem gX11_purge_X11_again : GoodIn wsX11_purge (wsV RX11 256 RX11 yX11_again wsX11_again) := goodIn_app (goodIn_of _ (by decide +kernel)) ggX11_purge_X11_again
set_option maxRecDepth 20000 in
theorem ggX11_purged_X11_isDomain : GoodIn wsX11_purged wsX11_isDomain := goodIn_r _ [14, 15, 16, 17, 18, 19, 20, 21, 22, 23, 24, 25, 26, 27, 28, 29, 30, 31, 32, 33, 34, 35, 36, 37, 38, 39, 40, 41, 42, 43, 44, 45, 46, 47, 48, 49, 50, 51, 52, 53, 54, 55, 56, 57, 58, 59, 60, 61, 62, 63, 64, 65, 66, 67, 68, 69, 70, 71] (by decide +kernel) (by decide +kernel)
set_option maxRecDepth 20000 in
theorem gX11_purged_X11_isDomain : GoodIn wsX11_purged (wsV RX11 176 RX11 yX11_isDomain wsX11_isDomain) := goodIn_app (goodIn_of _ (by decide +kernel)) ggX11_purged_X11_isDomain
set_option maxRecDepth 20000 in
theorem ggX11_undisturbed_X11_isDomain : GoodIn wsX11_undisturbed wsX11_isDomain := goodIn_r _ [23, 24, 129, 130, 131, 132, 133, 134, 135, 136, 137, 138, 139, 140, 141, 142, 143, 144, 145, 146, 147, 148, 149, 150, 151, 152, 153, 154, 155, 156, 157, 158, 159, 160, 161, 162, 163, 164, 165, 166, 167, 168, 169, 170, 171, 172, 173, 174, 175, 176, 177, 178, 179, 180, 181, 182, 183, 184] (by decide +kernel) (by decide +kernel)
set_option maxRecDepth 20000 in
theorem gX11_undisturbed_X11_isDomain : GoodIn wsX11_undisturbed (wsV RX11 176 RX11 yX11_isDomain wsX11_isDomain) := goodIn_app (goodIn_of _ (by decide +kernel)) ggX11_undisturbed_X11_isDomain
set_option maxRecDepth 20000 in
theorem ggX11_undisturbed_X11_choose : GoodIn wsX11_undisturbed wsX11_choose := goodIn_r _ [28, 29, 30, 31, 24, 32, 33, 34, 22, 35, 36, 129, 130, 131, 132, 133, 134, 135, 136, 137, 138, 139, 140, 141, 142, 143, 144, 145, 146, 147, 148, 149, 150, 151, 152, 153, 154, 155, 156, 157, 158, 159, 160, 161, 162, 163, 164, 165, 166, 167, 168, 169, 170, 171, 172, 173, 174, 175, 176, 177, 178, 179, 180, 181, 182, 183, 184] (by decide +kernel) (by decide +kernel)
set_option maxRecDepth 20000 in
theorem gX11_undisturbed_X11_choose : GoodIn wsX11_undisturbed (wsV RX11 252 RX11 yX11_choose wsX11_choose) := goodIn_app (goodIn_of _ (by decide +kernel)) ggX11_undisturbed_X11_choose
set_option maxRecDepth 20000 in
theorem ggX11_undisturbed_X11_again : GoodIn wsX11_undisturbed wsX11_again := goodIn_r _ [40, 41, 30, 42, 43, 31, 44, 45, 46, 47, 22, 48, 8, 9, 18, 10, 3, 4, 5, 6, 7, 49, 50, 14, 15, 51, 52, 53, 54, 55, 56, 57, 58, 59, 60, 61, 62, 63, 64, 65, 66, 67, 68, 69, 70, 71, 72, 73, 74, 75, 76, 77, 78, 79, 80, 12, 81, 13, 16, 17, 82, 83, 84, 85, 86, 87, 88, 89, 90, 91, 92, 93, 94, 95, 96, 11, 97, 98, 99, 100, 101, 102, 103, 104, 105, 106, 107, 108, 109, 110, 111, 112, 113, 114, 115, 116, 117, 118, 119, 120, 19, 20, 21, 23, 24, 32, 33, 34, 35, 36, 121, 122, 123, 124, 129, 130, 131, 132, 133, 134, 135, 136, 137, 138, 139, 140, 141, 142, 143, 144, 145, 146, 147, 148, 149, 150, 151, 152, 153, 154, 155, 156, 157, 158, 159, 160, 161, 162, 163, 164, 165, 166, 167, 168, 169, 170, 171, 172, 173, 174, 175, 176, 177, 178, 179, 180, 181, 182, 183, 184] (by decide +kernel) (by decide +kernel)
set_option maxRecDepth 20000 in
theorem gX11_undisturbed_X11_again : GoodIn wsX11_undisturbed (wsV RX11 256 RX11 yX11_again wsX11_again) := goodIn_app (goodIn_of _ (by decide +kernel)) ggX11_undisturbed_X11_again
set_option maxRecDepth 20000 in
theorem ggX11_undisturbed_X11_areAlike : GoodIn wsX11_undisturbed wsX11_areAlike := goodIn_r _ [128, 102, 103, 104, 129, 130, 131, 132, 133, 134, 135, 136, 137, 138, 139, 140, 141, 142, 143, 144, 145, 146, 147, 148, 149, 150, 151, 152, 153, 154, 155, 156, 157, 158, 159, 160, 161, 162, 163, 164, 165, 166, 167, 168, 169, 170, 171, 172, 173, 174, 175, 176, 177, 178, 179, 180, 181, 182, 183, 184] (by decide +kernel) (by decide +kernel)
set_option maxRecDepth 20000 in
theorem gX11_undisturbed_X11_areAlike : GoodIn wsX11_undisturbed (wsV RX11 260 RX11 yX11_areAlike wsX11_areAlike) := goodIn_app (goodIn_of _ (by decide +kernel)) ggX11_undisturbed_X11_areAlike
set_option maxRecDepth 20000 in
theorem ggX11_undisturbed_X11_ageOf : GoodIn wsX11_undisturbed wsX11_ageOf := goodIn_r _ [116, 53, 41, 54, 129, 130, 131, 132, 133, 134, 135, 136, 137, 138, 139, 140, 141, 142, 143, 144, 145, 146, 147, 148, 149, 150, 151, 152, 153, 154, 155, 156, 157, 158, 159, 160, 161, 162, 163, 164, 165, 166, 167, 168, 169, 170, 171, 172, 173, 174, 175, 176, 177, 178, 179, 180, 181, 182, 183, 184] (by decide +kernel) (by decide +kernel)
set_option maxRecDepth 20000 in
theorem gX11_undisturbed_X11_ageOf : GoodIn wsX11_undisturbed (wsV RX11 227 RX11 yX11_ageOf wsX11_ageOf) := goodIn_app (goodIn_of _ (by decide +kernel)) ggX11_undisturbed_X11_ageOf
set_option maxRecDepth 20000 in
theorem ggX11_register_X11_isDomain : GoodIn wsX11_register wsX11_isDomain := goodIn_r _ [6, 7, 8, 9, 10, 11, 12, 13, 14, 15, 16, 17, 18, 19, 20, 21, 22, 23, 24, 25, 26, 27, 28, 29, 30, 31, 32, 33, 34, 35, 36, 37, 38, 39, 40, 41, 42, 43, 44, 45, 46, 47, 48, 49, 50, 51, 52, 53, 54, 55, 56, 57, 58, 59, 60, 61, 62, 63] (by decide +kernel) (by decide +kernel)
set_option maxRecDepth 20000 in
theorem gX11_register_X11_isDomain : GoodIn wsX11_register (wsV RX11 176 RX11 yX11_isDomain wsX11_isDomain) := goodIn_app (goodIn_of _ (by decide +kernel)) ggX11_register_X11_isDomain
set_option maxRecDepth 20000 in
theorem ggX11_cell_X11_isDomain : GoodIn wsX11_cell wsX11_isDomain := goodIn_r _ [6, 7, 8, 9, 10, 11, 12, 13, 14, 15, 16, 17, 18, 19, 20, 21, 22, 23, 24, 25, 26, 27, 28, 29, 30, 31, 32, 33, 34, 35, 36, 37, 38, 39, 40, 41, 42, 43, 44, 45, 46, 47, 48, 49, 50, 51, 52, 53, 54, 55, 56, 57, 58, 59, 60, 61, 62, 63] (by decide +kernel) (by decide +kernel)
set_option maxRecDepth 20000 in
theorem gX11_cell_X11_isDomain : GoodIn wsX11_cell (wsV RX11 176 RX11 yX11_isDomain wsX11_isDomain) := goodIn_app (goodIn_of _ (by decide +kernel)) ggX11_cell_X11_isDomain
set_option maxRecDepth 20000 in
theorem ggX11_of_X11_isDomain : GoodIn wsX11_of wsX11_isDomain := goodIn_r _ [12, 13, 23, 24, 25, 26, 27, 28, 29, 30, 31, 32, 33, 34, 35, 36, 37, 38, 39, 40, 41, 42, 43, 44, 45, 46, 47, 48, 49, 50, 51, 52, 53, 54, 55, 56, 57, 58, 59, 60, 61, 62, 63, 64, 65, 66, 67, 68, 69, 70, 71, 72, 73, 74, 75, 76, 77, 78] (by decide +kernel) (by decide +kernel)
set_option maxRecDepth 20000 in
theorem gX11_of_X11_isDomain : GoodIn wsX11_of (wsV RX11 176 RX11 yX11_isDomain wsX11_isDomain) := goodIn_app (goodIn_of _ (by decide +kernel)) ggX11_of_X11_isDomain
set_option maxRecDepth 20000 in
theorem ggX11_of_X11_reigns : GoodIn wsX11_of wsX11_reigns := goodIn_r _ [17, 13, 18, 19, 20, 11, 21, 22, 23, 24, 25, 26, 27, 28, 29, 30, 31, 32, 33, 34, 35, 36, 37, 38, 39, 40, 41, 42, 43, 44, 45, 46, 47, 48, 49, 50, 51, 52, 53, 54, 55, 56, 57, 58, 59, 60, 61, 62, 63, 64, 65, 66, 67, 68, 69, 70, 71, 72, 73, 74, 75, 76, 77, 78] (by decide +kernel) (by decide +kernel)
set_option maxRecDepth 20000 in
theorem gX11_of_X11_reigns : GoodIn wsX11_of (wsV RX11 220 RX11 yX11_reigns wsX11_reigns) := goodIn_app (goodIn_of _ (by decide +kernel)) ggX11_of_X11_reigns
set_option maxRecDepth 20000 in
theorem ggX11_output_X11_isDomain : GoodIn wsX11_output wsX11_isDomain := goodIn_r _ [7, 8, 9, 10, 11, 12, 13, 14, 15, 16, 17, 18, 19, 20, 21, 22, 23, 24, 25, 26, 27, 28, 29, 30, 31, 32, 33, 34, 35, 36, 37, 38, 39, 40, 41, 42, 43, 44, 45, 46, 47, 48, 49, 50, 51, 52, 53, 54, 55, 56, 57, 58, 59, 60, 61, 62, 63, 64] (by decide +kernel) (by decide +kernel)
set_option maxRecDepth 20000 in
theorem gX11_output_X11_isDomain : GoodIn wsX11_output (wsV RX11 176 RX11 yX11_isDomain wsX11_isDomain) := goodIn_app (goodIn_of _ (by decide +kernel)) ggX11_output_X11_isDomain
set_option maxRecDepth 20000 in
theorem ggX11_at_X11_ageOf : GoodIn wsX11_at wsX11_ageOf := goodIn_r _ [14, 9, 15, 16, 17, 18, 19, 20, 21, 22, 23, 24, 25, 26, 27, 28, 29, 30, 31, 32, 33, 34, 35, 36, 37, 38, 39, 40, 41, 42, 43, 44, 45, 46, 47, 48, 49, 50, 51, 52, 53, 54, 55, 56, 57, 58, 59, 60, 61, 62, 63, 64, 65, 66, 67, 68, 69, 70, 71, 72] (by decide +kernel) (by decide +kernel)
set_option maxRecDepth 20000 in
theorem gX11_at_X11_ageOf : GoodIn wsX11_at (wsV RX11 227 RX11 yX11_ageOf wsX11_ageOf) := goodIn_app (goodIn_of _ (by decide +kernel)) ggX11_at_X11_ageOf
set_option maxRecDepth 20000 in
theorem ggX11_told_X11_slotDomain : GoodIn wsX11_told wsX11_slotDomain := goodIn_r _ [14, 15, 5, 4, 16, 17, 18, 19, 20, 21, 22, 23, 24, 25, 26, 27, 28, 29, 30, 31, 32, 33, 34, 35, 36, 37, 38, 39, 40, 41, 42, 43, 44, 45, 46, 47, 48, 49, 50, 51, 52, 53, 54, 55, 56, 57, 58, 59, 60, 61, 62, 63, 64, 65, 66, 67, 68, 69, 70, 71] (by decide +kernel) (by decide +kernel)
set_option maxRecDepth 20000 in
theorem gX11_told_X11_slotDomain : GoodIn wsX11_told (wsV RX11 191 RX11 yX11_slotDomain wsX11_slotDomain) := goodIn_app (goodIn_of _ (by decide +kernel)) ggX11_told_X11_slotDomain
