set_option maxRecDepth 20000 in
theorem ggX5_passIdle_X5_endTick : GoodIn wsX5_passIdle wsX5_endTick := goodIn_r _ [52, 53, 6, 26, 27, 28, 13, 29, 16, 17, 18, 19, 20, 21, 22, 23, 24, 25, 54, 55, 56, 57, 58, 15, 59, 60, 61, 62, 63, 64, 97, 98, 99, 100, 101, 102, 103, 104, 105, 86, 87, 88, 89, 90, 91, 65, 66, 67, 68, 69, 70, 71, 72, 73, 92, 93] (by decide +kernel) (by decide +kernel)
set_option maxRecDepth 20000 in
theorem gX5_passIdle_X5_endTick : GoodIn wsX5_passIdle (wsV RX5 95 RX5 yX5_endTick wsX5_endTick) := goodIn_app (goodIn_of _ (by decide +kernel)) ggX5_passIdle_X5_endTick
set_option maxRecDepth 20000 in
theorem ggX5_passIdleUntil_X5_passIdle : GoodIn wsX5_passIdleUntil wsX5_passIdle := goodIn_r _ [6, 7, 8, 9, 5, 10, 1, 11, 12, 13, 14, 15, 16, 17, 18, 19, 20, 21, 22, 23, 24, 25, 26, 27, 28, 29, 30, 31, 32, 33, 34, 35, 36, 37, 38, 39, 40, 41, 42, 43, 44, 45, 46, 47, 48, 49, 50, 51, 52, 53, 54, 55, 56, 57, 58, 59, 60, 61, 62, 63, 64, 65, 66, 67, 68, 75, 76, 77, 78, 79, 80, 81, 82, 83, 84, 85, 86, 87, 88, 89, 90, 91, 92, 93, 94, 95, 69, 70, 71, 72, 73, 74, 96, 97, 98, 99, 100, 101, 102, 103, 104, 105, 106, 107, 108, 109] (by decide +kernel) (by decide +kernel)
set_option maxRecDepth 20000 in
theorem gX5_passIdleUntil_X5_passIdle : GoodIn wsX5_passIdleUntil (wsV RX5 101 RX5 yX5_passIdle wsX5_passIdle) := goodIn_app (goodIn_of _ (by decide +kernel)) ggX5_passIdleUntil_X5_passIdle
set_option maxRecDepth 20000 in
theorem ggX5_beginTick_X2_beginsSlot : GoodIn wsX5_beginTick wsX2_beginsSlot := goodIn_r _ [9, 10, 11, 12, 13, 14, 15, 16, 17, 18, 19, 20, 70, 71, 72, 73, 74, 75, 49, 50, 51, 52, 53, 54, 55, 56, 57, 76, 77] (by decide +kernel) (by decide +kernel)
set_option maxRecDepth 20000 in
theorem gX5_beginTick_X2_beginsSlot : GoodIn wsX5_beginTick (wsV RX5 64 RX2 yX2_beginsSlot wsX2_beginsSlot) := goodIn_app (goodIn_of _ (by decide +kernel)) ggX5_beginTick_X2_beginsSlot
set_option maxRecDepth 20000 in
theorem ggX5_beginTick_X2_slotDomain : GoodIn wsX5_beginTick wsX2_slotDomain := goodIn_r _ [24, 11, 12, 13, 14, 15, 16, 17, 18, 19, 20, 70, 71, 72, 73, 74, 75, 49, 50, 51, 52, 53, 54, 55, 56, 57, 76, 77] (by decide +kernel) (by decide +kernel)
set_option maxRecDepth 20000 in
theorem gX5_beginTick_X2_slotDomain : GoodIn wsX5_beginTick (wsV RX5 68 RX2 yX2_slotDomain wsX2_slotDomain) := goodIn_app (goodIn_of _ (by decide +kernel)) ggX5_beginTick_X2_slotDomain
set_option maxRecDepth 20000 in
theorem ggX5_beginTick_X1_handOver : GoodIn wsX5_beginTick wsX1_handOver := goodIn_r _ [29, 30, 31, 32, 33, 34, 35, 36, 37, 38, 39, 40, 41, 42, 43, 58, 59, 60, 61, 62, 63, 64, 65, 78, 79, 80] (by decide +kernel) (by decide +kernel)
set_option maxRecDepth 20000 in
theorem gX5_beginTick_X1_handOver : GoodIn wsX5_beginTick (wsV RX5 119 RX1 yX1_handOver wsX1_handOver) := goodIn_app (goodIn_of _ (by decide +kernel)) ggX5_beginTick_X1_handOver
set_option maxRecDepth 20000 in
theorem ggX5_endTick_X2_slotDomain : GoodIn wsX5_endTick wsX2_slotDomain := goodIn_r _ [7, 8, 9, 10, 11, 12, 13, 14, 15, 16, 17, 39, 40, 41, 42, 43, 44, 45, 46, 47, 48, 49, 50, 51, 52, 53, 54, 55] (by decide +kernel) (by decide +kernel)
set_option maxRecDepth 20000 in
theorem gX5_endTick_X2_slotDomain : GoodIn wsX5_endTick (wsV RX5 68 RX2 yX2_slotDomain wsX2_slotDomain) := goodIn_app (goodIn_of _ (by decide +kernel)) ggX5_endTick_X2_slotDomain
set_option maxRecDepth 20000 in
theorem ggX5_endTick_X2_advance : GoodIn wsX5_endTick wsX2_advance := goodIn_r _ [21, 22, 23, 10, 8, 9, 24, 11, 12, 13, 14, 15, 16, 17, 39, 40, 41, 42, 43, 44, 45, 46, 47, 48, 49, 50, 51, 52, 53, 54, 55] (by decide +kernel) (by decide +kernel)
set_option maxRecDepth 20000 in
theorem gX5_endTick_X2_advance : GoodIn wsX5_endTick (wsV RX5 125 RX2 yX2_advance wsX2_advance) := goodIn_app (goodIn_of _ (by decide +kernel)) ggX5_endTick_X2_advance
set_option maxRecDepth 20000 in
theorem ggX5_makeStep_X5_dueInstruction : GoodIn wsX5_makeStep wsX5_dueInstruction := goodIn_r _ [7, 8, 2, 1, 9, 10, 11, 12, 13, 14, 15, 16, 17, 18, 19, 20, 21, 22, 23, 24, 213, 214, 215, 216, 217, 227, 228, 229, 230, 231, 232, 233, 234, 235, 218, 219, 220, 221, 222, 223, 224, 225, 226, 238, 239, 240, 241, 242, 243, 236, 237] (by decide +kernel) (by decide +kernel)
set_option maxRecDepth 20000 in
theorem gX5_makeStep_X5_dueInstruction : GoodIn wsX5_makeStep (wsV RX5 131 RX5 yX5_dueInstruction wsX5_dueInstruction) := goodIn_app (goodIn_of _ (by decide +kernel)) ggX5_makeStep_X5_dueInstruction
set_option maxRecDepth 20000 in
theorem ggX5_makeStep_X10_operation : GoodIn wsX5_makeStep wsX10_operation := goodIn_r _ [27] (by decide +kernel) (by decide +kernel)
set_option maxRecDepth 20000 in
theorem gX5_makeStep_X10_operation_n137 : GoodIn wsX5_makeStep (wsX10_operation) := ggX5_makeStep_X10_operation
set_option maxRecDepth 20000 in
theorem ggX5_makeStep_X5_isAlone : GoodIn wsX5_makeStep wsX5_isAlone := goodIn_r _ [30] (by decide +kernel) (by decide +kernel)
set_option maxRecDepth 20000 in
theorem gX5_makeStep_X5_isAlone : GoodIn wsX5_makeStep (va_wsS RX5 140 yX5_isAlone wsX5_isAlone) := goodIn_app (goodIn_of _ (by decide +kernel)) ggX5_makeStep_X5_isAlone
set_option maxRecDepth 20000 in
theorem ggX5_makeStep_X3_performAlone : GoodIn wsX5_makeStep wsX3_performAlone := goodIn_r _ [35, 36, 37, 26, 38, 39, 40, 41, 42, 43, 34, 44, 45, 25, 27, 46, 47, 48, 49, 50, 51, 52, 53, 54, 55, 56, 57, 58, 59, 60, 61, 62, 63, 64, 65, 66, 67, 68, 69, 20, 70, 22, 23, 71, 72, 73, 74, 75, 76, 77, 78, 79, 80, 81, 82, 83, 84, 85, 86, 87, 88, 89, 90, 91, 92, 93, 94, 95, 96, 97, 98, 99, 18, 19, 21, 100, 101, 102, 103, 104, 105, 106, 107, 108, 109, 110, 218, 219, 220, 221, 222, 223, 224, 225, 226, 236, 237] (by decide +kernel) (by decide +kernel)
set_option maxRecDepth 20000 in
theorem gX5_makeStep_X3_performAlone : GoodIn wsX5_makeStep (wsV RX5 144 RX3 yX3_performAlone wsX3_performAlone) := goodIn_app (goodIn_of _ (by decide +kernel)) ggX5_makeStep_X3_performAlone
set_option maxRecDepth 20000 in
theorem ggX5_makeStep_X5_performShared : GoodIn wsX5_makeStep wsX5_performShared := goodIn_r _ [114, 1, 8, 115, 37, 26, 38, 25, 27, 116, 117, 118, 6, 119, 120, 121, 122, 123, 2, 124, 39, 40, 125, 42, 43, 34, 44, 45, 109, 110, 126, 52, 53, 127, 96, 97, 98, 128, 129, 130, 131, 132, 133, 134, 135, 87, 88, 89, 136, 72, 73, 74, 75, 76, 77, 78, 79, 80, 81, 82, 83, 84, 85, 86, 137, 138, 139, 140, 141, 142, 143, 144, 145, 146, 147, 148, 149, 150, 151, 152, 153, 154, 155, 156, 157, 158, 159, 160, 161, 162, 163, 164, 165, 166, 167, 168, 169, 170, 55, 56, 57, 171, 172, 173, 174, 175, 176, 177, 178, 179, 180, 181, 182, 183, 184, 185, 186, 187, 188, 189, 190, 191, 192, 193, 194, 195, 213, 214, 215, 216, 217, 238, 239, 240, 241, 242, 243, 244, 245, 246, 247, 248, 249, 250, 251, 252, 253, 254, 255, 218, 219, 220, 221, 222, 223, 224, 225, 226, 227, 228, 229, 230, 231, 232, 233, 234, 235, 256, 257, 258] (by decide +kernel) (by decide +kernel)
set_option maxRecDepth 20000 in
theorem gX5_makeStep_X5_performShared : GoodIn wsX5_makeStep (wsV RX5 147 RX5 yX5_performShared wsX5_performShared) := goodIn_app (goodIn_of _ (by decide +kernel)) ggX5_makeStep_X5_performShared
set_option maxRecDepth 20000 in
theorem ggX5_makeStep_X3_placeAfter : GoodIn wsX5_makeStep wsX3_placeAfter := goodIn_r _ [199, 200, 37, 26, 38, 41, 42, 43, 34, 44, 45, 39, 40, 25, 27, 218, 219, 220, 221, 222, 223, 224, 225, 226] (by decide +kernel) (by decide +kernel)
set_option maxRecDepth 20000 in
theorem gX5_makeStep_X3_placeAfter : GoodIn wsX5_makeStep (wsV RX5 151 RX3 yX3_placeAfter wsX3_placeAfter) := goodIn_app (goodIn_of _ (by decide +kernel)) ggX5_makeStep_X3_placeAfter
set_option maxRecDepth 20000 in
theorem ggX5_makeStep_X3_fail : GoodIn wsX5_makeStep wsX3_fail := goodIn_r _ [204, 205, 200, 36, 206, 207, 208, 34, 209, 45, 50, 210, 211, 73, 212, 218, 219, 220, 221, 222, 223, 224, 225, 226] (by decide +kernel) (by decide +kernel)
set_option maxRecDepth 20000 in
theorem gX5_makeStep_X3_fail : GoodIn wsX5_makeStep (wsV RX5 158 RX3 yX3_fail wsX3_fail) := goodIn_app (goodIn_of _ (by decide +kernel)) ggX5_makeStep_X3_fail
set_option maxRecDepth 20000 in
theorem ggX5_performShared_X10_partA : GoodIn wsX5_performShared wsX10_partA := goodIn_r _ [6] (by decide +kernel) (by decide +kernel)
set_option maxRecDepth 20000 in
theorem gX5_performShared_X10_partA_n161 : GoodIn wsX5_performShared (wsX10_partA) := ggX5_performShared_X10_partA
set_option maxRecDepth 20000 in
theorem ggX5_performShared_X10_operation : GoodIn wsX5_performShared wsX10_operation := goodIn_r _ [8] (by decide +kernel) (by decide +kernel)
set_option maxRecDepth 20000 in
theorem gX5_performShared_X10_operation_n137 : GoodIn wsX5_performShared (wsX10_operation) := ggX5_performShared_X10_operation
set_option maxRecDepth 20000 in
theorem ggX5_performShared_X5_send : GoodIn wsX5_performShared wsX5_send := goodIn_r _ [13, 1, 4, 5, 6, 14, 15, 16, 12, 17, 18, 19, 20, 21, 22, 23, 24, 25, 26, 27, 28, 29, 30, 31, 32, 33, 34, 35, 36, 37, 38, 39, 40, 41, 42, 43, 44, 45, 46, 47, 48, 49, 50, 51, 52, 53, 54, 55, 56, 57, 58, 59, 60, 61, 62, 63, 126, 127, 128, 129, 130, 137, 138, 139, 140, 141, 142, 143, 144, 145, 146, 147, 148, 149, 150, 151, 152, 153, 154, 155, 156, 157, 158, 159, 160, 161, 162, 163, 164, 165, 166, 167, 168, 169] (by decide +kernel) (by decide +kernel)
set_option maxRecDepth 20000 in
theorem gX5_performShared_X5_send : GoodIn wsX5_performShared (wsV RX5 164 RX5 yX5_send wsX5_send) := goodIn_app (goodIn_of _ (by decide +kernel)) ggX5_performShared_X5_send
set_option maxRecDepth 20000 in
theorem ggX5_performShared_X5_take : GoodIn wsX5_performShared wsX5_take := goodIn_r _ [67, 1, 4, 5, 6, 14, 15, 16, 12, 17, 18, 19, 68, 69, 70, 40, 71, 42, 72, 33, 34, 35, 25, 36, 27, 20, 21, 22, 23, 24, 26, 73, 74, 75, 76, 43, 30, 31, 32, 77, 78, 79, 80, 44, 45, 46, 47, 126, 127, 128, 129, 130, 137, 138, 139, 140, 141, 142, 143, 144, 145, 146, 147, 148, 149, 150, 151, 152, 153, 154, 155, 156, 157, 158, 159, 160, 161, 162, 163, 164, 165, 166, 167, 168, 169] (by decide +kernel) (by decide +kernel)
set_option maxRecDepth 20000 in
theorem gX5_performShared_X5_take : GoodIn wsX5_performShared (wsV RX5 167 RX5 yX5_take wsX5_take) := goodIn_app (goodIn_of _ (by decide +kernel)) ggX5_performShared_X5_take
set_option maxRecDepth 20000 in
theorem ggX5_performShared_X5_writeBoard : GoodIn wsX5_performShared wsX5_writeBoard := goodIn_r _ [84, 1, 85, 45, 46, 47, 2, 4, 5, 6, 14, 15, 16, 12, 17, 18, 19, 20, 21, 22, 23, 24, 25, 26, 27, 30, 31, 32, 126, 127, 128, 129, 130, 137, 138, 139, 140, 141, 142, 143, 144, 145, 146, 147, 148, 149, 150, 151, 152, 153, 154, 155, 156, 157, 131, 132, 133, 134, 135, 136, 158, 159, 160, 161, 162, 163, 164, 165, 166] (by decide +kernel) (by decide +kernel)
set_option maxRecDepth 20000 in
theorem gX5_performShared_X5_writeBoard : GoodIn wsX5_performShared (wsV RX5 170 RX5 yX5_writeBoard wsX5_writeBoard) := goodIn_app (goodIn_of _ (by decide +kernel)) ggX5_performShared_X5_writeBoard
set_option maxRecDepth 20000 in
theorem ggX5_performShared_X5_seeBoard : GoodIn wsX5_performShared wsX5_seeBoard := goodIn_r _ [89, 1, 85, 45, 46, 47, 2, 4, 5, 6, 14, 15, 16, 12, 17, 18, 19, 20, 21, 22, 23, 24, 25, 26, 27, 30, 31, 32, 90, 91, 92, 93, 94, 95, 96, 33, 34, 35, 36, 126, 127, 128, 129, 130, 137, 138, 139, 140, 141, 142, 143, 144, 145, 146, 147, 148, 149, 150, 151, 152, 153, 154, 155, 156, 157, 131, 132, 133, 134, 135, 136, 158, 159, 160, 161, 162, 163, 164, 165, 166] (by decide +kernel) (by decide +kernel)
set_option maxRecDepth 20000 in
theorem gX5_performShared_X5_seeBoard : GoodIn wsX5_performShared (wsV RX5 173 RX5 yX5_seeBoard wsX5_seeBoard) := goodIn_app (goodIn_of _ (by decide +kernel)) ggX5_performShared_X5_seeBoard
set_option maxRecDepth 20000 in
theorem ggX5_performShared_X3_write : GoodIn wsX5_performShared wsX3_write := goodIn_r _ [100, 27, 149, 150, 151, 152, 153, 154, 155, 156, 157] (by decide +kernel) (by decide +kernel)
set_option maxRecDepth 20000 in
theorem gX5_performShared_X3_write : GoodIn wsX5_performShared (wsV RX5 176 RX3 yX3_write wsX3_write) := goodIn_app (goodIn_of _ (by decide +kernel)) ggX5_performShared_X3_write
set_option maxRecDepth 20000 in
theorem ggX5_performShared_X5_look : GoodIn wsX5_performShared wsX5_look := goodIn_r _ [104, 1, 18, 20, 5, 21, 28, 29, 22, 23, 24, 25, 26, 27, 105, 106, 107, 108, 109, 110, 111, 112, 113, 114, 115, 30, 31, 32, 4, 6, 97, 98, 99, 100, 126, 127, 128, 129, 130, 149, 150, 151, 152, 153, 154, 155, 156, 157, 158, 159, 160, 161, 162, 163, 164, 165, 166] (by decide +kernel) (by decide +kernel)
set_option maxRecDepth 20000 in
theorem gX5_performShared_X5_look : GoodIn wsX5_performShared (wsV RX5 180 RX5 yX5_look wsX5_look) := goodIn_app (goodIn_of _ (by decide +kernel)) ggX5_performShared_X5_look
set_option maxRecDepth 20000 in
theorem ggX5_performShared_X5_ask : GoodIn wsX5_performShared wsX5_ask := goodIn_r _ [119, 18, 2, 120, 5, 121, 122, 123, 124, 108, 125, 115, 110, 126, 127, 128, 129, 130, 131, 132, 133, 134, 135, 136, 158, 159, 160, 161, 162, 163, 164, 165, 166] (by decide +kernel) (by decide +kernel)
set_option maxRecDepth 20000 in
theorem gX5_performShared_X5_ask : GoodIn wsX5_performShared (wsV RX5 183 RX5 yX5_ask wsX5_ask) := goodIn_app (goodIn_of _ (by decide +kernel)) ggX5_performShared_X5_ask
set_option maxRecDepth 20000 in
theorem ggX5_send_X10_partA : GoodIn wsX5_send wsX10_partA := goodIn_r _ [4] (by decide +kernel) (by decide +kernel)
set_option maxRecDepth 20000 in
theorem gX5_send_X10_partA_n161 : GoodIn wsX5_send (wsX10_partA) := ggX5_send_X10_partA
set_option maxRecDepth 20000 in
theorem ggX5_send_X5_channelOfKind : GoodIn wsX5_send wsX5_channelOfKind := goodIn_r _ [9, 10, 11, 56, 57, 58, 59, 60, 82, 83, 84, 85, 86, 87, 88, 89, 90, 69, 70, 71, 72] (by decide +kernel) (by decide +kernel)
set_option maxRecDepth 20000 in
theorem gX5_send_X5_channelOfKind : GoodIn wsX5_send (wsV RX5 192 RX5 yX5_channelOfKind wsX5_channelOfKind) := goodIn_app (goodIn_of _ (by decide +kernel)) ggX5_send_X5_channelOfKind
set_option maxRecDepth 20000 in
theorem ggX5_send_X10_partB : GoodIn wsX5_send wsX10_partB := goodIn_r _ [13] (by decide +kernel) (by decide +kernel)
set_option maxRecDepth 20000 in
theorem gX5_send_X10_partB_n196 : GoodIn wsX5_send (wsX10_partB) := ggX5_send_X10_partB
set_option maxRecDepth 20000 in
theorem ggX5_send_X3_read : GoodIn wsX5_send wsX3_read := goodIn_r _ [18, 19, 73, 74, 75, 76, 77, 78, 79, 80, 81] (by decide +kernel) (by decide +kernel)
set_option maxRecDepth 20000 in
theorem gX5_send_X3_read : GoodIn wsX5_send (wsV RX5 199 RX3 yX3_read wsX3_read) := goodIn_app (goodIn_of _ (by decide +kernel)) ggX5_send_X3_read
set_option maxRecDepth 20000 in
theorem ggX5_send_X10_partC : GoodIn wsX5_send wsX10_partC := goodIn_r _ [21] (by decide +kernel) (by decide +kernel)
set_option maxRecDepth 20000 in
theorem gX5_send_X10_partC_n202 : GoodIn wsX5_send (wsX10_partC) := ggX5_send_X10_partC
set_option maxRecDepth 20000 in
theorem ggX5_send_X3_hasCells : GoodIn wsX5_send wsX3_hasCells := goodIn_r _ [24] (by decide +kernel) (by decide +kernel)
set_option maxRecDepth 20000 in
theorem gX5_send_X3_hasCells : GoodIn wsX5_send (va_wsS RX5 205 yX3_hasCells wsX3_hasCells) := goodIn_app (goodIn_of _ (by decide +kernel)) ggX5_send_X3_hasCells
set_option maxRecDepth 20000 in
theorem ggX5_send_X3_report : GoodIn wsX5_send wsX3_report := goodIn_r _ [28, 19, 73, 74, 75, 76, 77, 78, 79, 80, 81] (by decide +kernel) (by decide +kernel)
set_option maxRecDepth 20000 in
theorem gX5_send_X3_report : GoodIn wsX5_send (wsV RX5 209 RX3 yX3_report wsX3_report) := goodIn_app (goodIn_of _ (by decide +kernel)) ggX5_send_X3_report
set_option maxRecDepth 20000 in
theorem ggX5_send_X6_add : GoodIn wsX5_send wsX6_add := goodIn_r _ [33, 34, 35, 36, 37, 38, 39, 40, 41, 42, 43, 44, 45, 46, 47, 48, 49, 50, 51, 52, 53, 54, 55, 91, 92, 93] (by decide +kernel) (by decide +kernel)
set_option maxRecDepth 20000 in
theorem gX5_send_X6_add : GoodIn wsX5_send (wsV RX5 219 RX6 yX6_add wsX6_add) := goodIn_app (goodIn_of _ (by decide +kernel)) ggX5_send_X6_add
set_option maxRecDepth 20000 in
theorem ggX5_take_X10_partA : GoodIn wsX5_take wsX10_partA := goodIn_r _ [4] (by decide +kernel) (by decide +kernel)
set_option maxRecDepth 20000 in
theorem gX5_take_X10_partA_n161 : GoodIn wsX5_take (wsX10_partA) := ggX5_take_X10_partA
set_option maxRecDepth 20000 in
theorem ggX5_take_X5_channelOfKind : GoodIn wsX5_take wsX5_channelOfKind := goodIn_r _ [9, 10, 11, 47, 48, 49, 50, 51, 73, 74, 75, 76, 77, 78, 79, 80, 81, 60, 61, 62, 63] (by decide +kernel) (by decide +kernel)
set_option maxRecDepth 20000 in
theorem gX5_take_X5_channelOfKind : GoodIn wsX5_take (wsV RX5 192 RX5 yX5_channelOfKind wsX5_channelOfKind) := goodIn_app (goodIn_of _ (by decide +kernel)) ggX5_take_X5_channelOfKind
set_option maxRecDepth 20000 in
theorem ggX5_take_X6_left : GoodIn wsX5_take wsX6_left := goodIn_r _ [16, 17, 18, 82, 83, 84] (by decide +kernel) (by decide +kernel)
set_option maxRecDepth 20000 in
theorem gX5_take_X6_left : GoodIn wsX5_take (wsV RX5 228 RX6 yX6_left wsX6_left) := goodIn_app (goodIn_of _ (by decide +kernel)) ggX5_take_X6_left
set_option maxRecDepth 20000 in
theorem ggX5_take_X3_report : GoodIn wsX5_take wsX3_report := goodIn_r _ [23, 24, 64, 65, 66, 67, 68, 69, 70, 71, 72] (by decide +kernel) (by decide +kernel)
set_option maxRecDepth 20000 in
theorem gX5_take_X3_report : GoodIn wsX5_take (wsV RX5 209 RX3 yX3_report wsX3_report) := goodIn_app (goodIn_of _ (by decide +kernel)) ggX5_take_X3_report
set_option maxRecDepth 20000 in
theorem ggX5_take_X10_partB : GoodIn wsX5_take wsX10_partB := goodIn_r _ [26] (by decide +kernel) (by decide +kernel)
set_option maxRecDepth 20000 in
theorem gX5_take_X10_partB_n196 : GoodIn wsX5_take (wsX10_partB) := ggX5_take_X10_partB
set_option maxRecDepth 20000 in
theorem ggX5_take_X3_read : GoodIn wsX5_take wsX3_read := goodIn_r _ [30, 24, 64, 65, 66, 67, 68, 69, 70, 71, 72] (by decide +kernel) (by decide +kernel)
set_option maxRecDepth 20000 in
theorem gX5_take_X3_read : GoodIn wsX5_take (wsV RX5 199 RX3 yX3_read wsX3_read) := goodIn_app (goodIn_of _ (by decide +kernel)) ggX5_take_X3_read
set_option maxRecDepth 20000 in
theorem ggX5_take_X6_nextWords : GoodIn wsX5_take wsX6_nextWords := goodIn_r _ [34, 18, 17, 35, 82, 83, 84] (by decide +kernel) (by decide +kernel)
set_option maxRecDepth 20000 in
theorem gX5_take_X6_nextWords : GoodIn wsX5_take (wsV RX5 230 RX6 yX6_nextWords wsX6_nextWords) := goodIn_app (goodIn_of _ (by decide +kernel)) ggX5_take_X6_nextWords
set_option maxRecDepth 20000 in
theorem ggX5_take_X3_hasCells : GoodIn wsX5_take wsX3_hasCells := goodIn_r _ [38] (by decide +kernel) (by decide +kernel)
set_option maxRecDepth 20000 in
theorem gX5_take_X3_hasCells : GoodIn wsX5_take (va_wsS RX5 205 yX3_hasCells wsX3_hasCells) := goodIn_app (goodIn_of _ (by decide +kernel)) ggX5_take_X3_hasCells
set_option maxRecDepth 20000 in
theorem ggX5_take_X6_takeInto : GoodIn wsX5_take wsX6_takeInto := goodIn_r _ [42, 18, 17, 35, 43, 44, 45, 46, 82, 83, 84] (by decide +kernel) (by decide +kernel)
set_option maxRecDepth 20000 in
theorem gX5_take_X6_takeInto : GoodIn wsX5_take (wsV RX5 233 RX6 yX6_takeInto wsX6_takeInto) := goodIn_app (goodIn_of _ (by decide +kernel)) ggX5_take_X6_takeInto
set_option maxRecDepth 20000 in
theorem ggX5_writeBoard_X10_partA : GoodIn wsX5_writeBoard wsX10_partA := goodIn_r _ [9] (by decide +kernel) (by decide +kernel)
set_option maxRecDepth 20000 in
theorem gX5_writeBoard_X10_partA_n161 : GoodIn wsX5_writeBoard (wsX10_partA) := ggX5_writeBoard_X10_partA
set_option maxRecDepth 20000 in
theorem ggX5_writeBoard_X5_channelOfKind : GoodIn wsX5_writeBoard wsX5_channelOfKind := goodIn_r _ [14, 15, 16, 28, 29, 30, 31, 32, 60, 61, 62, 63, 64, 65, 66, 67, 68, 41, 42, 43, 44] (by decide +kernel) (by decide +kernel)
set_option maxRecDepth 20000 in
theorem gX5_writeBoard_X5_channelOfKind : GoodIn wsX5_writeBoard (wsV RX5 192 RX5 yX5_channelOfKind wsX5_channelOfKind) := goodIn_app (goodIn_of _ (by decide +kernel)) ggX5_writeBoard_X5_channelOfKind
set_option maxRecDepth 20000 in
theorem ggX5_writeBoard_X10_partB : GoodIn wsX5_writeBoard wsX10_partB := goodIn_r _ [18] (by decide +kernel) (by decide +kernel)
set_option maxRecDepth 20000 in
theorem gX5_writeBoard_X10_partB_n196 : GoodIn wsX5_writeBoard (wsX10_partB) := ggX5_writeBoard_X10_partB
set_option maxRecDepth 20000 in
theorem ggX5_writeBoard_X3_read : GoodIn wsX5_writeBoard wsX3_read := goodIn_r _ [23, 24, 45, 46, 47, 48, 49, 50, 51, 52, 53] (by decide +kernel) (by decide +kernel)
set_option maxRecDepth 20000 in
theorem gX5_writeBoard_X3_read : GoodIn wsX5_writeBoard (wsV RX5 199 RX3 yX3_read wsX3_read) := goodIn_app (goodIn_of _ (by decide +kernel)) ggX5_writeBoard_X3_read
set_option maxRecDepth 20000 in
theorem ggX5_writeBoard_X3_hasCells : GoodIn wsX5_writeBoard wsX3_hasCells := goodIn_r _ [27] (by decide +kernel) (by decide +kernel)
set_option maxRecDepth 20000 in
theorem gX5_writeBoard_X3_hasCells : GoodIn wsX5_writeBoard (va_wsS RX5 205 yX3_hasCells wsX3_hasCells) := goodIn_app (goodIn_of _ (by decide +kernel)) ggX5_writeBoard_X3_hasCells
set_option maxRecDepth 20000 in
theorem ggX5_seeBoard_X10_partA : GoodIn wsX5_seeBoard wsX10_partA := goodIn_r _ [9] (by decide +kernel) (by decide +kernel)
set_option maxRecDepth 20000 in
theorem gX5_seeBoard_X10_partA_n161 : GoodIn wsX5_seeBoard (wsX10_partA) := ggX5_seeBoard_X10_partA
set_option maxRecDepth 20000 in
theorem ggX5_seeBoard_X5_channelOfKind : GoodIn wsX5_seeBoard wsX5_channelOfKind := goodIn_r _ [14, 15, 16, 39, 40, 41, 42, 43, 71, 72, 73, 74, 75, 76, 77, 78, 79, 52, 53, 54, 55] (by decide +kernel) (by decide +kernel)
set_option maxRecDepth 20000 in
theorem gX5_seeBoard_X5_channelOfKind : GoodIn wsX5_seeBoard (wsV RX5 192 RX5 yX5_channelOfKind wsX5_channelOfKind) := goodIn_app (goodIn_of _ (by decide +kernel)) ggX5_seeBoard_X5_channelOfKind
set_option maxRecDepth 20000 in
theorem ggX5_seeBoard_X10_partB : GoodIn wsX5_seeBoard wsX10_partB := goodIn_r _ [18] (by decide +kernel) (by decide +kernel)
set_option maxRecDepth 20000 in
theorem gX5_seeBoard_X10_partB_n196 : GoodIn wsX5_seeBoard (wsX10_partB) := ggX5_seeBoard_X10_partB
set_option maxRecDepth 20000 in
theorem ggX5_seeBoard_X3_read : GoodIn wsX5_seeBoard wsX3_read := goodIn_r _ [23, 24, 56, 57, 58, 59, 60, 61, 62, 63, 64] (by decide +kernel) (by decide +kernel)
set_option maxRecDepth 20000 in
theorem gX5_seeBoard_X3_read : GoodIn wsX5_seeBoard (wsV RX5 199 RX3 yX3_read wsX3_read) := goodIn_app (goodIn_of _ (by decide +kernel)) ggX5_seeBoard_X3_read
set_option maxRecDepth 20000 in
theorem ggX5_seeBoard_X3_hasCells : GoodIn wsX5_seeBoard wsX3_hasCells := goodIn_r _ [27] (by decide +kernel) (by decide +kernel)
set_option maxRecDepth 20000 in
theorem gX5_seeBoard_X3_hasCells : GoodIn wsX5_seeBoard (va_wsS RX5 205 yX3_hasCells wsX3_hasCells) := goodIn_app (goodIn_of _ (by decide +kernel)) ggX5_seeBoard_X3_hasCells
set_option maxRecDepth 20000 in
theorem ggX5_seeBoard_X1_age : GoodIn wsX5_seeBoard wsX1_age := goodIn_r _ [32, 33, 34, 44, 45, 46, 47, 48, 49, 50, 51] (by decide +kernel) (by decide +kernel)
set_option maxRecDepth 20000 in
theorem gX5_seeBoard_X1_age : GoodIn wsX5_seeBoard (wsV RX5 252 RX1 yX1_age wsX1_age) := goodIn_app (goodIn_of _ (by decide +kernel)) ggX5_seeBoard_X1_age
set_option maxRecDepth 20000 in
theorem ggX5_seeBoard_X3_report : GoodIn wsX5_seeBoard wsX3_report := goodIn_r _ [38, 24, 56, 57, 58, 59, 60, 61, 62, 63, 64] (by decide +kernel) (by decide +kernel)
set_option maxRecDepth 20000 in
theorem gX5_seeBoard_X3_report : GoodIn wsX5_seeBoard (wsV RX5 209 RX3 yX3_report wsX3_report) := goodIn_app (goodIn_of _ (by decide +kernel)) ggX5_seeBoard_X3_report
set_option maxRecDepth 20000 in
theorem ggX5_look_X10_partB : GoodIn wsX5_look wsX10_partB := goodIn_r _ [5] (by decide +kernel) (by decide +kernel)
set_option maxRecDepth 20000 in
theorem gX5_look_X10_partB_n196 : GoodIn wsX5_look (wsX10_partB) := ggX5_look_X10_partB
set_option maxRecDepth 20000 in
theorem ggX5_look_X10_partC : GoodIn wsX5_look wsX10_partC := goodIn_r _ [7] (by decide +kernel) (by decide +kernel)
set_option maxRecDepth 20000 in
theorem gX5_look_X10_partC_n202 : GoodIn wsX5_look (wsX10_partC) := ggX5_look_X10_partC
set_option maxRecDepth 20000 in
theorem ggX5_look_X3_read : GoodIn wsX5_look wsX3_read := goodIn_r _ [12, 13, 39, 40, 41, 42, 43, 44, 45, 46, 47] (by decide +kernel) (by decide +kernel)
set_option maxRecDepth 20000 in
theorem gX5_look_X3_read : GoodIn wsX5_look (wsV RX5 199 RX3 yX3_read wsX3_read) := goodIn_app (goodIn_of _ (by decide +kernel)) ggX5_look_X3_read
set_option maxRecDepth 20000 in
theorem ggX5_look_X7_hasDomain : GoodIn wsX5_look wsX7_hasDomain := goodIn_r _ [18, 19, 48, 49, 50, 51, 52, 53, 54, 55, 56] (by decide +kernel) (by decide +kernel)
set_option maxRecDepth 20000 in
theorem gX5_look_X7_hasDomain : GoodIn wsX5_look (wsV RX5 255 RX7 yX7_hasDomain wsX7_hasDomain) := goodIn_app (goodIn_of _ (by decide +kernel)) ggX5_look_X7_hasDomain
set_option maxRecDepth 20000 in
theorem ggX5_look_X7_mayFlow : GoodIn wsX5_look wsX7_mayFlow := goodIn_r _ [23, 24, 48, 49, 50, 51, 52, 53, 54, 55, 56] (by decide +kernel) (by decide +kernel)
set_option maxRecDepth 20000 in
theorem gX5_look_X7_mayFlow : GoodIn wsX5_look (wsV RX5 258 RX7 yX7_mayFlow wsX7_mayFlow) := goodIn_app (goodIn_of _ (by decide +kernel)) ggX5_look_X7_mayFlow
set_option maxRecDepth 20000 in
theorem ggX5_look_X3_hasCells : GoodIn wsX5_look wsX3_hasCells := goodIn_r _ [27] (by decide +kernel) (by decide +kernel)
set_option maxRecDepth 20000 in
theorem gX5_look_X3_hasCells : GoodIn wsX5_look (va_wsS RX5 205 yX3_hasCells wsX3_hasCells) := goodIn_app (goodIn_of _ (by decide +kernel)) ggX5_look_X3_hasCells
set_option maxRecDepth 20000 in
theorem ggX5_look_X10_partA : GoodIn wsX5_look wsX10_partA := goodIn_r _ [29] (by decide +kernel) (by decide +kernel)
set_option maxRecDepth 20000 in
theorem gX5_look_X10_partA_n161 : GoodIn wsX5_look (wsX10_partA) := ggX5_look_X10_partA
set_option maxRecDepth 20000 in
theorem ggX5_look_X3_write : GoodIn wsX5_look wsX3_write := goodIn_r _ [33, 13, 39, 40, 41, 42, 43, 44, 45, 46, 47] (by decide +kernel) (by decide +kernel)
set_option maxRecDepth 20000 in
theorem gX5_look_X3_write : GoodIn wsX5_look (wsV RX5 176 RX3 yX3_write wsX3_write) := goodIn_app (goodIn_of _ (by decide +kernel)) ggX5_look_X3_write
set_option maxRecDepth 20000 in
theorem ggX5_ask_X10_isSchedule : GoodIn wsX5_ask wsX10_isSchedule := goodIn_r _ [5] (by decide +kernel) (by decide +kernel)
set_option maxRecDepth 20000 in
theorem gX5_ask_X10_isSchedule_n261 : GoodIn wsX5_ask (wsX10_isSchedule) := ggX5_ask_X10_isSchedule
