set_option maxRecDepth 20000 in
theorem ggX0_init_X9_init : GoodIn wsX0_init wsX9_init := goodIn_r _ [13, 14, 2, 3, 15, 16, 17, 18, 19, 20, 21, 22] (by decide +kernel) (by decide +kernel)
set_option maxRecDepth 20000 in
theorem gX0_init_X9_init : GoodIn wsX0_init (wsX9_init) := ggX0_init_X9_init
set_option maxRecDepth 20000 in
theorem ggX0_add_X9_add : GoodIn wsX0_add wsX9_add := goodIn_r _ [9, 10, 11, 12, 13, 14, 15, 16, 17, 18, 19, 20, 21, 22, 23, 24, 25, 26, 27, 28, 29, 30, 35, 36] (by decide +kernel) (by decide +kernel)
set_option maxRecDepth 20000 in
theorem gX0_add_X9_add : GoodIn wsX0_add (wsV RX0 31 RX9 yX9_add wsX9_add) := goodIn_app (goodIn_of _ (by decide +kernel)) ggX0_add_X9_add
set_option maxRecDepth 20000 in
theorem ggX1_init_X6_init : GoodIn wsX1_init wsX6_init := goodIn_r _ [14, 15, 2, 3, 16, 17, 18, 19, 10, 20, 33, 34, 35] (by decide +kernel) (by decide +kernel)
set_option maxRecDepth 20000 in
theorem gX1_init_X6_init : GoodIn wsX1_init (wsX6_init) := ggX1_init_X6_init
set_option maxRecDepth 20000 in
theorem ggX1_reset_X6_clear : GoodIn wsX1_reset wsX6_clear := goodIn_r _ [12, 13, 14, 27, 28, 29] (by decide +kernel) (by decide +kernel)
set_option maxRecDepth 20000 in
theorem gX1_reset_X6_clear : GoodIn wsX1_reset (wsV RX1 41 RX6 yX6_clear wsX6_clear) := goodIn_app (goodIn_of _ (by decide +kernel)) ggX1_reset_X6_clear
set_option maxRecDepth 20000 in
theorem ggX1_reset_J7_fill_53178 : GoodIn wsX1_reset wsJ7_fill_53178 := goodIn_r _ [18] (by decide +kernel) (by decide +kernel)
set_option maxRecDepth 20000 in
theorem gX1_reset_J7_fill_53178 : GoodIn wsX1_reset (va_wsS RX1 50 yJ7_fill_53178 wsJ7_fill_53178) := goodIn_app (goodIn_of _ (by decide +kernel)) ggX1_reset_J7_fill_53178
set_option maxRecDepth 20000 in
theorem ggX1_handOver_X6_left : GoodIn wsX1_handOver wsX6_left := goodIn_r _ [8, 9, 10, 23, 24, 25] (by decide +kernel) (by decide +kernel)
set_option maxRecDepth 20000 in
theorem gX1_handOver_X6_left : GoodIn wsX1_handOver (wsV RX1 62 RX6 yX6_left wsX6_left) := goodIn_app (goodIn_of _ (by decide +kernel)) ggX1_handOver_X6_left
set_option maxRecDepth 20000 in
theorem ggX1_handOver_X6_clear : GoodIn wsX1_handOver wsX6_clear := goodIn_r _ [14, 9, 10, 23, 24, 25] (by decide +kernel) (by decide +kernel)
set_option maxRecDepth 20000 in
theorem gX1_handOver_X6_clear : GoodIn wsX1_handOver (wsV RX1 41 RX6 yX6_clear wsX6_clear) := goodIn_app (goodIn_of _ (by decide +kernel)) ggX1_handOver_X6_clear
set_option maxRecDepth 20000 in
theorem ggX1_looksSame_X6_isSame : GoodIn wsX1_looksSame wsX6_isSame := goodIn_r _ [9, 10, 11, 12, 13, 8, 14, 15, 16, 17, 18, 19, 20, 40, 41, 42] (by decide +kernel) (by decide +kernel)
set_option maxRecDepth 20000 in
theorem gX1_looksSame_X6_isSame : GoodIn wsX1_looksSame (wsV RX1 66 RX6 yX6_isSame wsX6_isSame) := goodIn_app (goodIn_of _ (by decide +kernel)) ggX1_looksSame_X6_isSame
set_option maxRecDepth 20000 in
theorem ggX1_looksSame_X1_age : GoodIn wsX1_looksSame wsX1_age := goodIn_r _ [25, 26, 27, 28, 29, 30, 31, 32, 33, 34, 35] (by decide +kernel) (by decide +kernel)
set_option maxRecDepth 20000 in
theorem gX1_looksSame_X1_age : GoodIn wsX1_looksSame (wsV RX1 70 RX1 yX1_age wsX1_age) := goodIn_app (goodIn_of _ (by decide +kernel)) ggX1_looksSame_X1_age
set_option maxRecDepth 20000 in
theorem ggX2_start_X9_get : GoodIn wsX2_start wsX9_get := goodIn_r _ [11, 12, 13, 29, 30] (by decide +kernel) (by decide +kernel)
set_option maxRecDepth 20000 in
theorem gX2_start_X9_get : GoodIn wsX2_start (wsV RX2 29 RX9 yX9_get wsX9_get) := goodIn_app (goodIn_of _ (by decide +kernel)) ggX2_start_X9_get
set_option maxRecDepth 20000 in
theorem ggX2_slotDomain_X9_get : GoodIn wsX2_slotDomain wsX9_get := goodIn_r _ [8, 9, 10, 26, 27] (by decide +kernel) (by decide +kernel)
set_option maxRecDepth 20000 in
theorem gX2_slotDomain_X9_get : GoodIn wsX2_slotDomain (wsV RX2 29 RX9 yX9_get wsX9_get) := goodIn_app (goodIn_of _ (by decide +kernel)) ggX2_slotDomain_X9_get
set_option maxRecDepth 20000 in
theorem ggX2_beginsSlot_X9_get : GoodIn wsX2_beginsSlot wsX9_get := goodIn_r _ [9, 10, 11, 27, 28] (by decide +kernel) (by decide +kernel)
set_option maxRecDepth 20000 in
theorem gX2_beginsSlot_X9_get : GoodIn wsX2_beginsSlot (wsV RX2 29 RX9 yX9_get wsX9_get) := goodIn_app (goodIn_of _ (by decide +kernel)) ggX2_beginsSlot_X9_get
set_option maxRecDepth 20000 in
theorem ggX2_advance_X9_get : GoodIn wsX2_advance wsX9_get := goodIn_r _ [11, 12, 13, 29, 30] (by decide +kernel) (by decide +kernel)
set_option maxRecDepth 20000 in
theorem gX2_advance_X9_get : GoodIn wsX2_advance (wsV RX2 29 RX9 yX9_get wsX9_get) := goodIn_app (goodIn_of _ (by decide +kernel)) ggX2_advance_X9_get
set_option maxRecDepth 20000 in
theorem ggX3_init_X9_init : GoodIn wsX3_init wsX9_init := goodIn_r _ [14, 15, 2, 3, 16, 17, 18, 19, 4, 20, 30, 31] (by decide +kernel) (by decide +kernel)
set_option maxRecDepth 20000 in
theorem gX3_init_X9_init : GoodIn wsX3_init (wsX9_init) := ggX3_init_X9_init
set_option maxRecDepth 20000 in
theorem ggX3_reset_X3_clearMemory : GoodIn wsX3_reset wsX3_clearMemory := goodIn_r _ [11, 12, 13, 14, 15, 16, 17, 18, 25, 26, 27, 28, 29, 30, 31, 32, 33] (by decide +kernel) (by decide +kernel)
set_option maxRecDepth 20000 in
theorem gX3_reset_X3_clearMemory : GoodIn wsX3_reset (wsV RX3 30 RX3 yX3_clearMemory wsX3_clearMemory) := goodIn_app (goodIn_of _ (by decide +kernel)) ggX3_reset_X3_clearMemory
set_option maxRecDepth 20000 in
theorem ggX3_reset_X9_clear : GoodIn wsX3_reset wsX9_clear := goodIn_r _ [23, 24, 34, 35] (by decide +kernel) (by decide +kernel)
set_option maxRecDepth 20000 in
theorem gX3_reset_X9_clear : GoodIn wsX3_reset (wsV RX3 33 RX9 yX9_clear wsX9_clear) := goodIn_app (goodIn_of _ (by decide +kernel)) ggX3_reset_X9_clear
set_option maxRecDepth 20000 in
theorem ggX3_clearMemory_J7_fill_53178 : GoodIn wsX3_clearMemory wsJ7_fill_53178 := goodIn_r _ [7] (by decide +kernel) (by decide +kernel)
set_option maxRecDepth 20000 in
theorem gX3_clearMemory_J7_fill_53178 : GoodIn wsX3_clearMemory (va_wsS RX3 52 yJ7_fill_53178 wsJ7_fill_53178) := goodIn_app (goodIn_of _ (by decide +kernel)) ggX3_clearMemory_J7_fill_53178
set_option maxRecDepth 20000 in
theorem ggX3_cellOrZero_X3_hasCells : GoodIn wsX3_cellOrZero wsX3_hasCells := goodIn_r _ [5] (by decide +kernel) (by decide +kernel)
set_option maxRecDepth 20000 in
theorem gX3_cellOrZero_X3_hasCells : GoodIn wsX3_cellOrZero (va_wsS RX3 58 yX3_hasCells wsX3_hasCells) := goodIn_app (goodIn_of _ (by decide +kernel)) ggX3_cellOrZero_X3_hasCells
set_option maxRecDepth 20000 in
theorem ggX3_performAlone_X10_partA : GoodIn wsX3_performAlone wsX10_partA := goodIn_r _ [4] (by decide +kernel) (by decide +kernel)
set_option maxRecDepth 20000 in
theorem gX3_performAlone_X10_partA_n62 : GoodIn wsX3_performAlone (wsX10_partA) := ggX3_performAlone_X10_partA
set_option maxRecDepth 20000 in
theorem ggX3_performAlone_X10_partB : GoodIn wsX3_performAlone wsX10_partB := goodIn_r _ [6] (by decide +kernel) (by decide +kernel)
set_option maxRecDepth 20000 in
theorem gX3_performAlone_X10_partB_n66 : GoodIn wsX3_performAlone (wsX10_partB) := ggX3_performAlone_X10_partB
set_option maxRecDepth 20000 in
theorem ggX3_performAlone_X3_read : GoodIn wsX3_performAlone wsX3_read := goodIn_r _ [11, 12, 86, 87, 88, 89, 90, 91, 92, 93, 94] (by decide +kernel) (by decide +kernel)
set_option maxRecDepth 20000 in
theorem gX3_performAlone_X3_read : GoodIn wsX3_performAlone (wsV RX3 69 RX3 yX3_read wsX3_read) := goodIn_app (goodIn_of _ (by decide +kernel)) ggX3_performAlone_X3_read
set_option maxRecDepth 20000 in
theorem ggX3_performAlone_X10_operation : GoodIn wsX3_performAlone wsX10_operation := goodIn_r _ [14] (by decide +kernel) (by decide +kernel)
set_option maxRecDepth 20000 in
theorem gX3_performAlone_X10_operation_n72 : GoodIn wsX3_performAlone (wsX10_operation) := ggX3_performAlone_X10_operation
set_option maxRecDepth 20000 in
theorem ggX3_performAlone_X3_load : GoodIn wsX3_performAlone wsX3_load := goodIn_r _ [18, 19, 20, 21, 10, 22, 23, 24, 25, 26, 12, 86, 87, 88, 89, 90, 91, 92, 93, 94] (by decide +kernel) (by decide +kernel)
set_option maxRecDepth 20000 in
theorem gX3_performAlone_X3_load : GoodIn wsX3_performAlone (wsV RX3 75 RX3 yX3_load wsX3_load) := goodIn_app (goodIn_of _ (by decide +kernel)) ggX3_performAlone_X3_load
set_option maxRecDepth 20000 in
theorem ggX3_performAlone_X3_store : GoodIn wsX3_performAlone wsX3_store := goodIn_r _ [30, 19, 20, 21, 10, 22, 86, 87, 88, 89, 90, 91, 92, 93, 94] (by decide +kernel) (by decide +kernel)
set_option maxRecDepth 20000 in
theorem gX3_performAlone_X3_store : GoodIn wsX3_performAlone (wsV RX3 78 RX3 yX3_store wsX3_store) := goodIn_app (goodIn_of _ (by decide +kernel)) ggX3_performAlone_X3_store
set_option maxRecDepth 20000 in
theorem ggX3_performAlone_X3_putOut : GoodIn wsX3_performAlone wsX3_putOut := goodIn_r _ [34, 35, 36, 37, 38, 39, 40, 41, 42, 43, 44, 45, 46, 47, 48, 49, 50, 51, 52, 53, 54, 55, 56, 57, 58, 59, 60, 61, 86, 87, 88, 89, 90, 91, 92, 93, 94, 95, 96] (by decide +kernel) (by decide +kernel)
set_option maxRecDepth 20000 in
theorem gX3_performAlone_X3_putOut : GoodIn wsX3_performAlone (wsV RX3 81 RX3 yX3_putOut wsX3_putOut) := goodIn_app (goodIn_of _ (by decide +kernel)) ggX3_performAlone_X3_putOut
set_option maxRecDepth 20000 in
theorem ggX3_performAlone_X3_takeInput : GoodIn wsX3_performAlone wsX3_takeInput := goodIn_r _ [65, 66, 67, 68, 69, 10, 70, 12, 71, 72, 73, 39, 74, 41, 42, 23, 24, 25, 26, 75, 76, 77, 78, 79, 59, 60, 61, 86, 87, 88, 89, 90, 91, 92, 93, 94, 95, 96] (by decide +kernel) (by decide +kernel)
set_option maxRecDepth 20000 in
theorem gX3_performAlone_X3_takeInput : GoodIn wsX3_performAlone (wsV RX3 85 RX3 yX3_takeInput wsX3_takeInput) := goodIn_app (goodIn_of _ (by decide +kernel)) ggX3_performAlone_X3_takeInput
set_option maxRecDepth 20000 in
theorem ggX3_performAlone_X3_computed : GoodIn wsX3_performAlone wsX3_computed := goodIn_r _ [83, 5, 3, 6, 7, 8, 9, 10, 11, 12, 84, 85, 13, 14, 86, 87, 88, 89, 90, 91, 92, 93, 94] (by decide +kernel) (by decide +kernel)
set_option maxRecDepth 20000 in
theorem gX3_performAlone_X3_computed : GoodIn wsX3_performAlone (wsV RX3 88 RX3 yX3_computed wsX3_computed) := goodIn_app (goodIn_of _ (by decide +kernel)) ggX3_performAlone_X3_computed
set_option maxRecDepth 20000 in
theorem ggX3_performAlone_X3_write : GoodIn wsX3_performAlone wsX3_write := goodIn_r _ [26, 12, 86, 87, 88, 89, 90, 91, 92, 93, 94] (by decide +kernel) (by decide +kernel)
set_option maxRecDepth 20000 in
theorem gX3_performAlone_X3_write : GoodIn wsX3_performAlone (wsV RX3 91 RX3 yX3_write wsX3_write) := goodIn_app (goodIn_of _ (by decide +kernel)) ggX3_performAlone_X3_write
set_option maxRecDepth 20000 in
theorem ggX3_computed_X10_partB : GoodIn wsX3_computed wsX10_partB := goodIn_r _ [3] (by decide +kernel) (by decide +kernel)
set_option maxRecDepth 20000 in
theorem gX3_computed_X10_partB_n66 : GoodIn wsX3_computed (wsX10_partB) := ggX3_computed_X10_partB
set_option maxRecDepth 20000 in
theorem ggX3_computed_X3_read : GoodIn wsX3_computed wsX3_read := goodIn_r _ [8, 9, 14, 15, 16, 17, 18, 19, 20, 21, 22] (by decide +kernel) (by decide +kernel)
set_option maxRecDepth 20000 in
theorem gX3_computed_X3_read : GoodIn wsX3_computed (wsV RX3 69 RX3 yX3_read wsX3_read) := goodIn_app (goodIn_of _ (by decide +kernel)) ggX3_computed_X3_read
set_option maxRecDepth 20000 in
theorem ggX3_computed_X10_partC : GoodIn wsX3_computed wsX10_partC := goodIn_r _ [11] (by decide +kernel) (by decide +kernel)
set_option maxRecDepth 20000 in
theorem gX3_computed_X10_partC_n95 : GoodIn wsX3_computed (wsX10_partC) := ggX3_computed_X10_partC
set_option maxRecDepth 20000 in
theorem ggX3_computed_X10_operation : GoodIn wsX3_computed wsX10_operation := goodIn_r _ [13] (by decide +kernel) (by decide +kernel)
set_option maxRecDepth 20000 in
theorem gX3_computed_X10_operation_n72 : GoodIn wsX3_computed (wsX10_operation) := ggX3_computed_X10_operation
set_option maxRecDepth 20000 in
theorem ggX3_load_X3_hasCells : GoodIn wsX3_load wsX3_hasCells := goodIn_r _ [5] (by decide +kernel) (by decide +kernel)
set_option maxRecDepth 20000 in
theorem gX3_load_X3_hasCells : GoodIn wsX3_load (va_wsS RX3 58 yX3_hasCells wsX3_hasCells) := goodIn_app (goodIn_of _ (by decide +kernel)) ggX3_load_X3_hasCells
set_option maxRecDepth 20000 in
theorem ggX3_load_X3_write : GoodIn wsX3_load wsX3_write := goodIn_r _ [9, 10, 11, 12, 13, 14, 15, 16, 17, 18, 19] (by decide +kernel) (by decide +kernel)
set_option maxRecDepth 20000 in
theorem gX3_load_X3_write : GoodIn wsX3_load (wsV RX3 91 RX3 yX3_write wsX3_write) := goodIn_app (goodIn_of _ (by decide +kernel)) ggX3_load_X3_write
set_option maxRecDepth 20000 in
theorem ggX3_store_X3_hasCells : GoodIn wsX3_store wsX3_hasCells := goodIn_r _ [5] (by decide +kernel) (by decide +kernel)
set_option maxRecDepth 20000 in
theorem gX3_store_X3_hasCells : GoodIn wsX3_store (va_wsS RX3 58 yX3_hasCells wsX3_hasCells) := goodIn_app (goodIn_of _ (by decide +kernel)) ggX3_store_X3_hasCells
set_option maxRecDepth 20000 in
theorem ggX3_putOut_X9_add : GoodIn wsX3_putOut wsX9_add := goodIn_r _ [6, 7, 8, 9, 10, 11, 12, 13, 14, 15, 16, 17, 18, 19, 20, 21, 22, 23, 24, 25, 26, 27, 37, 38] (by decide +kernel) (by decide +kernel)
set_option maxRecDepth 20000 in
theorem gX3_putOut_X9_add : GoodIn wsX3_putOut (wsV RX3 101 RX9 yX9_add wsX9_add) := goodIn_app (goodIn_of _ (by decide +kernel)) ggX3_putOut_X9_add
set_option maxRecDepth 20000 in
theorem ggX3_takeInput_X3_report : GoodIn wsX3_takeInput wsX3_report := goodIn_r _ [6, 7, 27, 28, 29, 30, 31, 32, 33, 34, 35] (by decide +kernel) (by decide +kernel)
set_option maxRecDepth 20000 in
theorem gX3_takeInput_X3_report : GoodIn wsX3_takeInput (wsV RX3 104 RX3 yX3_report wsX3_report) := goodIn_app (goodIn_of _ (by decide +kernel)) ggX3_takeInput_X3_report
set_option maxRecDepth 20000 in
theorem ggX3_takeInput_X9_get : GoodIn wsX3_takeInput wsX9_get := goodIn_r _ [12, 13, 14, 36, 37] (by decide +kernel) (by decide +kernel)
set_option maxRecDepth 20000 in
theorem gX3_takeInput_X9_get : GoodIn wsX3_takeInput (wsV RX3 107 RX9 yX9_get wsX9_get) := goodIn_app (goodIn_of _ (by decide +kernel)) ggX3_takeInput_X9_get
set_option maxRecDepth 20000 in
theorem ggX3_takeInput_X3_write : GoodIn wsX3_takeInput wsX3_write := goodIn_r _ [18, 7, 27, 28, 29, 30, 31, 32, 33, 34, 35] (by decide +kernel) (by decide +kernel)
set_option maxRecDepth 20000 in
theorem gX3_takeInput_X3_write : GoodIn wsX3_takeInput (wsV RX3 91 RX3 yX3_write wsX3_write) := goodIn_app (goodIn_of _ (by decide +kernel)) ggX3_takeInput_X3_write
set_option maxRecDepth 20000 in
theorem ggX3_takeInput_X9_removeFirst : GoodIn wsX3_takeInput wsX9_removeFirst := goodIn_r _ [22, 13, 14, 23, 24, 25, 26, 36, 37] (by decide +kernel) (by decide +kernel)
set_option maxRecDepth 20000 in
theorem gX3_takeInput_X9_removeFirst : GoodIn wsX3_takeInput (wsV RX3 110 RX9 yX9_removeFirst wsX9_removeFirst) := goodIn_app (goodIn_of _ (by decide +kernel)) ggX3_takeInput_X9_removeFirst
set_option maxRecDepth 20000 in
theorem ggX3_placeAfter_X10_partA : GoodIn wsX3_placeAfter wsX10_partA := goodIn_r _ [4] (by decide +kernel) (by decide +kernel)
set_option maxRecDepth 20000 in
theorem gX3_placeAfter_X10_partA_n62 : GoodIn wsX3_placeAfter (wsX10_partA) := ggX3_placeAfter_X10_partA
set_option maxRecDepth 20000 in
theorem ggX3_placeAfter_X3_read : GoodIn wsX3_placeAfter wsX3_read := goodIn_r _ [9, 10, 15, 16, 17, 18, 19, 20, 21, 22, 23] (by decide +kernel) (by decide +kernel)
set_option maxRecDepth 20000 in
theorem gX3_placeAfter_X3_read : GoodIn wsX3_placeAfter (wsV RX3 69 RX3 yX3_read wsX3_read) := goodIn_app (goodIn_of _ (by decide +kernel)) ggX3_placeAfter_X3_read
set_option maxRecDepth 20000 in
theorem ggX3_placeAfter_X10_partB : GoodIn wsX3_placeAfter wsX10_partB := goodIn_r _ [12] (by decide +kernel) (by decide +kernel)
set_option maxRecDepth 20000 in
theorem gX3_placeAfter_X10_partB_n66 : GoodIn wsX3_placeAfter (wsX10_partB) := ggX3_placeAfter_X10_partB
set_option maxRecDepth 20000 in
theorem ggX3_placeAfter_X10_operation : GoodIn wsX3_placeAfter wsX10_operation := goodIn_r _ [14] (by decide +kernel) (by decide +kernel)
set_option maxRecDepth 20000 in
theorem gX3_placeAfter_X10_operation_n72 : GoodIn wsX3_placeAfter (wsX10_operation) := ggX3_placeAfter_X10_operation
set_option maxRecDepth 20000 in
theorem ggX3_fail_X3_clearMemory : GoodIn wsX3_fail wsX3_clearMemory := goodIn_r _ [8, 2, 9, 10, 11, 12, 13, 14, 15, 16, 17, 18, 19, 20, 21, 22, 23] (by decide +kernel) (by decide +kernel)
set_option maxRecDepth 20000 in
theorem gX3_fail_X3_clearMemory : GoodIn wsX3_fail (wsV RX3 30 RX3 yX3_clearMemory wsX3_clearMemory) := goodIn_app (goodIn_of _ (by decide +kernel)) ggX3_fail_X3_clearMemory
set_option maxRecDepth 20000 in
theorem ggX3_isSame_X9_isSame : GoodIn wsX3_isSame wsX9_isSame := goodIn_r _ [12, 13, 14, 24, 25] (by decide +kernel) (by decide +kernel)
set_option maxRecDepth 20000 in
theorem gX3_isSame_X9_isSame : GoodIn wsX3_isSame (wsV RX3 113 RX9 yX9_isSame wsX9_isSame) := goodIn_app (goodIn_of _ (by decide +kernel)) ggX3_isSame_X9_isSame
set_option maxRecDepth 20000 in
theorem ggX5_init_X3_init : GoodIn wsX5_init wsX3_init := goodIn_r _ [19, 20, 2, 3, 21, 22, 23, 24, 25, 26, 27, 28, 29, 30, 31, 32, 33, 34, 35, 36, 37, 74, 75, 76, 77, 78, 79, 80, 81, 82, 97, 98] (by decide +kernel) (by decide +kernel)
set_option maxRecDepth 20000 in
theorem gX5_init_X3_init : GoodIn wsX5_init (wsX3_init) := ggX5_init_X3_init
set_option maxRecDepth 20000 in
theorem ggX5_init_X1_init : GoodIn wsX5_init wsX1_init := goodIn_r _ [40, 41, 2, 3, 42, 43, 44, 45, 46, 47, 21, 48, 49, 50, 51, 52, 53, 34, 35, 36, 54, 83, 84, 85, 86, 87, 88, 89, 90, 99, 100, 101, 102, 103, 104, 105] (by decide +kernel) (by decide +kernel)
set_option maxRecDepth 20000 in
theorem gX5_init_X1_init : GoodIn wsX5_init (wsX1_init) := ggX5_init_X1_init
set_option maxRecDepth 20000 in
theorem ggX5_init_X2_init : GoodIn wsX5_init wsX2_init := goodIn_r _ [57, 58, 2, 3, 59, 91, 92, 93, 94, 95, 96] (by decide +kernel) (by decide +kernel)
set_option maxRecDepth 20000 in
theorem gX5_init_X2_init : GoodIn wsX5_init (wsX2_init) := ggX5_init_X2_init
set_option maxRecDepth 20000 in
theorem ggX5_reset_X3_reset : GoodIn wsX5_reset wsX3_reset := goodIn_r _ [10, 11, 12, 13, 14, 15, 16, 17, 18, 19, 9, 20, 21, 22, 23, 24, 25, 26, 27, 28, 29, 30, 31, 32, 33, 84, 85, 86, 87, 88, 89, 90, 91, 92, 93, 94] (by decide +kernel) (by decide +kernel)
set_option maxRecDepth 20000 in
theorem gX5_reset_X3_reset : GoodIn wsX5_reset (wsV RX5 53 RX3 yX3_reset wsX3_reset) := goodIn_app (goodIn_of _ (by decide +kernel)) ggX5_reset_X3_reset
set_option maxRecDepth 20000 in
theorem ggX5_reset_X1_reset : GoodIn wsX5_reset wsX1_reset := goodIn_r _ [38, 39, 40, 41, 42, 43, 44, 45, 46, 47, 48, 49, 50, 51, 52, 53, 25, 26, 27, 95, 96, 97, 98, 99, 100, 101, 102, 103, 104, 105] (by decide +kernel) (by decide +kernel)
set_option maxRecDepth 20000 in
theorem gX5_reset_X1_reset : GoodIn wsX5_reset (wsV RX5 56 RX1 yX1_reset wsX1_reset) := goodIn_app (goodIn_of _ (by decide +kernel)) ggX5_reset_X1_reset
set_option maxRecDepth 20000 in
theorem ggX5_reset_X2_start : GoodIn wsX5_reset wsX2_start := goodIn_r _ [58, 59, 60, 61, 62, 63, 64, 65, 66, 67, 31, 68, 33, 69, 106, 107, 108, 109, 110, 111, 75, 76, 77, 78, 79, 80, 81, 82, 83, 93, 94] (by decide +kernel) (by decide +kernel)
set_option maxRecDepth 20000 in
theorem gX5_reset_X2_start : GoodIn wsX5_reset (wsV RX5 57 RX2 yX2_start wsX2_start) := goodIn_app (goodIn_of _ (by decide +kernel)) ggX5_reset_X2_start
set_option maxRecDepth 20000 in
theorem ggX5_stepIsDue_X2_beginsSlot : GoodIn wsX5_stepIsDue wsX2_beginsSlot := goodIn_r _ [8, 9, 10, 11, 12, 13, 14, 15, 16, 17, 18, 19, 38, 39, 40, 41, 42, 43, 44, 45, 46, 47, 48, 49, 50, 51, 52, 53, 54] (by decide +kernel) (by decide +kernel)
set_option maxRecDepth 20000 in
theorem gX5_stepIsDue_X2_beginsSlot : GoodIn wsX5_stepIsDue (wsV RX5 64 RX2 yX2_beginsSlot wsX2_beginsSlot) := goodIn_app (goodIn_of _ (by decide +kernel)) ggX5_stepIsDue_X2_beginsSlot
set_option maxRecDepth 20000 in
theorem ggX5_stepIsDue_X2_slotDomain : GoodIn wsX5_stepIsDue wsX2_slotDomain := goodIn_r _ [23, 10, 11, 12, 13, 14, 15, 16, 17, 18, 19, 38, 39, 40, 41, 42, 43, 44, 45, 46, 47, 48, 49, 50, 51, 52, 53, 54] (by decide +kernel) (by decide +kernel)
set_option maxRecDepth 20000 in
theorem gX5_stepIsDue_X2_slotDomain : GoodIn wsX5_stepIsDue (wsV RX5 68 RX2 yX2_slotDomain wsX2_slotDomain) := goodIn_app (goodIn_of _ (by decide +kernel)) ggX5_stepIsDue_X2_slotDomain
set_option maxRecDepth 20000 in
theorem ggX5_dueInstruction_X2_slotDomain : GoodIn wsX5_dueInstruction wsX2_slotDomain := goodIn_r _ [8, 9, 10, 11, 12, 13, 14, 15, 16, 17, 18, 43, 44, 45, 46, 47, 48, 25, 26, 27, 28, 29, 30, 31, 32, 33, 49, 50] (by decide +kernel) (by decide +kernel)
set_option maxRecDepth 20000 in
theorem gX5_dueInstruction_X2_slotDomain : GoodIn wsX5_dueInstruction (wsV RX5 68 RX2 yX2_slotDomain wsX2_slotDomain) := goodIn_app (goodIn_of _ (by decide +kernel)) ggX5_dueInstruction_X2_slotDomain
set_option maxRecDepth 20000 in
theorem ggX5_dueInstruction_X9_get : GoodIn wsX5_dueInstruction wsX9_get := goodIn_r _ [16, 17, 18, 49, 50] (by decide +kernel) (by decide +kernel)
set_option maxRecDepth 20000 in
theorem gX5_dueInstruction_X9_get : GoodIn wsX5_dueInstruction (wsV RX5 82 RX9 yX9_get wsX9_get) := goodIn_app (goodIn_of _ (by decide +kernel)) ggX5_dueInstruction_X9_get
set_option maxRecDepth 20000 in
theorem ggX5_passWithStep_X5_beginTick : GoodIn wsX5_passWithStep wsX5_beginTick := goodIn_r _ [6, 1, 7, 8, 9, 10, 11, 12, 13, 14, 15, 16, 17, 18, 19, 20, 21, 22, 23, 24, 25, 26, 27, 28, 29, 30, 31, 32, 33, 34, 35, 36, 37, 38, 39, 40, 41, 42, 43, 44, 45, 46, 47, 48, 248, 249, 250, 251, 252, 253, 254, 255, 256, 257, 258, 259, 260, 261, 262, 263, 264, 265, 266, 267, 268, 269, 270, 271, 272, 273, 274, 275, 276, 277, 278, 279, 280, 281, 282, 283, 284] (by decide +kernel) (by decide +kernel)
set_option maxRecDepth 20000 in
theorem gX5_passWithStep_X5_beginTick : GoodIn wsX5_passWithStep (wsV RX5 88 RX5 yX5_beginTick wsX5_beginTick) := goodIn_app (goodIn_of _ (by decide +kernel)) ggX5_passWithStep_X5_beginTick
set_option maxRecDepth 20000 in
theorem ggX5_passWithStep_X2_slotDomain : GoodIn wsX5_passWithStep wsX2_slotDomain := goodIn_r _ [29, 16, 17, 18, 19, 20, 21, 22, 23, 24, 25, 274, 275, 276, 277, 278, 279, 253, 254, 255, 256, 257, 258, 259, 260, 261, 280, 281] (by decide +kernel) (by decide +kernel)
set_option maxRecDepth 20000 in
theorem gX5_passWithStep_X2_slotDomain : GoodIn wsX5_passWithStep (wsV RX5 68 RX2 yX2_slotDomain wsX2_slotDomain) := goodIn_app (goodIn_of _ (by decide +kernel)) ggX5_passWithStep_X2_slotDomain
set_option maxRecDepth 20000 in
theorem ggX5_passWithStep_X5_makeStep : GoodIn wsX5_passWithStep wsX5_makeStep := goodIn_r _ [52, 53, 8, 54, 55, 56, 5, 57, 1, 26, 27, 28, 13, 29, 16, 17, 18, 19, 20, 21, 22, 23, 24, 25, 58, 59, 60, 61, 62, 63, 64, 65, 66, 67, 68, 69, 70, 71, 72, 73, 74, 75, 76, 77, 78, 79, 80, 81, 82, 83, 84, 85, 86, 87, 88, 89, 90, 91, 92, 93, 94, 95, 96, 97, 98, 99, 100, 101, 102, 103, 104, 105, 106, 107, 108, 109, 110, 111, 112, 113, 114, 115, 116, 117, 118, 119, 120, 121, 122, 123, 124, 125, 126, 127, 128, 129, 130, 131, 132, 133, 134, 135, 136, 137, 138, 139, 140, 141, 142, 143, 144, 145, 146, 147, 148, 7, 149, 150, 151, 152, 153, 154, 155, 156, 9, 157, 158, 159, 160, 161, 162, 41, 163, 43, 164, 165, 166, 167, 168, 169, 170, 171, 39, 40, 42, 44, 172, 173, 174, 175, 176, 177, 178, 179, 180, 181, 182, 183, 184, 185, 186, 187, 188, 189, 190, 191, 33, 192, 193, 194, 195, 196, 197, 198, 199, 200, 201, 202, 203, 204, 205, 206, 207, 208, 209, 210, 211, 212, 213, 214, 215, 216, 217, 218, 219, 220, 221, 222, 223, 224, 225, 226, 227, 228, 229, 230, 231, 232, 233, 234, 235, 236, 237, 248, 249, 250, 251, 252, 285, 286, 287, 288, 289, 290, 291, 292, 293, 253, 254, 255, 256, 257, 258, 259, 260, 261, 280, 281, 274, 275, 276, 277, 278, 279, 262, 263, 264, 265, 266, 267, 268, 269, 270, 271, 272, 273, 282, 283, 284] (by decide +kernel) (by decide +kernel)
set_option maxRecDepth 20000 in
theorem gX5_passWithStep_X5_makeStep : GoodIn wsX5_passWithStep (wsV RX5 91 RX5 yX5_makeStep wsX5_makeStep) := goodIn_app (goodIn_of _ (by decide +kernel)) ggX5_passWithStep_X5_makeStep
set_option maxRecDepth 20000 in
theorem ggX5_passWithStep_X5_endTick : GoodIn wsX5_passWithStep wsX5_endTick := goodIn_r _ [241, 53, 1, 26, 27, 28, 13, 29, 16, 17, 18, 19, 20, 21, 22, 23, 24, 25, 242, 243, 244, 245, 246, 15, 247, 248, 249, 250, 251, 252, 285, 286, 287, 288, 289, 290, 291, 292, 293, 274, 275, 276, 277, 278, 279, 253, 254, 255, 256, 257, 258, 259, 260, 261, 280, 281] (by decide +kernel) (by decide +kernel)
set_option maxRecDepth 20000 in
theorem gX5_passWithStep_X5_endTick : GoodIn wsX5_passWithStep (wsV RX5 95 RX5 yX5_endTick wsX5_endTick) := goodIn_app (goodIn_of _ (by decide +kernel)) ggX5_passWithStep_X5_endTick
set_option maxRecDepth 20000 in
theorem ggX5_passIdle_X5_beginTick : GoodIn wsX5_passIdle wsX5_beginTick := goodIn_r _ [5, 6, 7, 8, 9, 10, 11, 12, 13, 14, 15, 16, 17, 18, 19, 20, 21, 22, 23, 24, 25, 26, 27, 28, 29, 30, 31, 32, 33, 34, 35, 36, 37, 38, 39, 40, 41, 42, 43, 44, 45, 46, 47, 48, 60, 61, 62, 63, 64, 65, 66, 67, 68, 69, 70, 71, 72, 73, 74, 75, 76, 77, 78, 79, 80, 81, 82, 83, 84, 85, 86, 87, 88, 89, 90, 91, 92, 93, 94, 95, 96] (by decide +kernel) (by decide +kernel)
set_option maxRecDepth 20000 in
theorem gX5_passIdle_X5_beginTick : GoodIn wsX5_passIdle (wsV RX5 88 RX5 yX5_beginTick wsX5_beginTick) := goodIn_app (goodIn_of _ (by decide +kernel)) ggX5_passIdle_X5_beginTick
