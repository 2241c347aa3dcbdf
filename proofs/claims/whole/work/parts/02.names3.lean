set_option maxRecDepth 20000 in
theorem gX8_load_X3_firstFault : GoodIn wsX8_load (wsV RX8 78 RX3 yX3_firstFault wsX3_firstFault) := goodIn_app (goodIn_of _ (by decide +kernel)) ggX8_load_X3_firstFault
set_option maxRecDepth 20000 in
theorem ggX8_load_X3_writtenVertices : GoodIn wsX8_load wsX3_writtenVertices := goodIn_r _ [25, 17, 66, 67] (by decide +kernel) (by decide +kernel)
set_option maxRecDepth 20000 in
theorem gX8_load_X3_writtenVertices : GoodIn wsX8_load (wsV RX8 82 RX3 yX3_writtenVertices wsX3_writtenVertices) := goodIn_app (goodIn_of _ (by decide +kernel)) ggX8_load_X3_writtenVertices
set_option maxRecDepth 20000 in
theorem ggX8_load_X3_writeEdgesTo : GoodIn wsX8_load wsX3_writeEdgesTo := goodIn_r _ [30, 31, 12, 17, 18, 19, 10, 20, 21, 32, 33, 34, 35, 36, 37, 38, 39, 40, 41, 42, 43, 44, 62, 63, 64, 65, 66, 67] (by decide +kernel) (by decide +kernel)
set_option maxRecDepth 20000 in
theorem gX8_load_X3_writeEdgesTo : GoodIn wsX8_load (wsV RX8 85 RX3 yX3_writeEdgesTo wsX3_writeEdgesTo) := goodIn_app (goodIn_of _ (by decide +kernel)) ggX8_load_X3_writeEdgesTo
set_option maxRecDepth 20000 in
theorem ggX8_load_X4_forgetAll : GoodIn wsX8_load wsX4_forgetAll := goodIn_r _ [49, 50, 68, 69, 70] (by decide +kernel) (by decide +kernel)
set_option maxRecDepth 20000 in
theorem gX8_load_X4_forgetAll : GoodIn wsX8_load (wsV RX8 89 RX4 yX4_forgetAll wsX4_forgetAll) := goodIn_app (goodIn_of _ (by decide +kernel)) ggX8_load_X4_forgetAll
theorem dX8_load_0 : decode cX8_load 0 = .ok (.aload_n 0, 1) := by decide +kernel
theorem dX8_load_1 : decode cX8_load 1 = .ok (.getfield 57, 3) := by decide +kernel
theorem dX8_load_4 : decode cX8_load 4 = .ok (.invokevirtual 78, 3) := by decide +kernel
theorem dX8_load_7 : decode cX8_load 7 = .ok (.bipush (-9), 2) := by decide +kernel
theorem dX8_load_9 : decode cX8_load 9 = .ok (.if_icmp .eq 6, 3) := by decide +kernel
theorem dX8_load_12 : decode cX8_load 12 = .ok (.bipush (-3), 2) := by decide +kernel
theorem dX8_load_14 : decode cX8_load 14 = .ok (.ireturn, 1) := by decide +kernel
theorem dX8_load_15 : decode cX8_load 15 = .ok (.aload_n 0, 1) := by decide +kernel
theorem dX8_load_16 : decode cX8_load 16 = .ok (.aload_n 0, 1) := by decide +kernel
theorem dX8_load_17 : decode cX8_load 17 = .ok (.getfield 57, 3) := by decide +kernel
theorem dX8_load_20 : decode cX8_load 20 = .ok (.invokevirtual 82, 3) := by decide +kernel
theorem dX8_load_23 : decode cX8_load 23 = .ok (.putfield 9, 3) := by decide +kernel
theorem dX8_load_26 : decode cX8_load 26 = .ok (.aload_n 0, 1) := by decide +kernel
theorem dX8_load_27 : decode cX8_load 27 = .ok (.getfield 57, 3) := by decide +kernel
theorem dX8_load_30 : decode cX8_load 30 = .ok (.aload_n 0, 1) := by decide +kernel
theorem dX8_load_31 : decode cX8_load 31 = .ok (.getfield 22, 3) := by decide +kernel
theorem dX8_load_34 : decode cX8_load 34 = .ok (.invokevirtual 85, 3) := by decide +kernel
theorem dX8_load_37 : decode cX8_load 37 = .ok (.aload_n 0, 1) := by decide +kernel
theorem dX8_load_38 : decode cX8_load 38 = .ok (.getfield 42, 3) := by decide +kernel
theorem dX8_load_41 : decode cX8_load 41 = .ok (.invokevirtual 89, 3) := by decide +kernel
theorem dX8_load_44 : decode cX8_load 44 = .ok (.iconst 0, 1) := by decide +kernel
theorem dX8_load_45 : decode cX8_load 45 = .ok (.istore_n 1, 1) := by decide +kernel
theorem dX8_load_46 : decode cX8_load 46 = .ok (.iload_n 1, 1) := by decide +kernel
theorem dX8_load_47 : decode cX8_load 47 = .ok (.iconst 2, 1) := by decide +kernel
theorem dX8_load_48 : decode cX8_load 48 = .ok (.if_icmp .ge 16, 3) := by decide +kernel
theorem dX8_load_51 : decode cX8_load 51 = .ok (.aload_n 0, 1) := by decide +kernel
theorem dX8_load_52 : decode cX8_load 52 = .ok (.getfield 50, 3) := by decide +kernel
theorem dX8_load_55 : decode cX8_load 55 = .ok (.iload_n 1, 1) := by decide +kernel
theorem dX8_load_56 : decode cX8_load 56 = .ok (.iconst 0, 1) := by decide +kernel
theorem dX8_load_57 : decode cX8_load 57 = .ok (.bastore, 1) := by decide +kernel
theorem dX8_load_58 : decode cX8_load 58 = .ok (.iinc 1 1, 3) := by decide +kernel
theorem dX8_load_61 : decode cX8_load 61 = .ok (.goto (-15), 3) := by decide +kernel
theorem dX8_load_64 : decode cX8_load 64 = .ok (.aload_n 0, 1) := by decide +kernel
theorem dX8_load_65 : decode cX8_load 65 = .ok (.getfield 22, 3) := by decide +kernel
theorem dX8_load_68 : decode cX8_load 68 = .ok (.getfield 92, 3) := by decide +kernel
theorem dX8_load_71 : decode cX8_load 71 = .ok (.ireturn, 1) := by decide +kernel
theorem dX8_vertexCount_0 : decode cX8_vertexCount 0 = .ok (.aload_n 0, 1) := by decide +kernel
theorem dX8_vertexCount_1 : decode cX8_vertexCount 1 = .ok (.getfield 9, 3) := by decide +kernel
theorem dX8_vertexCount_4 : decode cX8_vertexCount 4 = .ok (.ireturn, 1) := by decide +kernel
theorem dX8_edgeCount_0 : decode cX8_edgeCount 0 = .ok (.aload_n 0, 1) := by decide +kernel
theorem dX8_edgeCount_1 : decode cX8_edgeCount 1 = .ok (.getfield 22, 3) := by decide +kernel
theorem dX8_edgeCount_4 : decode cX8_edgeCount 4 = .ok (.getfield 92, 3) := by decide +kernel
theorem dX8_edgeCount_7 : decode cX8_edgeCount 7 = .ok (.ireturn, 1) := by decide +kernel
set_option maxRecDepth 20000 in
theorem ggX8_source_X2_holds : GoodIn wsX8_source wsX2_holds := goodIn_r _ [7, 8, 20, 21, 22, 23] (by decide +kernel) (by decide +kernel)
set_option maxRecDepth 20000 in
theorem gX8_source_X2_holds : GoodIn wsX8_source (wsV RX8 95 RX2 yX2_holds wsX2_holds) := goodIn_app (goodIn_of _ (by decide +kernel)) ggX8_source_X2_holds
theorem dX8_source_0 : decode cX8_source 0 = .ok (.aload_n 0, 1) := by decide +kernel
theorem dX8_source_1 : decode cX8_source 1 = .ok (.getfield 22, 3) := by decide +kernel
theorem dX8_source_4 : decode cX8_source 4 = .ok (.iload_n 1, 1) := by decide +kernel
theorem dX8_source_5 : decode cX8_source 5 = .ok (.invokevirtual 95, 3) := by decide +kernel
theorem dX8_source_8 : decode cX8_source 8 = .ok (.ifCond .eq 15, 3) := by decide +kernel
theorem dX8_source_11 : decode cX8_source 11 = .ok (.aload_n 0, 1) := by decide +kernel
theorem dX8_source_12 : decode cX8_source 12 = .ok (.getfield 22, 3) := by decide +kernel
theorem dX8_source_15 : decode cX8_source 15 = .ok (.getfield 99, 3) := by decide +kernel
theorem dX8_source_18 : decode cX8_source 18 = .ok (.iload_n 1, 1) := by decide +kernel
theorem dX8_source_19 : decode cX8_source 19 = .ok (.iaload, 1) := by decide +kernel
theorem dX8_source_20 : decode cX8_source 20 = .ok (.goto 4, 3) := by decide +kernel
theorem dX8_source_23 : decode cX8_source 23 = .ok (.iconst (-1), 1) := by decide +kernel
theorem dX8_source_24 : decode cX8_source 24 = .ok (.ireturn, 1) := by decide +kernel
set_option maxRecDepth 20000 in
theorem ggX8_target_X2_holds : GoodIn wsX8_target wsX2_holds := goodIn_r _ [7, 8, 20, 21, 22, 23] (by decide +kernel) (by decide +kernel)
set_option maxRecDepth 20000 in
theorem gX8_target_X2_holds : GoodIn wsX8_target (wsV RX8 95 RX2 yX2_holds wsX2_holds) := goodIn_app (goodIn_of _ (by decide +kernel)) ggX8_target_X2_holds
theorem dX8_target_0 : decode cX8_target 0 = .ok (.aload_n 0, 1) := by decide +kernel
theorem dX8_target_1 : decode cX8_target 1 = .ok (.getfield 22, 3) := by decide +kernel
theorem dX8_target_4 : decode cX8_target 4 = .ok (.iload_n 1, 1) := by decide +kernel
theorem dX8_target_5 : decode cX8_target 5 = .ok (.invokevirtual 95, 3) := by decide +kernel
theorem dX8_target_8 : decode cX8_target 8 = .ok (.ifCond .eq 15, 3) := by decide +kernel
theorem dX8_target_11 : decode cX8_target 11 = .ok (.aload_n 0, 1) := by decide +kernel
theorem dX8_target_12 : decode cX8_target 12 = .ok (.getfield 22, 3) := by decide +kernel
theorem dX8_target_15 : decode cX8_target 15 = .ok (.getfield 103, 3) := by decide +kernel
theorem dX8_target_18 : decode cX8_target 18 = .ok (.iload_n 1, 1) := by decide +kernel
theorem dX8_target_19 : decode cX8_target 19 = .ok (.iaload, 1) := by decide +kernel
theorem dX8_target_20 : decode cX8_target 20 = .ok (.goto 4, 3) := by decide +kernel
theorem dX8_target_23 : decode cX8_target 23 = .ok (.iconst (-1), 1) := by decide +kernel
theorem dX8_target_24 : decode cX8_target 24 = .ok (.ireturn, 1) := by decide +kernel
set_option maxRecDepth 20000 in
theorem ggX8_label_X2_holds : GoodIn wsX8_label wsX2_holds := goodIn_r _ [7, 8, 20, 21, 22, 23] (by decide +kernel) (by decide +kernel)
set_option maxRecDepth 20000 in
theorem gX8_label_X2_holds : GoodIn wsX8_label (wsV RX8 95 RX2 yX2_holds wsX2_holds) := goodIn_app (goodIn_of _ (by decide +kernel)) ggX8_label_X2_holds
theorem dX8_label_0 : decode cX8_label 0 = .ok (.aload_n 0, 1) := by decide +kernel
theorem dX8_label_1 : decode cX8_label 1 = .ok (.getfield 22, 3) := by decide +kernel
theorem dX8_label_4 : decode cX8_label 4 = .ok (.iload_n 1, 1) := by decide +kernel
theorem dX8_label_5 : decode cX8_label 5 = .ok (.invokevirtual 95, 3) := by decide +kernel
theorem dX8_label_8 : decode cX8_label 8 = .ok (.ifCond .eq 15, 3) := by decide +kernel
theorem dX8_label_11 : decode cX8_label 11 = .ok (.aload_n 0, 1) := by decide +kernel
theorem dX8_label_12 : decode cX8_label 12 = .ok (.getfield 22, 3) := by decide +kernel
theorem dX8_label_15 : decode cX8_label 15 = .ok (.getfield 106, 3) := by decide +kernel
theorem dX8_label_18 : decode cX8_label 18 = .ok (.iload_n 1, 1) := by decide +kernel
theorem dX8_label_19 : decode cX8_label 19 = .ok (.iaload, 1) := by decide +kernel
theorem dX8_label_20 : decode cX8_label 20 = .ok (.goto 4, 3) := by decide +kernel
theorem dX8_label_23 : decode cX8_label 23 = .ok (.iconst (-1), 1) := by decide +kernel
theorem dX8_label_24 : decode cX8_label 24 = .ok (.ireturn, 1) := by decide +kernel
set_option maxRecDepth 20000 in
theorem ggX8_addEdge_X8_isVertex : GoodIn wsX8_addEdge wsX8_isVertex := goodIn_r _ [8, 9, 44, 45, 46, 47, 48, 49, 50, 51, 52, 53, 54] (by decide +kernel) (by decide +kernel)
set_option maxRecDepth 20000 in
theorem gX8_addEdge_X8_isVertex : GoodIn wsX8_addEdge (wsV RX8 109 RX8 yX8_isVertex wsX8_isVertex) := goodIn_app (goodIn_of _ (by decide +kernel)) ggX8_addEdge_X8_isVertex
set_option maxRecDepth 20000 in
theorem ggX8_addEdge_X8_isLabel : GoodIn wsX8_addEdge wsX8_isLabel := goodIn_r _ [12] (by decide +kernel) (by decide +kernel)
set_option maxRecDepth 20000 in
theorem gX8_addEdge_X8_isLabel : GoodIn wsX8_addEdge (va_wsS RX8 112 yX8_isLabel wsX8_isLabel) := goodIn_app (goodIn_of _ (by decide +kernel)) ggX8_addEdge_X8_isLabel
set_option maxRecDepth 20000 in
theorem ggX8_addEdge_X2_isFull : GoodIn wsX8_addEdge wsX2_isFull := goodIn_r _ [17, 18, 19, 55, 56, 57, 58] (by decide +kernel) (by decide +kernel)
set_option maxRecDepth 20000 in
theorem gX8_addEdge_X2_isFull : GoodIn wsX8_addEdge (wsV RX8 115 RX2 yX2_isFull wsX2_isFull) := goodIn_app (goodIn_of _ (by decide +kernel)) ggX8_addEdge_X2_isFull
set_option maxRecDepth 20000 in
theorem ggX8_addEdge_X4_remember : GoodIn wsX8_addEdge wsX4_remember := goodIn_r _ [24, 25, 26, 27, 28, 29, 30, 31, 32, 33, 34, 16, 35, 18, 19, 36, 37, 38, 39, 40, 41, 42, 14, 15, 17, 59, 60, 61, 55, 56, 57, 58] (by decide +kernel) (by decide +kernel)
set_option maxRecDepth 20000 in
theorem gX8_addEdge_X4_remember : GoodIn wsX8_addEdge (wsV RX8 116 RX4 yX4_remember wsX4_remember) := goodIn_app (goodIn_of _ (by decide +kernel)) ggX8_addEdge_X4_remember
set_option maxRecDepth 20000 in
theorem ggX8_addEdge_X2_put : GoodIn wsX8_addEdge wsX2_put := goodIn_r _ [41, 19, 18, 36, 37, 42, 14, 15, 16, 17, 55, 56, 57, 58] (by decide +kernel) (by decide +kernel)
set_option maxRecDepth 20000 in
theorem gX8_addEdge_X2_put : GoodIn wsX8_addEdge (wsV RX8 119 RX2 yX2_put wsX2_put) := goodIn_app (goodIn_of _ (by decide +kernel)) ggX8_addEdge_X2_put
theorem dX8_addEdge_0 : decode cX8_addEdge 0 = .ok (.aload_n 0, 1) := by decide +kernel
theorem dX8_addEdge_1 : decode cX8_addEdge 1 = .ok (.iload_n 1, 1) := by decide +kernel
theorem dX8_addEdge_2 : decode cX8_addEdge 2 = .ok (.invokevirtual 109, 3) := by decide +kernel
theorem dX8_addEdge_5 : decode cX8_addEdge 5 = .ok (.ifCond .eq 11, 3) := by decide +kernel
theorem dX8_addEdge_8 : decode cX8_addEdge 8 = .ok (.aload_n 0, 1) := by decide +kernel
theorem dX8_addEdge_9 : decode cX8_addEdge 9 = .ok (.iload_n 2, 1) := by decide +kernel
theorem dX8_addEdge_10 : decode cX8_addEdge 10 = .ok (.invokevirtual 109, 3) := by decide +kernel
theorem dX8_addEdge_13 : decode cX8_addEdge 13 = .ok (.ifCond .ne 5, 3) := by decide +kernel
theorem dX8_addEdge_16 : decode cX8_addEdge 16 = .ok (.iconst (-1), 1) := by decide +kernel
theorem dX8_addEdge_17 : decode cX8_addEdge 17 = .ok (.ireturn, 1) := by decide +kernel
theorem dX8_addEdge_18 : decode cX8_addEdge 18 = .ok (.iload_n 3, 1) := by decide +kernel
theorem dX8_addEdge_19 : decode cX8_addEdge 19 = .ok (.invokestatic 112, 3) := by decide +kernel
theorem dX8_addEdge_22 : decode cX8_addEdge 22 = .ok (.ifCond .ne 6, 3) := by decide +kernel
theorem dX8_addEdge_25 : decode cX8_addEdge 25 = .ok (.bipush (-2), 2) := by decide +kernel
theorem dX8_addEdge_27 : decode cX8_addEdge 27 = .ok (.ireturn, 1) := by decide +kernel
theorem dX8_addEdge_28 : decode cX8_addEdge 28 = .ok (.aload_n 0, 1) := by decide +kernel
theorem dX8_addEdge_29 : decode cX8_addEdge 29 = .ok (.getfield 22, 3) := by decide +kernel
theorem dX8_addEdge_32 : decode cX8_addEdge 32 = .ok (.invokevirtual 115, 3) := by decide +kernel
theorem dX8_addEdge_35 : decode cX8_addEdge 35 = .ok (.ifCond .eq 6, 3) := by decide +kernel
theorem dX8_addEdge_38 : decode cX8_addEdge 38 = .ok (.bipush (-4), 2) := by decide +kernel
theorem dX8_addEdge_40 : decode cX8_addEdge 40 = .ok (.ireturn, 1) := by decide +kernel
theorem dX8_addEdge_41 : decode cX8_addEdge 41 = .ok (.aload_n 0, 1) := by decide +kernel
theorem dX8_addEdge_42 : decode cX8_addEdge 42 = .ok (.getfield 42, 3) := by decide +kernel
theorem dX8_addEdge_45 : decode cX8_addEdge 45 = .ok (.aload_n 0, 1) := by decide +kernel
theorem dX8_addEdge_46 : decode cX8_addEdge 46 = .ok (.getfield 22, 3) := by decide +kernel
theorem dX8_addEdge_49 : decode cX8_addEdge 49 = .ok (.invokevirtual 116, 3) := by decide +kernel
theorem dX8_addEdge_52 : decode cX8_addEdge 52 = .ok (.aload_n 0, 1) := by decide +kernel
theorem dX8_addEdge_53 : decode cX8_addEdge 53 = .ok (.getfield 22, 3) := by decide +kernel
theorem dX8_addEdge_56 : decode cX8_addEdge 56 = .ok (.iload_n 1, 1) := by decide +kernel
theorem dX8_addEdge_57 : decode cX8_addEdge 57 = .ok (.iload_n 2, 1) := by decide +kernel
theorem dX8_addEdge_58 : decode cX8_addEdge 58 = .ok (.iload_n 3, 1) := by decide +kernel
theorem dX8_addEdge_59 : decode cX8_addEdge 59 = .ok (.invokevirtual 119, 3) := by decide +kernel
theorem dX8_addEdge_62 : decode cX8_addEdge 62 = .ok (.aload_n 0, 1) := by decide +kernel
theorem dX8_addEdge_63 : decode cX8_addEdge 63 = .ok (.getfield 22, 3) := by decide +kernel
theorem dX8_addEdge_66 : decode cX8_addEdge 66 = .ok (.getfield 92, 3) := by decide +kernel
theorem dX8_addEdge_69 : decode cX8_addEdge 69 = .ok (.iconst 1, 1) := by decide +kernel
theorem dX8_addEdge_70 : decode cX8_addEdge 70 = .ok (.isub, 1) := by decide +kernel
theorem dX8_addEdge_71 : decode cX8_addEdge 71 = .ok (.ireturn, 1) := by decide +kernel
set_option maxRecDepth 20000 in
theorem ggX8_removeEdge_X2_holds : GoodIn wsX8_removeEdge wsX2_holds := goodIn_r _ [8, 9, 53, 54, 55, 56] (by decide +kernel) (by decide +kernel)
set_option maxRecDepth 20000 in
theorem gX8_removeEdge_X2_holds : GoodIn wsX8_removeEdge (wsV RX8 95 RX2 yX2_holds wsX2_holds) := goodIn_app (goodIn_of _ (by decide +kernel)) ggX8_removeEdge_X2_holds
set_option maxRecDepth 20000 in
theorem ggX8_removeEdge_X4_remember : GoodIn wsX8_removeEdge wsX4_remember := goodIn_r _ [14, 15, 16, 17, 18, 19, 20, 21, 22, 23, 24, 7, 25, 9, 26, 27, 28, 29, 30, 31, 32, 33, 34, 35, 36, 57, 58, 59, 53, 54, 55, 56] (by decide +kernel) (by decide +kernel)
set_option maxRecDepth 20000 in
theorem gX8_removeEdge_X4_remember : GoodIn wsX8_removeEdge (wsV RX8 116 RX4 yX4_remember wsX4_remember) := goodIn_app (goodIn_of _ (by decide +kernel)) ggX8_removeEdge_X4_remember
set_option maxRecDepth 20000 in
theorem ggX8_removeEdge_X2_drop : GoodIn wsX8_removeEdge wsX2_drop := goodIn_r _ [40, 9, 26, 27, 28, 41, 5, 6, 7, 8, 53, 54, 55, 56] (by decide +kernel) (by decide +kernel)
set_option maxRecDepth 20000 in
theorem gX8_removeEdge_X2_drop : GoodIn wsX8_removeEdge (wsV RX8 122 RX2 yX2_drop wsX2_drop) := goodIn_app (goodIn_of _ (by decide +kernel)) ggX8_removeEdge_X2_drop
theorem dX8_removeEdge_0 : decode cX8_removeEdge 0 = .ok (.aload_n 0, 1) := by decide +kernel
theorem dX8_removeEdge_1 : decode cX8_removeEdge 1 = .ok (.getfield 22, 3) := by decide +kernel
theorem dX8_removeEdge_4 : decode cX8_removeEdge 4 = .ok (.iload_n 1, 1) := by decide +kernel
theorem dX8_removeEdge_5 : decode cX8_removeEdge 5 = .ok (.invokevirtual 95, 3) := by decide +kernel
theorem dX8_removeEdge_8 : decode cX8_removeEdge 8 = .ok (.ifCond .ne 5, 3) := by decide +kernel
theorem dX8_removeEdge_11 : decode cX8_removeEdge 11 = .ok (.iconst (-1), 1) := by decide +kernel
theorem dX8_removeEdge_12 : decode cX8_removeEdge 12 = .ok (.ireturn, 1) := by decide +kernel
theorem dX8_removeEdge_13 : decode cX8_removeEdge 13 = .ok (.aload_n 0, 1) := by decide +kernel
theorem dX8_removeEdge_14 : decode cX8_removeEdge 14 = .ok (.getfield 42, 3) := by decide +kernel
theorem dX8_removeEdge_17 : decode cX8_removeEdge 17 = .ok (.aload_n 0, 1) := by decide +kernel
theorem dX8_removeEdge_18 : decode cX8_removeEdge 18 = .ok (.getfield 22, 3) := by decide +kernel
theorem dX8_removeEdge_21 : decode cX8_removeEdge 21 = .ok (.invokevirtual 116, 3) := by decide +kernel
theorem dX8_removeEdge_24 : decode cX8_removeEdge 24 = .ok (.aload_n 0, 1) := by decide +kernel
theorem dX8_removeEdge_25 : decode cX8_removeEdge 25 = .ok (.getfield 22, 3) := by decide +kernel
theorem dX8_removeEdge_28 : decode cX8_removeEdge 28 = .ok (.iload_n 1, 1) := by decide +kernel
theorem dX8_removeEdge_29 : decode cX8_removeEdge 29 = .ok (.invokevirtual 122, 3) := by decide +kernel
theorem dX8_removeEdge_32 : decode cX8_removeEdge 32 = .ok (.aload_n 0, 1) := by decide +kernel
theorem dX8_removeEdge_33 : decode cX8_removeEdge 33 = .ok (.getfield 22, 3) := by decide +kernel
theorem dX8_removeEdge_36 : decode cX8_removeEdge 36 = .ok (.getfield 92, 3) := by decide +kernel
theorem dX8_removeEdge_39 : decode cX8_removeEdge 39 = .ok (.ireturn, 1) := by decide +kernel
set_option maxRecDepth 20000 in
theorem ggX8_setLabel_X2_holds : GoodIn wsX8_setLabel wsX2_holds := goodIn_r _ [8, 9, 52, 53, 54, 55] (by decide +kernel) (by decide +kernel)
set_option maxRecDepth 20000 in
theorem gX8_setLabel_X2_holds : GoodIn wsX8_setLabel (wsV RX8 95 RX2 yX2_holds wsX2_holds) := goodIn_app (goodIn_of _ (by decide +kernel)) ggX8_setLabel_X2_holds
set_option maxRecDepth 20000 in
theorem ggX8_setLabel_X8_isLabel : GoodIn wsX8_setLabel wsX8_isLabel := goodIn_r _ [13] (by decide +kernel) (by decide +kernel)
set_option maxRecDepth 20000 in
theorem gX8_setLabel_X8_isLabel : GoodIn wsX8_setLabel (va_wsS RX8 112 yX8_isLabel wsX8_isLabel) := goodIn_app (goodIn_of _ (by decide +kernel)) ggX8_setLabel_X8_isLabel
set_option maxRecDepth 20000 in
theorem ggX8_setLabel_X4_remember : GoodIn wsX8_setLabel wsX4_remember := goodIn_r _ [18, 19, 20, 21, 22, 23, 24, 25, 26, 27, 28, 7, 29, 9, 30, 31, 32, 33, 34, 35, 36, 37, 38, 39, 40, 56, 57, 58, 52, 53, 54, 55] (by decide +kernel) (by decide +kernel)
set_option maxRecDepth 20000 in
theorem gX8_setLabel_X4_remember : GoodIn wsX8_setLabel (wsV RX8 116 RX4 yX4_remember wsX4_remember) := goodIn_app (goodIn_of _ (by decide +kernel)) ggX8_setLabel_X4_remember
theorem dX8_setLabel_0 : decode cX8_setLabel 0 = .ok (.aload_n 0, 1) := by decide +kernel
theorem dX8_setLabel_1 : decode cX8_setLabel 1 = .ok (.getfield 22, 3) := by decide +kernel
theorem dX8_setLabel_4 : decode cX8_setLabel 4 = .ok (.iload_n 1, 1) := by decide +kernel
theorem dX8_setLabel_5 : decode cX8_setLabel 5 = .ok (.invokevirtual 95, 3) := by decide +kernel
theorem dX8_setLabel_8 : decode cX8_setLabel 8 = .ok (.ifCond .ne 5, 3) := by decide +kernel
theorem dX8_setLabel_11 : decode cX8_setLabel 11 = .ok (.iconst (-1), 1) := by decide +kernel
theorem dX8_setLabel_12 : decode cX8_setLabel 12 = .ok (.ireturn, 1) := by decide +kernel
theorem dX8_setLabel_13 : decode cX8_setLabel 13 = .ok (.iload_n 2, 1) := by decide +kernel
theorem dX8_setLabel_14 : decode cX8_setLabel 14 = .ok (.invokestatic 112, 3) := by decide +kernel
theorem dX8_setLabel_17 : decode cX8_setLabel 17 = .ok (.ifCond .ne 6, 3) := by decide +kernel
theorem dX8_setLabel_20 : decode cX8_setLabel 20 = .ok (.bipush (-2), 2) := by decide +kernel
theorem dX8_setLabel_22 : decode cX8_setLabel 22 = .ok (.ireturn, 1) := by decide +kernel
theorem dX8_setLabel_23 : decode cX8_setLabel 23 = .ok (.aload_n 0, 1) := by decide +kernel
theorem dX8_setLabel_24 : decode cX8_setLabel 24 = .ok (.getfield 42, 3) := by decide +kernel
theorem dX8_setLabel_27 : decode cX8_setLabel 27 = .ok (.aload_n 0, 1) := by decide +kernel
theorem dX8_setLabel_28 : decode cX8_setLabel 28 = .ok (.getfield 22, 3) := by decide +kernel
theorem dX8_setLabel_31 : decode cX8_setLabel 31 = .ok (.invokevirtual 116, 3) := by decide +kernel
theorem dX8_setLabel_34 : decode cX8_setLabel 34 = .ok (.aload_n 0, 1) := by decide +kernel
theorem dX8_setLabel_35 : decode cX8_setLabel 35 = .ok (.getfield 22, 3) := by decide +kernel
theorem dX8_setLabel_38 : decode cX8_setLabel 38 = .ok (.getfield 106, 3) := by decide +kernel
theorem dX8_setLabel_41 : decode cX8_setLabel 41 = .ok (.iload_n 1, 1) := by decide +kernel
theorem dX8_setLabel_42 : decode cX8_setLabel 42 = .ok (.iaload, 1) := by decide +kernel
theorem dX8_setLabel_43 : decode cX8_setLabel 43 = .ok (.istore_n 3, 1) := by decide +kernel
theorem dX8_setLabel_44 : decode cX8_setLabel 44 = .ok (.aload_n 0, 1) := by decide +kernel
theorem dX8_setLabel_45 : decode cX8_setLabel 45 = .ok (.getfield 22, 3) := by decide +kernel
theorem dX8_setLabel_48 : decode cX8_setLabel 48 = .ok (.getfield 106, 3) := by decide +kernel
theorem dX8_setLabel_51 : decode cX8_setLabel 51 = .ok (.iload_n 1, 1) := by decide +kernel
theorem dX8_setLabel_52 : decode cX8_setLabel 52 = .ok (.iload_n 2, 1) := by decide +kernel
theorem dX8_setLabel_53 : decode cX8_setLabel 53 = .ok (.iastore, 1) := by decide +kernel
theorem dX8_setLabel_54 : decode cX8_setLabel 54 = .ok (.iload_n 3, 1) := by decide +kernel
theorem dX8_setLabel_55 : decode cX8_setLabel 55 = .ok (.ireturn, 1) := by decide +kernel
set_option maxRecDepth 20000 in
theorem ggX8_undo_X4_giveBack : GoodIn wsX8_undo wsX4_giveBack := goodIn_r _ [8, 9, 10, 11, 12, 13, 14, 15, 16, 17, 18, 19, 20, 21, 22, 23, 24, 25, 26, 27, 28, 40, 41, 42, 43, 44, 45, 46] (by decide +kernel) (by decide +kernel)
set_option maxRecDepth 20000 in
theorem gX8_undo_X4_giveBack : GoodIn wsX8_undo (wsV RX8 126 RX4 yX4_giveBack wsX4_giveBack) := goodIn_app (goodIn_of _ (by decide +kernel)) ggX8_undo_X4_giveBack
theorem dX8_undo_0 : decode cX8_undo 0 = .ok (.aload_n 0, 1) := by decide +kernel
theorem dX8_undo_1 : decode cX8_undo 1 = .ok (.getfield 42, 3) := by decide +kernel
theorem dX8_undo_4 : decode cX8_undo 4 = .ok (.getfield 125, 3) := by decide +kernel
theorem dX8_undo_7 : decode cX8_undo 7 = .ok (.ifCond .ne 6, 3) := by decide +kernel
theorem dX8_undo_10 : decode cX8_undo 10 = .ok (.bipush (-3), 2) := by decide +kernel
theorem dX8_undo_12 : decode cX8_undo 12 = .ok (.ireturn, 1) := by decide +kernel
theorem dX8_undo_13 : decode cX8_undo 13 = .ok (.aload_n 0, 1) := by decide +kernel
theorem dX8_undo_14 : decode cX8_undo 14 = .ok (.getfield 42, 3) := by decide +kernel
theorem dX8_undo_17 : decode cX8_undo 17 = .ok (.aload_n 0, 1) := by decide +kernel
theorem dX8_undo_18 : decode cX8_undo 18 = .ok (.getfield 22, 3) := by decide +kernel
theorem dX8_undo_21 : decode cX8_undo 21 = .ok (.invokevirtual 126, 3) := by decide +kernel
theorem dX8_undo_24 : decode cX8_undo 24 = .ok (.aload_n 0, 1) := by decide +kernel
theorem dX8_undo_25 : decode cX8_undo 25 = .ok (.getfield 42, 3) := by decide +kernel
theorem dX8_undo_28 : decode cX8_undo 28 = .ok (.getfield 125, 3) := by decide +kernel
theorem dX8_undo_31 : decode cX8_undo 31 = .ok (.ireturn, 1) := by decide +kernel
set_option maxRecDepth 20000 in
theorem ggX8_reachableFrom_X8_isVertex : GoodIn wsX8_reachableFrom wsX8_isVertex := goodIn_r _ [7, 2, 45, 46, 47, 48, 49, 50, 51, 52, 53, 54, 55] (by decide +kernel) (by decide +kernel)
set_option maxRecDepth 20000 in
theorem gX8_reachableFrom_X8_isVertex : GoodIn wsX8_reachableFrom (wsV RX8 109 RX8 yX8_isVertex wsX8_isVertex) := goodIn_app (goodIn_of _ (by decide +kernel)) ggX8_reachableFrom_X8_isVertex
set_option maxRecDepth 20000 in
theorem ggX8_reachableFrom_X6_ofBalancedPaths : GoodIn wsX8_reachableFrom wsX6_ofBalancedPaths := goodIn_r _ [11, 12, 13, 14, 10, 15, 16, 17, 18, 19, 20, 21, 22, 23, 24, 25, 26, 27, 28, 29, 30, 31, 32, 33, 34, 35, 36, 37, 38, 39, 40, 41, 42, 43, 56, 57, 58, 59] (by decide +kernel) (by decide +kernel)
set_option maxRecDepth 20000 in
theorem gX8_reachableFrom_X6_ofBalancedPaths : GoodIn wsX8_reachableFrom (va_wsS RX8 129 yX6_ofBalancedPaths wsX6_ofBalancedPaths) := goodIn_app (goodIn_of _ (by decide +kernel)) ggX8_reachableFrom_X6_ofBalancedPaths
set_option maxRecDepth 20000 in
theorem ggX8_reachableFrom_X6_row : GoodIn wsX8_reachableFrom wsX6_row := goodIn_r _ [32] (by decide +kernel) (by decide +kernel)
set_option maxRecDepth 20000 in
theorem gX8_reachableFrom_X6_row : GoodIn wsX8_reachableFrom (va_wsS RX8 135 yX6_row wsX6_row) := goodIn_app (goodIn_of _ (by decide +kernel)) ggX8_reachableFrom_X6_row
theorem dX8_reachableFrom_0 : decode cX8_reachableFrom 0 = .ok (.aload_n 0, 1) := by decide +kernel
theorem dX8_reachableFrom_1 : decode cX8_reachableFrom 1 = .ok (.iload_n 1, 1) := by decide +kernel
theorem dX8_reachableFrom_2 : decode cX8_reachableFrom 2 = .ok (.invokevirtual 109, 3) := by decide +kernel
theorem dX8_reachableFrom_5 : decode cX8_reachableFrom 5 = .ok (.ifCond .ne 5, 3) := by decide +kernel
theorem dX8_reachableFrom_8 : decode cX8_reachableFrom 8 = .ok (.iconst (-1), 1) := by decide +kernel
theorem dX8_reachableFrom_9 : decode cX8_reachableFrom 9 = .ok (.ireturn, 1) := by decide +kernel
theorem dX8_reachableFrom_10 : decode cX8_reachableFrom 10 = .ok (.aload_n 0, 1) := by decide +kernel
theorem dX8_reachableFrom_11 : decode cX8_reachableFrom 11 = .ok (.getfield 22, 3) := by decide +kernel
theorem dX8_reachableFrom_14 : decode cX8_reachableFrom 14 = .ok (.aload_n 0, 1) := by decide +kernel
theorem dX8_reachableFrom_15 : decode cX8_reachableFrom 15 = .ok (.getfield 9, 3) := by decide +kernel
theorem dX8_reachableFrom_18 : decode cX8_reachableFrom 18 = .ok (.invokestatic 129, 3) := by decide +kernel
theorem dX8_reachableFrom_21 : decode cX8_reachableFrom 21 = .ok (.iload_n 1, 1) := by decide +kernel
theorem dX8_reachableFrom_22 : decode cX8_reachableFrom 22 = .ok (.invokestatic 135, 3) := by decide +kernel
theorem dX8_reachableFrom_25 : decode cX8_reachableFrom 25 = .ok (.ireturn, 1) := by decide +kernel
set_option maxRecDepth 20000 in
theorem ggX8_pairCount_X8_countPairs : GoodIn wsX8_pairCount wsX8_countPairs := goodIn_r _ [6, 7, 8, 9, 10, 11, 12, 13, 14, 15, 16, 17, 18, 19, 20, 21, 22, 23, 24, 25, 26, 27, 28, 29, 30, 31, 32, 33, 34, 35, 36, 37, 38, 39, 40, 41, 42, 43, 44, 45, 46, 47, 48, 49, 50, 51, 52, 53, 54, 55, 56, 57, 58, 59, 60, 61, 62, 63, 64, 65] (by decide +kernel) (by decide +kernel)
set_option maxRecDepth 20000 in
theorem gX8_pairCount_X8_countPairs : GoodIn wsX8_pairCount (wsV RX8 139 RX8 yX8_countPairs wsX8_countPairs) := goodIn_app (goodIn_of _ (by decide +kernel)) ggX8_pairCount_X8_countPairs
theorem dX8_pairCount_0 : decode cX8_pairCount 0 = .ok (.aload_n 0, 1) := by decide +kernel
theorem dX8_pairCount_1 : decode cX8_pairCount 1 = .ok (.aload_n 0, 1) := by decide +kernel
theorem dX8_pairCount_2 : decode cX8_pairCount 2 = .ok (.getfield 22, 3) := by decide +kernel
theorem dX8_pairCount_5 : decode cX8_pairCount 5 = .ok (.invokevirtual 139, 3) := by decide +kernel
theorem dX8_pairCount_8 : decode cX8_pairCount 8 = .ok (.ireturn, 1) := by decide +kernel
set_option maxRecDepth 20000 in
theorem ggX8_distance_X8_isVertex : GoodIn wsX8_distance wsX8_isVertex := goodIn_r _ [8, 3, 59, 60, 61, 62, 63, 64, 65, 66, 67, 68, 69] (by decide +kernel) (by decide +kernel)
set_option maxRecDepth 20000 in
theorem gX8_distance_X8_isVertex : GoodIn wsX8_distance (wsV RX8 109 RX8 yX8_isVertex wsX8_isVertex) := goodIn_app (goodIn_of _ (by decide +kernel)) ggX8_distance_X8_isVertex
set_option maxRecDepth 20000 in
theorem ggX8_distance_X1_measure : GoodIn wsX8_distance wsX1_measure := goodIn_r _ [13, 14, 15, 16, 17, 18, 19, 20, 21, 22, 23, 24, 12, 25, 26, 27, 28, 29, 30, 31, 32, 33, 34, 35, 36, 37, 38, 39, 7, 40, 41, 42, 43, 44, 45, 46, 47, 48, 49, 50, 51, 52, 53, 54, 55, 56, 70, 71, 72, 73, 74, 75] (by decide +kernel) (by decide +kernel)
set_option maxRecDepth 20000 in
theorem gX8_distance_X1_measure : GoodIn wsX8_distance (wsV RX8 143 RX1 yX1_measure wsX1_measure) := goodIn_app (goodIn_of _ (by decide +kernel)) ggX8_distance_X1_measure
set_option maxRecDepth 20000 in
theorem ggX8_distance_X1_reaches : GoodIn wsX8_distance wsX1_reaches := goodIn_r _ [44, 20, 45, 46, 47, 12, 48, 19, 70, 71] (by decide +kernel) (by decide +kernel)
set_option maxRecDepth 20000 in
theorem gX8_distance_X1_reaches : GoodIn wsX8_distance (wsV RX8 147 RX1 yX1_reaches wsX1_reaches) := goodIn_app (goodIn_of _ (by decide +kernel)) ggX8_distance_X1_reaches
set_option maxRecDepth 20000 in
theorem ggX8_distance_X1_between : GoodIn wsX8_distance wsX1_between := goodIn_r _ [48, 19, 20, 70, 71] (by decide +kernel) (by decide +kernel)
set_option maxRecDepth 20000 in
theorem gX8_distance_X1_between : GoodIn wsX8_distance (wsV RX8 151 RX1 yX1_between wsX1_between) := goodIn_app (goodIn_of _ (by decide +kernel)) ggX8_distance_X1_between
theorem dX8_distance_0 : decode cX8_distance 0 = .ok (.aload_n 0, 1) := by decide +kernel
theorem dX8_distance_1 : decode cX8_distance 1 = .ok (.iload_n 1, 1) := by decide +kernel
theorem dX8_distance_2 : decode cX8_distance 2 = .ok (.invokevirtual 109, 3) := by decide +kernel
theorem dX8_distance_5 : decode cX8_distance 5 = .ok (.ifCond .eq 11, 3) := by decide +kernel
theorem dX8_distance_8 : decode cX8_distance 8 = .ok (.aload_n 0, 1) := by decide +kernel
theorem dX8_distance_9 : decode cX8_distance 9 = .ok (.iload_n 2, 1) := by decide +kernel
theorem dX8_distance_10 : decode cX8_distance 10 = .ok (.invokevirtual 109, 3) := by decide +kernel
theorem dX8_distance_13 : decode cX8_distance 13 = .ok (.ifCond .ne 5, 3) := by decide +kernel
theorem dX8_distance_16 : decode cX8_distance 16 = .ok (.iconst (-1), 1) := by decide +kernel
theorem dX8_distance_17 : decode cX8_distance 17 = .ok (.ireturn, 1) := by decide +kernel
theorem dX8_distance_18 : decode cX8_distance 18 = .ok (.aload_n 0, 1) := by decide +kernel
theorem dX8_distance_19 : decode cX8_distance 19 = .ok (.getfield 35, 3) := by decide +kernel
theorem dX8_distance_22 : decode cX8_distance 22 = .ok (.aload_n 0, 1) := by decide +kernel
theorem dX8_distance_23 : decode cX8_distance 23 = .ok (.getfield 22, 3) := by decide +kernel
theorem dX8_distance_26 : decode cX8_distance 26 = .ok (.aload_n 0, 1) := by decide +kernel
theorem dX8_distance_27 : decode cX8_distance 27 = .ok (.getfield 9, 3) := by decide +kernel
theorem dX8_distance_30 : decode cX8_distance 30 = .ok (.invokevirtual 143, 3) := by decide +kernel
theorem dX8_distance_33 : decode cX8_distance 33 = .ok (.aload_n 0, 1) := by decide +kernel
theorem dX8_distance_34 : decode cX8_distance 34 = .ok (.getfield 35, 3) := by decide +kernel
theorem dX8_distance_37 : decode cX8_distance 37 = .ok (.iload_n 1, 1) := by decide +kernel
theorem dX8_distance_38 : decode cX8_distance 38 = .ok (.iload_n 2, 1) := by decide +kernel
theorem dX8_distance_39 : decode cX8_distance 39 = .ok (.invokevirtual 147, 3) := by decide +kernel
theorem dX8_distance_42 : decode cX8_distance 42 = .ok (.ifCond .eq 15, 3) := by decide +kernel
theorem dX8_distance_45 : decode cX8_distance 45 = .ok (.aload_n 0, 1) := by decide +kernel
theorem dX8_distance_46 : decode cX8_distance 46 = .ok (.getfield 35, 3) := by decide +kernel
theorem dX8_distance_49 : decode cX8_distance 49 = .ok (.iload_n 1, 1) := by decide +kernel
theorem dX8_distance_50 : decode cX8_distance 50 = .ok (.iload_n 2, 1) := by decide +kernel
theorem dX8_distance_51 : decode cX8_distance 51 = .ok (.invokevirtual 151, 3) := by decide +kernel
theorem dX8_distance_54 : decode cX8_distance 54 = .ok (.goto 5, 3) := by decide +kernel
theorem dX8_distance_57 : decode cX8_distance 57 = .ok (.bipush (-9), 2) := by decide +kernel
theorem dX8_distance_59 : decode cX8_distance 59 = .ok (.ireturn, 1) := by decide +kernel
set_option maxRecDepth 20000 in
theorem ggX8_witnessEdge_X8_isVertex : GoodIn wsX8_witnessEdge wsX8_isVertex := goodIn_r _ [8, 3, 73, 74, 75, 76, 77, 78, 79, 80, 81, 82, 83] (by decide +kernel) (by decide +kernel)
set_option maxRecDepth 20000 in
theorem gX8_witnessEdge_X8_isVertex : GoodIn wsX8_witnessEdge (wsV RX8 109 RX8 yX8_isVertex wsX8_isVertex) := goodIn_app (goodIn_of _ (by decide +kernel)) ggX8_witnessEdge_X8_isVertex
set_option maxRecDepth 20000 in
theorem ggX8_witnessEdge_X1_measure : GoodIn wsX8_witnessEdge wsX1_measure := goodIn_r _ [13, 14, 15, 16, 17, 18, 19, 20, 21, 22, 23, 24, 12, 25, 26, 27, 28, 29, 30, 31, 32, 33, 34, 35, 36, 37, 38, 39, 7, 40, 41, 42, 43, 44, 45, 46, 47, 48, 49, 50, 51, 52, 53, 54, 55, 56, 84, 85, 86, 87, 88, 89] (by decide +kernel) (by decide +kernel)
set_option maxRecDepth 20000 in
theorem gX8_witnessEdge_X1_measure : GoodIn wsX8_witnessEdge (wsV RX8 143 RX1 yX1_measure wsX1_measure) := goodIn_app (goodIn_of _ (by decide +kernel)) ggX8_witnessEdge_X1_measure
set_option maxRecDepth 20000 in
theorem ggX8_witnessEdge_X1_edgeOnWitness : GoodIn wsX8_witnessEdge wsX1_edgeOnWitness := goodIn_r _ [60, 38, 27, 26, 45, 46, 47, 12, 48, 19, 20, 61, 62, 63, 64, 21, 65, 66, 67, 68, 28, 29, 30, 31, 32, 33, 49, 50, 51, 52, 69, 70, 71, 72, 53, 54, 55, 56, 86, 87, 88, 89, 84, 85] (by decide +kernel) (by decide +kernel)
set_option maxRecDepth 20000 in
theorem gX8_witnessEdge_X1_edgeOnWitness : GoodIn wsX8_witnessEdge (wsV RX8 155 RX1 yX1_edgeOnWitness wsX1_edgeOnWitness) := goodIn_app (goodIn_of _ (by decide +kernel)) ggX8_witnessEdge_X1_edgeOnWitness
theorem dX8_witnessEdge_0 : decode cX8_witnessEdge 0 = .ok (.aload_n 0, 1) := by decide +kernel
theorem dX8_witnessEdge_1 : decode cX8_witnessEdge 1 = .ok (.iload_n 1, 1) := by decide +kernel
theorem dX8_witnessEdge_2 : decode cX8_witnessEdge 2 = .ok (.invokevirtual 109, 3) := by decide +kernel
theorem dX8_witnessEdge_5 : decode cX8_witnessEdge 5 = .ok (.ifCond .eq 11, 3) := by decide +kernel
theorem dX8_witnessEdge_8 : decode cX8_witnessEdge 8 = .ok (.aload_n 0, 1) := by decide +kernel
theorem dX8_witnessEdge_9 : decode cX8_witnessEdge 9 = .ok (.iload_n 2, 1) := by decide +kernel
theorem dX8_witnessEdge_10 : decode cX8_witnessEdge 10 = .ok (.invokevirtual 109, 3) := by decide +kernel
theorem dX8_witnessEdge_13 : decode cX8_witnessEdge 13 = .ok (.ifCond .ne 5, 3) := by decide +kernel
theorem dX8_witnessEdge_16 : decode cX8_witnessEdge 16 = .ok (.iconst (-1), 1) := by decide +kernel
theorem dX8_witnessEdge_17 : decode cX8_witnessEdge 17 = .ok (.ireturn, 1) := by decide +kernel
theorem dX8_witnessEdge_18 : decode cX8_witnessEdge 18 = .ok (.aload_n 0, 1) := by decide +kernel
theorem dX8_witnessEdge_19 : decode cX8_witnessEdge 19 = .ok (.getfield 35, 3) := by decide +kernel
theorem dX8_witnessEdge_22 : decode cX8_witnessEdge 22 = .ok (.aload_n 0, 1) := by decide +kernel
theorem dX8_witnessEdge_23 : decode cX8_witnessEdge 23 = .ok (.getfield 22, 3) := by decide +kernel
theorem dX8_witnessEdge_26 : decode cX8_witnessEdge 26 = .ok (.aload_n 0, 1) := by decide +kernel
theorem dX8_witnessEdge_27 : decode cX8_witnessEdge 27 = .ok (.getfield 9, 3) := by decide +kernel
theorem dX8_witnessEdge_30 : decode cX8_witnessEdge 30 = .ok (.invokevirtual 143, 3) := by decide +kernel
theorem dX8_witnessEdge_33 : decode cX8_witnessEdge 33 = .ok (.aload_n 0, 1) := by decide +kernel
theorem dX8_witnessEdge_34 : decode cX8_witnessEdge 34 = .ok (.getfield 35, 3) := by decide +kernel
theorem dX8_witnessEdge_37 : decode cX8_witnessEdge 37 = .ok (.aload_n 0, 1) := by decide +kernel
theorem dX8_witnessEdge_38 : decode cX8_witnessEdge 38 = .ok (.getfield 22, 3) := by decide +kernel
theorem dX8_witnessEdge_41 : decode cX8_witnessEdge 41 = .ok (.iload_n 1, 1) := by decide +kernel
theorem dX8_witnessEdge_42 : decode cX8_witnessEdge 42 = .ok (.iload_n 2, 1) := by decide +kernel
theorem dX8_witnessEdge_43 : decode cX8_witnessEdge 43 = .ok (.iload_n 3, 1) := by decide +kernel
theorem dX8_witnessEdge_44 : decode cX8_witnessEdge 44 = .ok (.invokevirtual 155, 3) := by decide +kernel
theorem dX8_witnessEdge_47 : decode cX8_witnessEdge 47 = .ok (.ireturn, 1) := by decide +kernel
set_option maxRecDepth 20000 in
theorem ggX8_depth_X8_isVertex : GoodIn wsX8_depth wsX8_isVertex := goodIn_r _ [7, 2, 48, 49, 50, 51, 52, 53, 54, 55, 56, 57, 58] (by decide +kernel) (by decide +kernel)
set_option maxRecDepth 20000 in
theorem gX8_depth_X8_isVertex : GoodIn wsX8_depth (wsV RX8 109 RX8 yX8_isVertex wsX8_isVertex) := goodIn_app (goodIn_of _ (by decide +kernel)) ggX8_depth_X8_isVertex
set_option maxRecDepth 20000 in
theorem ggX8_depth_X6_nestedAround : GoodIn wsX8_depth wsX6_nestedAround := goodIn_r _ [11, 12, 13, 14, 15, 10, 16, 17, 18, 19, 20, 21, 22, 23, 24, 25, 26, 27, 28, 29, 30, 31, 32, 33, 34, 35, 36, 37, 38, 39, 40, 41, 42, 43, 44, 45, 46, 59, 60, 61, 62] (by decide +kernel) (by decide +kernel)
set_option maxRecDepth 20000 in
theorem gX8_depth_X6_nestedAround : GoodIn wsX8_depth (va_wsS RX8 159 yX6_nestedAround wsX6_nestedAround) := goodIn_app (goodIn_of _ (by decide +kernel)) ggX8_depth_X6_nestedAround
set_option maxRecDepth 20000 in
theorem ggX8_depth_X6_has : GoodIn wsX8_depth wsX6_has := goodIn_r _ [40, 41, 42, 10, 43] (by decide +kernel) (by decide +kernel)
set_option maxRecDepth 20000 in
theorem gX8_depth_X6_has : GoodIn wsX8_depth (va_wsS RX8 163 yX6_has wsX6_has) := goodIn_app (goodIn_of _ (by decide +kernel)) ggX8_depth_X6_has
theorem dX8_depth_0 : decode cX8_depth 0 = .ok (.aload_n 0, 1) := by decide +kernel
theorem dX8_depth_1 : decode cX8_depth 1 = .ok (.iload_n 1, 1) := by decide +kernel
theorem dX8_depth_2 : decode cX8_depth 2 = .ok (.invokevirtual 109, 3) := by decide +kernel
theorem dX8_depth_5 : decode cX8_depth 5 = .ok (.ifCond .eq 11, 3) := by decide +kernel
theorem dX8_depth_8 : decode cX8_depth 8 = .ok (.aload_n 0, 1) := by decide +kernel
theorem dX8_depth_9 : decode cX8_depth 9 = .ok (.iload_n 2, 1) := by decide +kernel
theorem dX8_depth_10 : decode cX8_depth 10 = .ok (.invokevirtual 109, 3) := by decide +kernel
theorem dX8_depth_13 : decode cX8_depth 13 = .ok (.ifCond .ne 5, 3) := by decide +kernel
theorem dX8_depth_16 : decode cX8_depth 16 = .ok (.iconst (-1), 1) := by decide +kernel
theorem dX8_depth_17 : decode cX8_depth 17 = .ok (.ireturn, 1) := by decide +kernel
theorem dX8_depth_18 : decode cX8_depth 18 = .ok (.lconst 0, 1) := by decide +kernel
theorem dX8_depth_19 : decode cX8_depth 19 = .ok (.lstore_n 3, 1) := by decide +kernel
theorem dX8_depth_20 : decode cX8_depth 20 = .ok (.iconst 0, 1) := by decide +kernel
theorem dX8_depth_21 : decode cX8_depth 21 = .ok (.istore 5, 2) := by decide +kernel
theorem dX8_depth_23 : decode cX8_depth 23 = .ok (.iload 5, 2) := by decide +kernel
theorem dX8_depth_25 : decode cX8_depth 25 = .ok (.bipush 64, 2) := by decide +kernel
theorem dX8_depth_27 : decode cX8_depth 27 = .ok (.if_icmp .gt 49, 3) := by decide +kernel
theorem dX8_depth_30 : decode cX8_depth 30 = .ok (.lload_n 3, 1) := by decide +kernel
theorem dX8_depth_31 : decode cX8_depth 31 = .ok (.aload_n 0, 1) := by decide +kernel
theorem dX8_depth_32 : decode cX8_depth 32 = .ok (.getfield 22, 3) := by decide +kernel
theorem dX8_depth_35 : decode cX8_depth 35 = .ok (.aload_n 0, 1) := by decide +kernel
theorem dX8_depth_36 : decode cX8_depth 36 = .ok (.getfield 9, 3) := by decide +kernel
theorem dX8_depth_39 : decode cX8_depth 39 = .ok (.invokestatic 159, 3) := by decide +kernel
theorem dX8_depth_42 : decode cX8_depth 42 = .ok (.lstore 6, 2) := by decide +kernel
theorem dX8_depth_44 : decode cX8_depth 44 = .ok (.lload 6, 2) := by decide +kernel
theorem dX8_depth_46 : decode cX8_depth 46 = .ok (.iload_n 1, 1) := by decide +kernel
theorem dX8_depth_47 : decode cX8_depth 47 = .ok (.iload_n 2, 1) := by decide +kernel
theorem dX8_depth_48 : decode cX8_depth 48 = .ok (.invokestatic 163, 3) := by decide +kernel
theorem dX8_depth_51 : decode cX8_depth 51 = .ok (.ifCond .eq 6, 3) := by decide +kernel
theorem dX8_depth_54 : decode cX8_depth 54 = .ok (.iload 5, 2) := by decide +kernel
theorem dX8_depth_56 : decode cX8_depth 56 = .ok (.ireturn, 1) := by decide +kernel
theorem dX8_depth_57 : decode cX8_depth 57 = .ok (.lload 6, 2) := by decide +kernel
theorem dX8_depth_59 : decode cX8_depth 59 = .ok (.lload_n 3, 1) := by decide +kernel
theorem dX8_depth_60 : decode cX8_depth 60 = .ok (.lcmp, 1) := by decide +kernel
theorem dX8_depth_61 : decode cX8_depth 61 = .ok (.ifCond .ne 6, 3) := by decide +kernel
theorem dX8_depth_64 : decode cX8_depth 64 = .ok (.bipush (-9), 2) := by decide +kernel
theorem dX8_depth_66 : decode cX8_depth 66 = .ok (.ireturn, 1) := by decide +kernel
theorem dX8_depth_67 : decode cX8_depth 67 = .ok (.lload 6, 2) := by decide +kernel
theorem dX8_depth_69 : decode cX8_depth 69 = .ok (.lstore_n 3, 1) := by decide +kernel
theorem dX8_depth_70 : decode cX8_depth 70 = .ok (.iinc 5 1, 3) := by decide +kernel
theorem dX8_depth_73 : decode cX8_depth 73 = .ok (.goto (-50), 3) := by decide +kernel
theorem dX8_depth_76 : decode cX8_depth 76 = .ok (.bipush (-9), 2) := by decide +kernel
theorem dX8_depth_78 : decode cX8_depth 78 = .ok (.ireturn, 1) := by decide +kernel
set_option maxRecDepth 20000 in
theorem ggX8_loss_X2_holds : GoodIn wsX8_loss wsX2_holds := goodIn_r _ [6, 7, 91, 92, 93, 94] (by decide +kernel) (by decide +kernel)
set_option maxRecDepth 20000 in
theorem gX8_loss_X2_holds : GoodIn wsX8_loss (wsV RX8 95 RX2 yX2_holds wsX2_holds) := goodIn_app (goodIn_of _ (by decide +kernel)) ggX8_loss_X2_holds
set_option maxRecDepth 20000 in
theorem ggX8_loss_X8_countPairs : GoodIn wsX8_loss wsX8_countPairs := goodIn_r _ [12, 13, 14, 15, 16, 17, 18, 19, 20, 21, 22, 23, 24, 25, 26, 27, 28, 29, 30, 31, 32, 5, 33, 34, 35, 36, 37, 38, 39, 40, 41, 42, 43, 44, 45, 46, 47, 48, 49, 50, 51, 52, 53, 54, 55, 80, 81, 82, 83, 84, 85, 86, 87, 88, 89, 90, 91, 92, 93, 94] (by decide +kernel) (by decide +kernel)
set_option maxRecDepth 20000 in
theorem gX8_loss_X8_countPairs : GoodIn wsX8_loss (wsV RX8 139 RX8 yX8_countPairs wsX8_countPairs) := goodIn_app (goodIn_of _ (by decide +kernel)) ggX8_loss_X8_countPairs
set_option maxRecDepth 20000 in
theorem ggX8_loss_X8_countPairsWithout : GoodIn wsX8_loss wsX8_countPairsWithout := goodIn_r _ [59, 60, 1, 61, 62, 63, 5, 64, 7, 65, 66, 34, 67, 68, 69, 70, 71, 72, 73, 74, 75, 76, 77, 78, 79, 3, 4, 6, 8, 9, 10, 11, 12, 13, 14, 15, 16, 17, 18, 19, 20, 21, 22, 23, 24, 25, 26, 27, 28, 29, 30, 31, 32, 33, 35, 36, 37, 38, 39, 40, 41, 42, 43, 44, 45, 46, 47, 48, 49, 50, 51, 52, 53, 54, 55, 80, 81, 82, 83, 84, 85, 86, 87, 88, 89, 90, 91, 92, 93, 94] (by decide +kernel) (by decide +kernel)
set_option maxRecDepth 20000 in
theorem gX8_loss_X8_countPairsWithout : GoodIn wsX8_loss (wsV RX8 167 RX8 yX8_countPairsWithout wsX8_countPairsWithout) := goodIn_app (goodIn_of _ (by decide +kernel)) ggX8_loss_X8_countPairsWithout
theorem dX8_loss_0 : decode cX8_loss 0 = .ok (.aload_n 0, 1) := by decide +kernel
theorem dX8_loss_1 : decode cX8_loss 1 = .ok (.getfield 22, 3) := by decide +kernel
theorem dX8_loss_4 : decode cX8_loss 4 = .ok (.iload_n 1, 1) := by decide +kernel
theorem dX8_loss_5 : decode cX8_loss 5 = .ok (.invokevirtual 95, 3) := by decide +kernel
theorem dX8_loss_8 : decode cX8_loss 8 = .ok (.ifCond .ne 5, 3) := by decide +kernel
theorem dX8_loss_11 : decode cX8_loss 11 = .ok (.iconst (-1), 1) := by decide +kernel
theorem dX8_loss_12 : decode cX8_loss 12 = .ok (.ireturn, 1) := by decide +kernel
theorem dX8_loss_13 : decode cX8_loss 13 = .ok (.aload_n 0, 1) := by decide +kernel
theorem dX8_loss_14 : decode cX8_loss 14 = .ok (.aload_n 0, 1) := by decide +kernel
theorem dX8_loss_15 : decode cX8_loss 15 = .ok (.getfield 22, 3) := by decide +kernel
theorem dX8_loss_18 : decode cX8_loss 18 = .ok (.invokevirtual 139, 3) := by decide +kernel
theorem dX8_loss_21 : decode cX8_loss 21 = .ok (.aload_n 0, 1) := by decide +kernel
theorem dX8_loss_22 : decode cX8_loss 22 = .ok (.iload_n 1, 1) := by decide +kernel
theorem dX8_loss_23 : decode cX8_loss 23 = .ok (.invokevirtual 167, 3) := by decide +kernel
theorem dX8_loss_26 : decode cX8_loss 26 = .ok (.isub, 1) := by decide +kernel
theorem dX8_loss_27 : decode cX8_loss 27 = .ok (.ireturn, 1) := by decide +kernel
set_option maxRecDepth 20000 in
theorem ggX8_criticalEdge_X8_countPairsWithout : GoodIn wsX8_criticalEdge wsX8_countPairsWithout := goodIn_r _ [7, 8, 1, 9, 10, 11, 12, 13, 14, 15, 16, 17, 18, 19, 20, 21, 22, 23, 24, 25, 26, 27, 28, 29, 30, 31, 32, 33, 34, 35, 36, 6, 37, 38, 39, 40, 41, 42, 43, 44, 45, 46, 47, 48, 49, 50, 51, 52, 53, 54, 55, 56, 57, 58, 59, 60, 61, 62, 63, 64, 65, 66, 67, 68, 69, 70, 71, 72, 73, 74, 75, 76, 77, 78, 79, 80, 81, 82, 83, 84, 85, 86, 87, 88, 89, 90, 91, 92, 93, 94] (by decide +kernel) (by decide +kernel)
set_option maxRecDepth 20000 in
theorem gX8_criticalEdge_X8_countPairsWithout : GoodIn wsX8_criticalEdge (wsV RX8 167 RX8 yX8_countPairsWithout wsX8_countPairsWithout) := goodIn_app (goodIn_of _ (by decide +kernel)) ggX8_criticalEdge_X8_countPairsWithout
theorem dX8_criticalEdge_0 : decode cX8_criticalEdge 0 = .ok (.bipush (-9), 2) := by decide +kernel
theorem dX8_criticalEdge_2 : decode cX8_criticalEdge 2 = .ok (.istore_n 1, 1) := by decide +kernel
theorem dX8_criticalEdge_3 : decode cX8_criticalEdge 3 = .ok (.bipush 65, 2) := by decide +kernel
theorem dX8_criticalEdge_5 : decode cX8_criticalEdge 5 = .ok (.istore_n 2, 1) := by decide +kernel
theorem dX8_criticalEdge_6 : decode cX8_criticalEdge 6 = .ok (.iconst 0, 1) := by decide +kernel
theorem dX8_criticalEdge_7 : decode cX8_criticalEdge 7 = .ok (.istore_n 3, 1) := by decide +kernel
theorem dX8_criticalEdge_8 : decode cX8_criticalEdge 8 = .ok (.iload_n 3, 1) := by decide +kernel
theorem dX8_criticalEdge_9 : decode cX8_criticalEdge 9 = .ok (.aload_n 0, 1) := by decide +kernel
theorem dX8_criticalEdge_10 : decode cX8_criticalEdge 10 = .ok (.getfield 22, 3) := by decide +kernel
theorem dX8_criticalEdge_13 : decode cX8_criticalEdge 13 = .ok (.getfield 92, 3) := by decide +kernel
theorem dX8_criticalEdge_16 : decode cX8_criticalEdge 16 = .ok (.if_icmp .ge 27, 3) := by decide +kernel
theorem dX8_criticalEdge_19 : decode cX8_criticalEdge 19 = .ok (.aload_n 0, 1) := by decide +kernel
theorem dX8_criticalEdge_20 : decode cX8_criticalEdge 20 = .ok (.iload_n 3, 1) := by decide +kernel
theorem dX8_criticalEdge_21 : decode cX8_criticalEdge 21 = .ok (.invokevirtual 167, 3) := by decide +kernel
theorem dX8_criticalEdge_24 : decode cX8_criticalEdge 24 = .ok (.istore 4, 2) := by decide +kernel
theorem dX8_criticalEdge_26 : decode cX8_criticalEdge 26 = .ok (.iload 4, 2) := by decide +kernel
theorem dX8_criticalEdge_28 : decode cX8_criticalEdge 28 = .ok (.iload_n 2, 1) := by decide +kernel
theorem dX8_criticalEdge_29 : decode cX8_criticalEdge 29 = .ok (.if_icmp .ge 8, 3) := by decide +kernel
theorem dX8_criticalEdge_32 : decode cX8_criticalEdge 32 = .ok (.iload 4, 2) := by decide +kernel
theorem dX8_criticalEdge_34 : decode cX8_criticalEdge 34 = .ok (.istore_n 2, 1) := by decide +kernel
theorem dX8_criticalEdge_35 : decode cX8_criticalEdge 35 = .ok (.iload_n 3, 1) := by decide +kernel
theorem dX8_criticalEdge_36 : decode cX8_criticalEdge 36 = .ok (.istore_n 1, 1) := by decide +kernel
theorem dX8_criticalEdge_37 : decode cX8_criticalEdge 37 = .ok (.iinc 3 1, 3) := by decide +kernel
theorem dX8_criticalEdge_40 : decode cX8_criticalEdge 40 = .ok (.goto (-32), 3) := by decide +kernel
theorem dX8_criticalEdge_43 : decode cX8_criticalEdge 43 = .ok (.iload_n 1, 1) := by decide +kernel
theorem dX8_criticalEdge_44 : decode cX8_criticalEdge 44 = .ok (.ireturn, 1) := by decide +kernel
set_option maxRecDepth 20000 in
theorem ggX8_representative_X8_isVertex : GoodIn wsX8_representative wsX8_isVertex := goodIn_r _ [8, 3, 73, 74, 75, 76, 77, 78, 79, 80, 81, 82, 83] (by decide +kernel) (by decide +kernel)
set_option maxRecDepth 20000 in
theorem gX8_representative_X8_isVertex : GoodIn wsX8_representative (wsV RX8 109 RX8 yX8_isVertex wsX8_isVertex) := goodIn_app (goodIn_of _ (by decide +kernel)) ggX8_representative_X8_isVertex
set_option maxRecDepth 20000 in
theorem ggX8_representative_X2_takeBothWays : GoodIn wsX8_representative wsX2_takeBothWays := goodIn_r _ [13, 14, 15, 16, 17, 18, 19, 20, 12, 21, 22, 23, 24, 25, 26, 27, 28, 29, 30, 31, 32, 84, 85, 86, 87] (by decide +kernel) (by decide +kernel)
set_option maxRecDepth 20000 in
theorem gX8_representative_X2_takeBothWays : GoodIn wsX8_representative (wsV RX8 171 RX2 yX2_takeBothWays wsX2_takeBothWays) := goodIn_app (goodIn_of _ (by decide +kernel)) ggX8_representative_X2_takeBothWays
set_option maxRecDepth 20000 in
theorem ggX8_representative_X6_ofBalancedPaths : GoodIn wsX8_representative wsX6_ofBalancedPaths := goodIn_r _ [36, 37, 38, 39, 35, 40, 41, 42, 43, 44, 45, 46, 47, 48, 49, 50, 51, 12, 52, 17, 53, 54, 55, 56, 57, 58, 59, 60, 61, 62, 63, 64, 65, 66, 84, 85, 86, 87] (by decide +kernel) (by decide +kernel)
set_option maxRecDepth 20000 in
theorem gX8_representative_X6_ofBalancedPaths : GoodIn wsX8_representative (va_wsS RX8 129 yX6_ofBalancedPaths wsX6_ofBalancedPaths) := goodIn_app (goodIn_of _ (by decide +kernel)) ggX8_representative_X6_ofBalancedPaths
set_option maxRecDepth 20000 in
theorem ggX8_representative_X6_row : GoodIn wsX8_representative wsX6_row := goodIn_r _ [55] (by decide +kernel) (by decide +kernel)
set_option maxRecDepth 20000 in
theorem gX8_representative_X6_row : GoodIn wsX8_representative (va_wsS RX8 135 yX6_row wsX6_row) := goodIn_app (goodIn_of _ (by decide +kernel)) ggX8_representative_X6_row
set_option maxRecDepth 20000 in
theorem ggX8_representative_J6_numberOfTrailingZeros_0f7a4 : GoodIn wsX8_representative wsJ6_numberOfTrailingZeros_0f7a4 := goodIn_r _ [71, 72] (by decide +kernel) (by decide +kernel)
set_option maxRecDepth 20000 in
theorem gX8_representative_J6_numberOfTrailingZeros_0f7a4 : GoodIn wsX8_representative (va_wsS RX8 174 yJ6_numberOfTrailingZeros_0f7a4 wsJ6_numberOfTrailingZeros_0f7a4) := goodIn_app (goodIn_of _ (by decide +kernel)) ggX8_representative_J6_numberOfTrailingZeros_0f7a4
theorem dX8_representative_0 : decode cX8_representative 0 = .ok (.aload_n 0, 1) := by decide +kernel
theorem dX8_representative_1 : decode cX8_representative 1 = .ok (.iload_n 1, 1) := by decide +kernel
theorem dX8_representative_2 : decode cX8_representative 2 = .ok (.invokevirtual 109, 3) := by decide +kernel
theorem dX8_representative_5 : decode cX8_representative 5 = .ok (.ifCond .ne 5, 3) := by decide +kernel
theorem dX8_representative_8 : decode cX8_representative 8 = .ok (.iconst (-1), 1) := by decide +kernel
theorem dX8_representative_9 : decode cX8_representative 9 = .ok (.ireturn, 1) := by decide +kernel
theorem dX8_representative_10 : decode cX8_representative 10 = .ok (.aload_n 0, 1) := by decide +kernel
theorem dX8_representative_11 : decode cX8_representative 11 = .ok (.getfield 29, 3) := by decide +kernel
theorem dX8_representative_14 : decode cX8_representative 14 = .ok (.aload_n 0, 1) := by decide +kernel
theorem dX8_representative_15 : decode cX8_representative 15 = .ok (.getfield 22, 3) := by decide +kernel
theorem dX8_representative_18 : decode cX8_representative 18 = .ok (.invokevirtual 171, 3) := by decide +kernel
theorem dX8_representative_21 : decode cX8_representative 21 = .ok (.aload_n 0, 1) := by decide +kernel
theorem dX8_representative_22 : decode cX8_representative 22 = .ok (.getfield 29, 3) := by decide +kernel
theorem dX8_representative_25 : decode cX8_representative 25 = .ok (.aload_n 0, 1) := by decide +kernel
theorem dX8_representative_26 : decode cX8_representative 26 = .ok (.getfield 9, 3) := by decide +kernel
theorem dX8_representative_29 : decode cX8_representative 29 = .ok (.invokestatic 129, 3) := by decide +kernel
theorem dX8_representative_32 : decode cX8_representative 32 = .ok (.lstore_n 2, 1) := by decide +kernel
theorem dX8_representative_33 : decode cX8_representative 33 = .ok (.lload_n 2, 1) := by decide +kernel
theorem dX8_representative_34 : decode cX8_representative 34 = .ok (.iload_n 1, 1) := by decide +kernel
theorem dX8_representative_35 : decode cX8_representative 35 = .ok (.invokestatic 135, 3) := by decide +kernel
theorem dX8_representative_38 : decode cX8_representative 38 = .ok (.invokestatic 174, 3) := by decide +kernel
theorem dX8_representative_41 : decode cX8_representative 41 = .ok (.ireturn, 1) := by decide +kernel
set_option maxRecDepth 20000 in
theorem ggX8_runScript_X7_withoutLowest : GoodIn wsX8_runScript wsX7_withoutLowest := goodIn_r _ [8, 9] (by decide +kernel) (by decide +kernel)
set_option maxRecDepth 20000 in
theorem gX8_runScript_X7_withoutLowest : GoodIn wsX8_runScript (va_wsS RX8 179 yX7_withoutLowest wsX7_withoutLowest) := goodIn_app (goodIn_of _ (by decide +kernel)) ggX8_runScript_X7_withoutLowest
set_option maxRecDepth 20000 in
theorem ggX8_runScript_X2_take : GoodIn wsX8_runScript wsX2_take := goodIn_r _ [14, 15, 16, 17, 18, 19, 20, 21, 13, 22, 23, 24, 25, 26, 144, 145, 146, 147] (by decide +kernel) (by decide +kernel)
set_option maxRecDepth 20000 in
theorem gX8_runScript_X2_take : GoodIn wsX8_runScript (wsV RX8 185 RX2 yX2_take wsX2_take) := goodIn_app (goodIn_of _ (by decide +kernel)) ggX8_runScript_X2_take
set_option maxRecDepth 20000 in
theorem ggX8_runScript_X7_lowestGroup : GoodIn wsX8_runScript wsX7_lowestGroup := goodIn_r _ [29, 9] (by decide +kernel) (by decide +kernel)
set_option maxRecDepth 20000 in
theorem gX8_runScript_X7_lowestGroup : GoodIn wsX8_runScript (va_wsS RX8 188 yX7_lowestGroup wsX7_lowestGroup) := goodIn_app (goodIn_of _ (by decide +kernel)) ggX8_runScript_X7_lowestGroup
set_option maxRecDepth 20000 in
theorem ggX8_runScript_X7_succeeds : GoodIn wsX8_runScript wsX7_succeeds := goodIn_r _ [32, 33, 34, 7, 35, 36, 37, 38, 39, 24, 25, 13, 26, 15, 16, 40, 20, 21, 22, 17, 18, 23, 41, 42, 43, 44, 45, 46, 47, 48, 49, 50, 51, 52, 53, 54, 55, 56, 57, 58, 59, 60, 61, 62, 63, 64, 65, 66, 67, 68, 69, 70, 71, 72, 73, 74, 75, 76, 77, 78, 79, 80, 81, 82, 83, 84, 85, 86, 87, 88, 89, 90, 91, 92, 93, 94, 95, 96, 97, 98, 99, 100, 101, 102, 103, 104, 105, 106, 107, 108, 109, 110, 111, 112, 113, 114, 115, 116, 117, 118, 119, 120, 121, 122, 123, 124, 125, 126, 127, 128, 129, 130, 131, 132, 144, 145, 146, 147, 148, 149] (by decide +kernel) (by decide +kernel)
set_option maxRecDepth 20000 in
theorem gX8_runScript_X7_succeeds : GoodIn wsX8_runScript (va_wsS RX8 192 yX7_succeeds wsX7_succeeds) := goodIn_app (goodIn_of _ (by decide +kernel)) ggX8_runScript_X7_succeeds
theorem dX8_runScript_0 : decode cX8_runScript 0 = .ok (.iload_n 1, 1) := by decide +kernel
theorem dX8_runScript_1 : decode cX8_runScript 1 = .ok (.iconst 1, 1) := by decide +kernel
theorem dX8_runScript_2 : decode cX8_runScript 2 = .ok (.if_icmp .lt 14, 3) := by decide +kernel
theorem dX8_runScript_5 : decode cX8_runScript 5 = .ok (.iload_n 1, 1) := by decide +kernel
theorem dX8_runScript_6 : decode cX8_runScript 6 = .ok (.iconst 4, 1) := by decide +kernel
theorem dX8_runScript_7 : decode cX8_runScript 7 = .ok (.if_icmp .gt 9, 3) := by decide +kernel
theorem dX8_runScript_10 : decode cX8_runScript 10 = .ok (.lload_n 2, 1) := by decide +kernel
theorem dX8_runScript_11 : decode cX8_runScript 11 = .ok (.lconst 0, 1) := by decide +kernel
theorem dX8_runScript_12 : decode cX8_runScript 12 = .ok (.lcmp, 1) := by decide +kernel
theorem dX8_runScript_13 : decode cX8_runScript 13 = .ok (.ifCond .ge 6, 3) := by decide +kernel
theorem dX8_runScript_16 : decode cX8_runScript 16 = .ok (.bipush (-2), 2) := by decide +kernel
theorem dX8_runScript_18 : decode cX8_runScript 18 = .ok (.ireturn, 1) := by decide +kernel
theorem dX8_runScript_19 : decode cX8_runScript 19 = .ok (.iload_n 1, 1) := by decide +kernel
theorem dX8_runScript_20 : decode cX8_runScript 20 = .ok (.lload_n 2, 1) := by decide +kernel
theorem dX8_runScript_21 : decode cX8_runScript 21 = .ok (.invokestatic 179, 3) := by decide +kernel
theorem dX8_runScript_24 : decode cX8_runScript 24 = .ok (.lconst 0, 1) := by decide +kernel
theorem dX8_runScript_25 : decode cX8_runScript 25 = .ok (.lcmp, 1) := by decide +kernel
theorem dX8_runScript_26 : decode cX8_runScript 26 = .ok (.ifCond .eq 6, 3) := by decide +kernel
theorem dX8_runScript_29 : decode cX8_runScript 29 = .ok (.bipush (-2), 2) := by decide +kernel
theorem dX8_runScript_31 : decode cX8_runScript 31 = .ok (.ireturn, 1) := by decide +kernel
theorem dX8_runScript_32 : decode cX8_runScript 32 = .ok (.aload_n 0, 1) := by decide +kernel
theorem dX8_runScript_33 : decode cX8_runScript 33 = .ok (.getfield 26, 3) := by decide +kernel
theorem dX8_runScript_36 : decode cX8_runScript 36 = .ok (.aload_n 0, 1) := by decide +kernel
theorem dX8_runScript_37 : decode cX8_runScript 37 = .ok (.getfield 22, 3) := by decide +kernel
theorem dX8_runScript_40 : decode cX8_runScript 40 = .ok (.invokevirtual 185, 3) := by decide +kernel
theorem dX8_runScript_43 : decode cX8_runScript 43 = .ok (.iconst 0, 1) := by decide +kernel
theorem dX8_runScript_44 : decode cX8_runScript 44 = .ok (.istore 4, 2) := by decide +kernel
theorem dX8_runScript_46 : decode cX8_runScript 46 = .ok (.iload 4, 2) := by decide +kernel
theorem dX8_runScript_48 : decode cX8_runScript 48 = .ok (.iload_n 1, 1) := by decide +kernel
theorem dX8_runScript_49 : decode cX8_runScript 49 = .ok (.if_icmp .ge 47, 3) := by decide +kernel
theorem dX8_runScript_52 : decode cX8_runScript 52 = .ok (.iload_n 1, 1) := by decide +kernel
theorem dX8_runScript_53 : decode cX8_runScript 53 = .ok (.iconst 1, 1) := by decide +kernel
theorem dX8_runScript_54 : decode cX8_runScript 54 = .ok (.isub, 1) := by decide +kernel
theorem dX8_runScript_55 : decode cX8_runScript 55 = .ok (.iload 4, 2) := by decide +kernel
theorem dX8_runScript_57 : decode cX8_runScript 57 = .ok (.isub, 1) := by decide +kernel
theorem dX8_runScript_58 : decode cX8_runScript 58 = .ok (.lload_n 2, 1) := by decide +kernel
theorem dX8_runScript_59 : decode cX8_runScript 59 = .ok (.invokestatic 179, 3) := by decide +kernel
theorem dX8_runScript_62 : decode cX8_runScript 62 = .ok (.invokestatic 188, 3) := by decide +kernel
theorem dX8_runScript_65 : decode cX8_runScript 65 = .ok (.istore 5, 2) := by decide +kernel
theorem dX8_runScript_67 : decode cX8_runScript 67 = .ok (.iload 5, 2) := by decide +kernel
theorem dX8_runScript_69 : decode cX8_runScript 69 = .ok (.aload_n 0, 1) := by decide +kernel
theorem dX8_runScript_70 : decode cX8_runScript 70 = .ok (.getfield 26, 3) := by decide +kernel
theorem dX8_runScript_73 : decode cX8_runScript 73 = .ok (.aload_n 0, 1) := by decide +kernel
theorem dX8_runScript_74 : decode cX8_runScript 74 = .ok (.getfield 9, 3) := by decide +kernel
theorem dX8_runScript_77 : decode cX8_runScript 77 = .ok (.aload_n 0, 1) := by decide +kernel
theorem dX8_runScript_78 : decode cX8_runScript 78 = .ok (.getfield 35, 3) := by decide +kernel
theorem dX8_runScript_81 : decode cX8_runScript 81 = .ok (.invokestatic 192, 3) := by decide +kernel
theorem dX8_runScript_84 : decode cX8_runScript 84 = .ok (.ifCond .ne 6, 3) := by decide +kernel
theorem dX8_runScript_87 : decode cX8_runScript 87 = .ok (.iload 4, 2) := by decide +kernel
theorem dX8_runScript_89 : decode cX8_runScript 89 = .ok (.ireturn, 1) := by decide +kernel
theorem dX8_runScript_90 : decode cX8_runScript 90 = .ok (.iinc 4 1, 3) := by decide +kernel
theorem dX8_runScript_93 : decode cX8_runScript 93 = .ok (.goto (-47), 3) := by decide +kernel
theorem dX8_runScript_96 : decode cX8_runScript 96 = .ok (.bipush (-9), 2) := by decide +kernel
theorem dX8_runScript_98 : decode cX8_runScript 98 = .ok (.ireturn, 1) := by decide +kernel
set_option maxRecDepth 20000 in
theorem ggX8_observe_X8_isVertexNumber : GoodIn wsX8_observe wsX8_isVertexNumber := goodIn_r _ [6] (by decide +kernel) (by decide +kernel)
set_option maxRecDepth 20000 in
theorem gX8_observe_X8_isVertexNumber : GoodIn wsX8_observe (va_wsS RX8 196 yX8_isVertexNumber wsX8_isVertexNumber) := goodIn_app (goodIn_of _ (by decide +kernel)) ggX8_observe_X8_isVertexNumber
set_option maxRecDepth 20000 in
theorem ggX8_observe_X5_isFull : GoodIn wsX8_observe wsX5_isFull := goodIn_r _ [11, 12, 32, 33, 34, 35] (by decide +kernel) (by decide +kernel)
set_option maxRecDepth 20000 in
theorem gX8_observe_X5_isFull : GoodIn wsX8_observe (wsV RX8 199 RX5 yX5_isFull wsX5_isFull) := goodIn_app (goodIn_of _ (by decide +kernel)) ggX8_observe_X5_isFull
set_option maxRecDepth 20000 in
theorem ggX8_observe_X5_put : GoodIn wsX8_observe wsX5_put := goodIn_r _ [16, 17, 12, 18, 19, 20, 8, 9, 10, 11, 32, 33, 34, 35] (by decide +kernel) (by decide +kernel)
set_option maxRecDepth 20000 in
theorem gX8_observe_X5_put : GoodIn wsX8_observe (wsV RX8 200 RX5 yX5_put wsX5_put) := goodIn_app (goodIn_of _ (by decide +kernel)) ggX8_observe_X5_put
theorem dX8_observe_0 : decode cX8_observe 0 = .ok (.iload_n 1, 1) := by decide +kernel
theorem dX8_observe_1 : decode cX8_observe 1 = .ok (.invokestatic 196, 3) := by decide +kernel
theorem dX8_observe_4 : decode cX8_observe 4 = .ok (.ifCond .eq 19, 3) := by decide +kernel
theorem dX8_observe_7 : decode cX8_observe 7 = .ok (.iload_n 2, 1) := by decide +kernel
theorem dX8_observe_8 : decode cX8_observe 8 = .ok (.invokestatic 196, 3) := by decide +kernel
theorem dX8_observe_11 : decode cX8_observe 11 = .ok (.ifCond .eq 12, 3) := by decide +kernel
theorem dX8_observe_14 : decode cX8_observe 14 = .ok (.iload_n 3, 1) := by decide +kernel
theorem dX8_observe_15 : decode cX8_observe 15 = .ok (.ifCond .lt 8, 3) := by decide +kernel
theorem dX8_observe_18 : decode cX8_observe 18 = .ok (.iload_n 3, 1) := by decide +kernel
theorem dX8_observe_19 : decode cX8_observe 19 = .ok (.iconst 1, 1) := by decide +kernel
theorem dX8_observe_20 : decode cX8_observe 20 = .ok (.if_icmp .le 6, 3) := by decide +kernel
theorem dX8_observe_23 : decode cX8_observe 23 = .ok (.bipush (-2), 2) := by decide +kernel
theorem dX8_observe_25 : decode cX8_observe 25 = .ok (.ireturn, 1) := by decide +kernel
theorem dX8_observe_26 : decode cX8_observe 26 = .ok (.aload_n 0, 1) := by decide +kernel
theorem dX8_observe_27 : decode cX8_observe 27 = .ok (.getfield 64, 3) := by decide +kernel
theorem dX8_observe_30 : decode cX8_observe 30 = .ok (.invokevirtual 199, 3) := by decide +kernel
theorem dX8_observe_33 : decode cX8_observe 33 = .ok (.ifCond .eq 6, 3) := by decide +kernel
theorem dX8_observe_36 : decode cX8_observe 36 = .ok (.bipush (-4), 2) := by decide +kernel
theorem dX8_observe_38 : decode cX8_observe 38 = .ok (.ireturn, 1) := by decide +kernel
theorem dX8_observe_39 : decode cX8_observe 39 = .ok (.aload_n 0, 1) := by decide +kernel
theorem dX8_observe_40 : decode cX8_observe 40 = .ok (.getfield 64, 3) := by decide +kernel
theorem dX8_observe_43 : decode cX8_observe 43 = .ok (.iload_n 1, 1) := by decide +kernel
theorem dX8_observe_44 : decode cX8_observe 44 = .ok (.iload_n 2, 1) := by decide +kernel
theorem dX8_observe_45 : decode cX8_observe 45 = .ok (.iload_n 3, 1) := by decide +kernel
theorem dX8_observe_46 : decode cX8_observe 46 = .ok (.invokevirtual 200, 3) := by decide +kernel
theorem dX8_observe_49 : decode cX8_observe 49 = .ok (.aload_n 0, 1) := by decide +kernel
theorem dX8_observe_50 : decode cX8_observe 50 = .ok (.getfield 64, 3) := by decide +kernel
theorem dX8_observe_53 : decode cX8_observe 53 = .ok (.getfield 201, 3) := by decide +kernel
theorem dX8_observe_56 : decode cX8_observe 56 = .ok (.ireturn, 1) := by decide +kernel
theorem dX8_clearObservations_0 : decode cX8_clearObservations 0 = .ok (.aload_n 0, 1) := by decide +kernel
theorem dX8_clearObservations_1 : decode cX8_clearObservations 1 = .ok (.getfield 64, 3) := by decide +kernel
theorem dX8_clearObservations_4 : decode cX8_clearObservations 4 = .ok (.getfield 201, 3) := by decide +kernel
theorem dX8_clearObservations_7 : decode cX8_clearObservations 7 = .ok (.istore_n 1, 1) := by decide +kernel
theorem dX8_clearObservations_8 : decode cX8_clearObservations 8 = .ok (.aload_n 0, 1) := by decide +kernel
theorem dX8_clearObservations_9 : decode cX8_clearObservations 9 = .ok (.getfield 64, 3) := by decide +kernel
theorem dX8_clearObservations_12 : decode cX8_clearObservations 12 = .ok (.iconst 0, 1) := by decide +kernel
theorem dX8_clearObservations_13 : decode cX8_clearObservations 13 = .ok (.putfield 201, 3) := by decide +kernel
theorem dX8_clearObservations_16 : decode cX8_clearObservations 16 = .ok (.iload_n 1, 1) := by decide +kernel
theorem dX8_clearObservations_17 : decode cX8_clearObservations 17 = .ok (.ireturn, 1) := by decide +kernel
set_option maxRecDepth 20000 in
theorem ggX8_possibleLabels_X2_holds : GoodIn wsX8_possibleLabels wsX2_holds := goodIn_r _ [10, 11, 82, 83, 84, 85] (by decide +kernel) (by decide +kernel)
set_option maxRecDepth 20000 in
theorem gX8_possibleLabels_X2_holds : GoodIn wsX8_possibleLabels (wsV RX8 95 RX2 yX2_holds wsX2_holds) := goodIn_app (goodIn_of _ (by decide +kernel)) ggX8_possibleLabels_X2_holds
set_option maxRecDepth 20000 in
theorem ggX8_possibleLabels_X2_take : GoodIn wsX8_possibleLabels wsX2_take := goodIn_r _ [15, 11, 16, 17, 18, 19, 20, 21, 9, 22, 23, 24, 25, 26, 82, 83, 84, 85] (by decide +kernel) (by decide +kernel)
set_option maxRecDepth 20000 in
theorem gX8_possibleLabels_X2_take : GoodIn wsX8_possibleLabels (wsV RX8 185 RX2 yX2_take wsX2_take) := goodIn_app (goodIn_of _ (by decide +kernel)) ggX8_possibleLabels_X2_take
set_option maxRecDepth 20000 in
theorem ggX8_possibleLabels_X6_ofBalancedPaths : GoodIn wsX8_possibleLabels wsX6_ofBalancedPaths := goodIn_r _ [30, 31, 32, 33, 29, 34, 35, 36, 37, 38, 39, 40, 41, 42, 43, 44, 45, 9, 46, 18, 47, 48, 49, 50, 51, 52, 53, 54, 55, 56, 57, 58, 59, 60, 82, 83, 84, 85] (by decide +kernel) (by decide +kernel)
set_option maxRecDepth 20000 in
theorem gX8_possibleLabels_X6_ofBalancedPaths : GoodIn wsX8_possibleLabels (va_wsS RX8 129 yX6_ofBalancedPaths wsX6_ofBalancedPaths) := goodIn_app (goodIn_of _ (by decide +kernel)) ggX8_possibleLabels_X6_ofBalancedPaths
set_option maxRecDepth 20000 in
theorem ggX8_possibleLabels_X5_allHold : GoodIn wsX8_possibleLabels wsX5_allHold := goodIn_r _ [65, 66, 67, 68, 69, 70, 59, 29, 60, 47, 48, 49, 86, 87, 88, 89] (by decide +kernel) (by decide +kernel)
set_option maxRecDepth 20000 in
theorem gX8_possibleLabels_X5_allHold : GoodIn wsX8_possibleLabels (wsV RX8 202 RX5 yX5_allHold wsX5_allHold) := goodIn_app (goodIn_of _ (by decide +kernel)) ggX8_possibleLabels_X5_allHold
theorem dX8_possibleLabels_0 : decode cX8_possibleLabels 0 = .ok (.aload_n 0, 1) := by decide +kernel
theorem dX8_possibleLabels_1 : decode cX8_possibleLabels 1 = .ok (.getfield 22, 3) := by decide +kernel
theorem dX8_possibleLabels_4 : decode cX8_possibleLabels 4 = .ok (.iload_n 1, 1) := by decide +kernel
theorem dX8_possibleLabels_5 : decode cX8_possibleLabels 5 = .ok (.invokevirtual 95, 3) := by decide +kernel
theorem dX8_possibleLabels_8 : decode cX8_possibleLabels 8 = .ok (.ifCond .ne 5, 3) := by decide +kernel
theorem dX8_possibleLabels_11 : decode cX8_possibleLabels 11 = .ok (.iconst (-1), 1) := by decide +kernel
theorem dX8_possibleLabels_12 : decode cX8_possibleLabels 12 = .ok (.ireturn, 1) := by decide +kernel
theorem dX8_possibleLabels_13 : decode cX8_possibleLabels 13 = .ok (.aload_n 0, 1) := by decide +kernel
theorem dX8_possibleLabels_14 : decode cX8_possibleLabels 14 = .ok (.getfield 26, 3) := by decide +kernel
theorem dX8_possibleLabels_17 : decode cX8_possibleLabels 17 = .ok (.aload_n 0, 1) := by decide +kernel
theorem dX8_possibleLabels_18 : decode cX8_possibleLabels 18 = .ok (.getfield 22, 3) := by decide +kernel
theorem dX8_possibleLabels_21 : decode cX8_possibleLabels 21 = .ok (.invokevirtual 185, 3) := by decide +kernel
theorem dX8_possibleLabels_24 : decode cX8_possibleLabels 24 = .ok (.iconst 0, 1) := by decide +kernel
theorem dX8_possibleLabels_25 : decode cX8_possibleLabels 25 = .ok (.istore_n 2, 1) := by decide +kernel
theorem dX8_possibleLabels_26 : decode cX8_possibleLabels 26 = .ok (.iconst 0, 1) := by decide +kernel
theorem dX8_possibleLabels_27 : decode cX8_possibleLabels 27 = .ok (.istore_n 3, 1) := by decide +kernel
theorem dX8_possibleLabels_28 : decode cX8_possibleLabels 28 = .ok (.iload_n 3, 1) := by decide +kernel
theorem dX8_possibleLabels_29 : decode cX8_possibleLabels 29 = .ok (.bipush 7, 2) := by decide +kernel
theorem dX8_possibleLabels_31 : decode cX8_possibleLabels 31 = .ok (.if_icmp .ge 50, 3) := by decide +kernel
theorem dX8_possibleLabels_34 : decode cX8_possibleLabels 34 = .ok (.aload_n 0, 1) := by decide +kernel
theorem dX8_possibleLabels_35 : decode cX8_possibleLabels 35 = .ok (.getfield 26, 3) := by decide +kernel
theorem dX8_possibleLabels_38 : decode cX8_possibleLabels 38 = .ok (.getfield 106, 3) := by decide +kernel
theorem dX8_possibleLabels_41 : decode cX8_possibleLabels 41 = .ok (.iload_n 1, 1) := by decide +kernel
theorem dX8_possibleLabels_42 : decode cX8_possibleLabels 42 = .ok (.iload_n 3, 1) := by decide +kernel
theorem dX8_possibleLabels_43 : decode cX8_possibleLabels 43 = .ok (.iastore, 1) := by decide +kernel
theorem dX8_possibleLabels_44 : decode cX8_possibleLabels 44 = .ok (.aload_n 0, 1) := by decide +kernel
theorem dX8_possibleLabels_45 : decode cX8_possibleLabels 45 = .ok (.getfield 64, 3) := by decide +kernel
theorem dX8_possibleLabels_48 : decode cX8_possibleLabels 48 = .ok (.aload_n 0, 1) := by decide +kernel
theorem dX8_possibleLabels_49 : decode cX8_possibleLabels 49 = .ok (.getfield 26, 3) := by decide +kernel
theorem dX8_possibleLabels_52 : decode cX8_possibleLabels 52 = .ok (.aload_n 0, 1) := by decide +kernel
theorem dX8_possibleLabels_53 : decode cX8_possibleLabels 53 = .ok (.getfield 9, 3) := by decide +kernel
theorem dX8_possibleLabels_56 : decode cX8_possibleLabels 56 = .ok (.invokestatic 129, 3) := by decide +kernel
theorem dX8_possibleLabels_59 : decode cX8_possibleLabels 59 = .ok (.aload_n 0, 1) := by decide +kernel
theorem dX8_possibleLabels_60 : decode cX8_possibleLabels 60 = .ok (.getfield 9, 3) := by decide +kernel
theorem dX8_possibleLabels_63 : decode cX8_possibleLabels 63 = .ok (.invokevirtual 202, 3) := by decide +kernel
theorem dX8_possibleLabels_66 : decode cX8_possibleLabels 66 = .ok (.ifCond .eq 9, 3) := by decide +kernel
theorem dX8_possibleLabels_69 : decode cX8_possibleLabels 69 = .ok (.iload_n 2, 1) := by decide +kernel
theorem dX8_possibleLabels_70 : decode cX8_possibleLabels 70 = .ok (.iconst 1, 1) := by decide +kernel
theorem dX8_possibleLabels_71 : decode cX8_possibleLabels 71 = .ok (.iload_n 3, 1) := by decide +kernel
theorem dX8_possibleLabels_72 : decode cX8_possibleLabels 72 = .ok (.ishl, 1) := by decide +kernel
theorem dX8_possibleLabels_73 : decode cX8_possibleLabels 73 = .ok (.ior, 1) := by decide +kernel
theorem dX8_possibleLabels_74 : decode cX8_possibleLabels 74 = .ok (.istore_n 2, 1) := by decide +kernel
theorem dX8_possibleLabels_75 : decode cX8_possibleLabels 75 = .ok (.iinc 3 1, 3) := by decide +kernel
theorem dX8_possibleLabels_78 : decode cX8_possibleLabels 78 = .ok (.goto (-50), 3) := by decide +kernel
theorem dX8_possibleLabels_81 : decode cX8_possibleLabels 81 = .ok (.iload_n 2, 1) := by decide +kernel
theorem dX8_possibleLabels_82 : decode cX8_possibleLabels 82 = .ok (.ireturn, 1) := by decide +kernel
set_option maxRecDepth 20000 in
theorem ggX8_share_X2_holds : GoodIn wsX8_share wsX2_holds := goodIn_r _ [7, 8, 100, 101, 102, 103] (by decide +kernel) (by decide +kernel)
set_option maxRecDepth 20000 in
theorem gX8_share_X2_holds : GoodIn wsX8_share (wsV RX8 95 RX2 yX2_holds wsX2_holds) := goodIn_app (goodIn_of _ (by decide +kernel)) ggX8_share_X2_holds
set_option maxRecDepth 20000 in
theorem ggX8_share_X8_worth : GoodIn wsX8_share wsX8_worth := goodIn_r _ [13, 14, 1, 15, 16, 17, 6, 18, 8, 19, 20, 21, 22, 23, 24, 25, 26, 27, 28, 29, 30, 31, 32, 12, 33, 34, 35, 36, 37, 38, 39, 40, 41, 42, 43, 44, 45, 46, 47, 48, 49, 50, 51, 52, 53, 54, 55, 56, 57, 58, 59, 60, 61, 62, 63, 64, 65, 66, 67, 68, 69, 70, 71, 72, 73, 74, 75, 89, 90, 91, 92, 93, 94, 95, 96, 97, 98, 99, 100, 101, 102, 103] (by decide +kernel) (by decide +kernel)
set_option maxRecDepth 20000 in
theorem gX8_share_X8_worth : GoodIn wsX8_share (wsV RX8 208 RX8 yX8_worth wsX8_worth) := goodIn_app (goodIn_of _ (by decide +kernel)) ggX8_share_X8_worth
set_option maxRecDepth 20000 in
theorem ggX8_share_J6_bitCount_0f7a4 : GoodIn wsX8_share wsJ6_bitCount_0f7a4 := goodIn_r _ [79, 80, 81, 82] (by decide +kernel) (by decide +kernel)
set_option maxRecDepth 20000 in
theorem gX8_share_J6_bitCount_0f7a4 : GoodIn wsX8_share (va_wsS RX8 211 yJ6_bitCount_0f7a4 wsJ6_bitCount_0f7a4) := goodIn_app (goodIn_of _ (by decide +kernel)) ggX8_share_J6_bitCount_0f7a4
set_option maxRecDepth 20000 in
theorem ggX8_share_X0_ordersOf : GoodIn wsX8_share wsX0_ordersOf := goodIn_r _ [86, 87, 88] (by decide +kernel) (by decide +kernel)
set_option maxRecDepth 20000 in
theorem gX8_share_X0_ordersOf : GoodIn wsX8_share (va_wsS RX8 214 yX0_ordersOf wsX0_ordersOf) := goodIn_app (goodIn_of _ (by decide +kernel)) ggX8_share_X0_ordersOf
theorem dX8_share_0 : decode cX8_share 0 = .ok (.aload_n 0, 1) := by decide +kernel
theorem dX8_share_1 : decode cX8_share 1 = .ok (.getfield 22, 3) := by decide +kernel
theorem dX8_share_4 : decode cX8_share 4 = .ok (.iload_n 1, 1) := by decide +kernel
theorem dX8_share_5 : decode cX8_share 5 = .ok (.invokevirtual 95, 3) := by decide +kernel
theorem dX8_share_8 : decode cX8_share 8 = .ok (.ifCond .ne 5, 3) := by decide +kernel
theorem dX8_share_11 : decode cX8_share 11 = .ok (.iconst (-1), 1) := by decide +kernel
theorem dX8_share_12 : decode cX8_share 12 = .ok (.ireturn, 1) := by decide +kernel
theorem dX8_share_13 : decode cX8_share 13 = .ok (.aload_n 0, 1) := by decide +kernel
theorem dX8_share_14 : decode cX8_share 14 = .ok (.getfield 22, 3) := by decide +kernel
theorem dX8_share_17 : decode cX8_share 17 = .ok (.getfield 92, 3) := by decide +kernel
theorem dX8_share_20 : decode cX8_share 20 = .ok (.bipush 8, 2) := by decide +kernel
theorem dX8_share_22 : decode cX8_share 22 = .ok (.if_icmp .le 6, 3) := by decide +kernel
theorem dX8_share_25 : decode cX8_share 25 = .ok (.bipush (-3), 2) := by decide +kernel
theorem dX8_share_27 : decode cX8_share 27 = .ok (.ireturn, 1) := by decide +kernel
theorem dX8_share_28 : decode cX8_share 28 = .ok (.iconst 1, 1) := by decide +kernel
theorem dX8_share_29 : decode cX8_share 29 = .ok (.iload_n 1, 1) := by decide +kernel
theorem dX8_share_30 : decode cX8_share 30 = .ok (.ishl, 1) := by decide +kernel
theorem dX8_share_31 : decode cX8_share 31 = .ok (.istore_n 2, 1) := by decide +kernel
theorem dX8_share_32 : decode cX8_share 32 = .ok (.iconst 1, 1) := by decide +kernel
theorem dX8_share_33 : decode cX8_share 33 = .ok (.aload_n 0, 1) := by decide +kernel
theorem dX8_share_34 : decode cX8_share 34 = .ok (.getfield 22, 3) := by decide +kernel
theorem dX8_share_37 : decode cX8_share 37 = .ok (.getfield 92, 3) := by decide +kernel
theorem dX8_share_40 : decode cX8_share 40 = .ok (.ishl, 1) := by decide +kernel
theorem dX8_share_41 : decode cX8_share 41 = .ok (.istore_n 3, 1) := by decide +kernel
theorem dX8_share_42 : decode cX8_share 42 = .ok (.iconst 0, 1) := by decide +kernel
theorem dX8_share_43 : decode cX8_share 43 = .ok (.istore 4, 2) := by decide +kernel
theorem dX8_share_45 : decode cX8_share 45 = .ok (.iconst 0, 1) := by decide +kernel
theorem dX8_share_46 : decode cX8_share 46 = .ok (.istore 5, 2) := by decide +kernel
theorem dX8_share_48 : decode cX8_share 48 = .ok (.iload 5, 2) := by decide +kernel
theorem dX8_share_50 : decode cX8_share 50 = .ok (.iload_n 3, 1) := by decide +kernel
theorem dX8_share_51 : decode cX8_share 51 = .ok (.if_icmp .ge 56, 3) := by decide +kernel
theorem dX8_share_54 : decode cX8_share 54 = .ok (.iload 5, 2) := by decide +kernel
theorem dX8_share_56 : decode cX8_share 56 = .ok (.iload_n 2, 1) := by decide +kernel
theorem dX8_share_57 : decode cX8_share 57 = .ok (.iand, 1) := by decide +kernel
theorem dX8_share_58 : decode cX8_share 58 = .ok (.ifCond .ne 43, 3) := by decide +kernel
theorem dX8_share_61 : decode cX8_share 61 = .ok (.aload_n 0, 1) := by decide +kernel
theorem dX8_share_62 : decode cX8_share 62 = .ok (.iload 5, 2) := by decide +kernel
theorem dX8_share_64 : decode cX8_share 64 = .ok (.iload_n 2, 1) := by decide +kernel
theorem dX8_share_65 : decode cX8_share 65 = .ok (.ior, 1) := by decide +kernel
theorem dX8_share_66 : decode cX8_share 66 = .ok (.invokevirtual 208, 3) := by decide +kernel
theorem dX8_share_69 : decode cX8_share 69 = .ok (.aload_n 0, 1) := by decide +kernel
theorem dX8_share_70 : decode cX8_share 70 = .ok (.iload 5, 2) := by decide +kernel
theorem dX8_share_72 : decode cX8_share 72 = .ok (.invokevirtual 208, 3) := by decide +kernel
theorem dX8_share_75 : decode cX8_share 75 = .ok (.isub, 1) := by decide +kernel
theorem dX8_share_76 : decode cX8_share 76 = .ok (.istore 6, 2) := by decide +kernel
theorem dX8_share_78 : decode cX8_share 78 = .ok (.iload 4, 2) := by decide +kernel
theorem dX8_share_80 : decode cX8_share 80 = .ok (.iload 6, 2) := by decide +kernel
theorem dX8_share_82 : decode cX8_share 82 = .ok (.iload 5, 2) := by decide +kernel
theorem dX8_share_84 : decode cX8_share 84 = .ok (.invokestatic 211, 3) := by decide +kernel
theorem dX8_share_87 : decode cX8_share 87 = .ok (.aload_n 0, 1) := by decide +kernel
theorem dX8_share_88 : decode cX8_share 88 = .ok (.getfield 22, 3) := by decide +kernel
theorem dX8_share_91 : decode cX8_share 91 = .ok (.getfield 92, 3) := by decide +kernel
theorem dX8_share_94 : decode cX8_share 94 = .ok (.invokestatic 214, 3) := by decide +kernel
theorem dX8_share_97 : decode cX8_share 97 = .ok (.imul, 1) := by decide +kernel
theorem dX8_share_98 : decode cX8_share 98 = .ok (.iadd, 1) := by decide +kernel
theorem dX8_share_99 : decode cX8_share 99 = .ok (.istore 4, 2) := by decide +kernel
theorem dX8_share_101 : decode cX8_share 101 = .ok (.iinc 5 1, 3) := by decide +kernel
theorem dX8_share_104 : decode cX8_share 104 = .ok (.goto (-56), 3) := by decide +kernel
theorem dX8_share_107 : decode cX8_share 107 = .ok (.iload 4, 2) := by decide +kernel
theorem dX8_share_109 : decode cX8_share 109 = .ok (.ireturn, 1) := by decide +kernel
set_option maxRecDepth 20000 in
theorem ggX8_reliability_X8_isVertex : GoodIn wsX8_reliability wsX8_isVertex := goodIn_r _ [9, 4, 66, 67, 68, 69, 70, 71, 72, 73, 74, 75, 76] (by decide +kernel) (by decide +kernel)
set_option maxRecDepth 20000 in
theorem gX8_reliability_X8_isVertex : GoodIn wsX8_reliability (wsV RX8 109 RX8 yX8_isVertex wsX8_isVertex) := goodIn_app (goodIn_of _ (by decide +kernel)) ggX8_reliability_X8_isVertex
set_option maxRecDepth 20000 in
theorem ggX8_reliability_X2_takeSome : GoodIn wsX8_reliability wsX2_takeSome := goodIn_r _ [14, 15, 16, 17, 18, 19, 20, 21, 13, 22, 23, 24, 25, 26, 77, 78, 79, 80] (by decide +kernel) (by decide +kernel)
set_option maxRecDepth 20000 in
theorem gX8_reliability_X2_takeSome : GoodIn wsX8_reliability (wsV RX8 217 RX2 yX2_takeSome wsX2_takeSome) := goodIn_app (goodIn_of _ (by decide +kernel)) ggX8_reliability_X2_takeSome
set_option maxRecDepth 20000 in
theorem ggX8_reliability_X6_ofBalancedPaths : GoodIn wsX8_reliability wsX6_ofBalancedPaths := goodIn_r _ [30, 31, 32, 33, 29, 34, 35, 36, 37, 38, 39, 40, 41, 42, 43, 44, 45, 13, 46, 18, 47, 48, 49, 50, 51, 52, 53, 54, 55, 56, 57, 58, 59, 60, 77, 78, 79, 80] (by decide +kernel) (by decide +kernel)
set_option maxRecDepth 20000 in
theorem gX8_reliability_X6_ofBalancedPaths : GoodIn wsX8_reliability (va_wsS RX8 129 yX6_ofBalancedPaths wsX6_ofBalancedPaths) := goodIn_app (goodIn_of _ (by decide +kernel)) ggX8_reliability_X6_ofBalancedPaths
set_option maxRecDepth 20000 in
theorem ggX8_reliability_X6_has : GoodIn wsX8_reliability wsX6_has := goodIn_r _ [60, 47, 48, 29, 49] (by decide +kernel) (by decide +kernel)
set_option maxRecDepth 20000 in
theorem gX8_reliability_X6_has : GoodIn wsX8_reliability (va_wsS RX8 163 yX6_has wsX6_has) := goodIn_app (goodIn_of _ (by decide +kernel)) ggX8_reliability_X6_has
set_option maxRecDepth 20000 in
theorem ggX8_reliability_X0_power : GoodIn wsX8_reliability wsX0_power := goodIn_r _ [65] (by decide +kernel) (by decide +kernel)
set_option maxRecDepth 20000 in
theorem gX8_reliability_X0_power : GoodIn wsX8_reliability (va_wsS RX8 220 yX0_power wsX0_power) := goodIn_app (goodIn_of _ (by decide +kernel)) ggX8_reliability_X0_power
theorem dX8_reliability_0 : decode cX8_reliability 0 = .ok (.aload_n 0, 1) := by decide +kernel
theorem dX8_reliability_1 : decode cX8_reliability 1 = .ok (.iload_n 1, 1) := by decide +kernel
theorem dX8_reliability_2 : decode cX8_reliability 2 = .ok (.invokevirtual 109, 3) := by decide +kernel
theorem dX8_reliability_5 : decode cX8_reliability 5 = .ok (.ifCond .eq 11, 3) := by decide +kernel
theorem dX8_reliability_8 : decode cX8_reliability 8 = .ok (.aload_n 0, 1) := by decide +kernel
theorem dX8_reliability_9 : decode cX8_reliability 9 = .ok (.iload_n 2, 1) := by decide +kernel
theorem dX8_reliability_10 : decode cX8_reliability 10 = .ok (.invokevirtual 109, 3) := by decide +kernel
theorem dX8_reliability_13 : decode cX8_reliability 13 = .ok (.ifCond .ne 5, 3) := by decide +kernel
theorem dX8_reliability_16 : decode cX8_reliability 16 = .ok (.iconst (-1), 1) := by decide +kernel
theorem dX8_reliability_17 : decode cX8_reliability 17 = .ok (.ireturn, 1) := by decide +kernel
theorem dX8_reliability_18 : decode cX8_reliability 18 = .ok (.iload_n 3, 1) := by decide +kernel
theorem dX8_reliability_19 : decode cX8_reliability 19 = .ok (.ifCond .lt 9, 3) := by decide +kernel
theorem dX8_reliability_22 : decode cX8_reliability 22 = .ok (.iload_n 3, 1) := by decide +kernel
theorem dX8_reliability_23 : decode cX8_reliability 23 = .ok (.bipush 10, 2) := by decide +kernel
theorem dX8_reliability_25 : decode cX8_reliability 25 = .ok (.if_icmp .le 6, 3) := by decide +kernel
theorem dX8_reliability_28 : decode cX8_reliability 28 = .ok (.bipush (-2), 2) := by decide +kernel
theorem dX8_reliability_30 : decode cX8_reliability 30 = .ok (.ireturn, 1) := by decide +kernel
theorem dX8_reliability_31 : decode cX8_reliability 31 = .ok (.aload_n 0, 1) := by decide +kernel
theorem dX8_reliability_32 : decode cX8_reliability 32 = .ok (.getfield 22, 3) := by decide +kernel
theorem dX8_reliability_35 : decode cX8_reliability 35 = .ok (.getfield 92, 3) := by decide +kernel
theorem dX8_reliability_38 : decode cX8_reliability 38 = .ok (.bipush 8, 2) := by decide +kernel
theorem dX8_reliability_40 : decode cX8_reliability 40 = .ok (.if_icmp .le 6, 3) := by decide +kernel
theorem dX8_reliability_43 : decode cX8_reliability 43 = .ok (.bipush (-3), 2) := by decide +kernel
theorem dX8_reliability_45 : decode cX8_reliability 45 = .ok (.ireturn, 1) := by decide +kernel
theorem dX8_reliability_46 : decode cX8_reliability 46 = .ok (.iconst 1, 1) := by decide +kernel
theorem dX8_reliability_47 : decode cX8_reliability 47 = .ok (.aload_n 0, 1) := by decide +kernel
theorem dX8_reliability_48 : decode cX8_reliability 48 = .ok (.getfield 22, 3) := by decide +kernel
theorem dX8_reliability_51 : decode cX8_reliability 51 = .ok (.getfield 92, 3) := by decide +kernel
theorem dX8_reliability_54 : decode cX8_reliability 54 = .ok (.ishl, 1) := by decide +kernel
theorem dX8_reliability_55 : decode cX8_reliability 55 = .ok (.istore 4, 2) := by decide +kernel
theorem dX8_reliability_57 : decode cX8_reliability 57 = .ok (.iconst 0, 1) := by decide +kernel
theorem dX8_reliability_58 : decode cX8_reliability 58 = .ok (.istore 5, 2) := by decide +kernel
theorem dX8_reliability_60 : decode cX8_reliability 60 = .ok (.iconst 0, 1) := by decide +kernel
theorem dX8_reliability_61 : decode cX8_reliability 61 = .ok (.istore 6, 2) := by decide +kernel
theorem dX8_reliability_63 : decode cX8_reliability 63 = .ok (.iload 6, 2) := by decide +kernel
theorem dX8_reliability_65 : decode cX8_reliability 65 = .ok (.iload 4, 2) := by decide +kernel
theorem dX8_reliability_67 : decode cX8_reliability 67 = .ok (.if_icmp .ge 84, 3) := by decide +kernel
theorem dX8_reliability_70 : decode cX8_reliability 70 = .ok (.aload_n 0, 1) := by decide +kernel
theorem dX8_reliability_71 : decode cX8_reliability 71 = .ok (.getfield 26, 3) := by decide +kernel
theorem dX8_reliability_74 : decode cX8_reliability 74 = .ok (.aload_n 0, 1) := by decide +kernel
theorem dX8_reliability_75 : decode cX8_reliability 75 = .ok (.getfield 22, 3) := by decide +kernel
theorem dX8_reliability_78 : decode cX8_reliability 78 = .ok (.iload 6, 2) := by decide +kernel
theorem dX8_reliability_80 : decode cX8_reliability 80 = .ok (.invokevirtual 217, 3) := by decide +kernel
theorem dX8_reliability_83 : decode cX8_reliability 83 = .ok (.aload_n 0, 1) := by decide +kernel
theorem dX8_reliability_84 : decode cX8_reliability 84 = .ok (.getfield 26, 3) := by decide +kernel
theorem dX8_reliability_87 : decode cX8_reliability 87 = .ok (.aload_n 0, 1) := by decide +kernel
theorem dX8_reliability_88 : decode cX8_reliability 88 = .ok (.getfield 9, 3) := by decide +kernel
theorem dX8_reliability_91 : decode cX8_reliability 91 = .ok (.invokestatic 129, 3) := by decide +kernel
theorem dX8_reliability_94 : decode cX8_reliability 94 = .ok (.iload_n 1, 1) := by decide +kernel
theorem dX8_reliability_95 : decode cX8_reliability 95 = .ok (.iload_n 2, 1) := by decide +kernel
theorem dX8_reliability_96 : decode cX8_reliability 96 = .ok (.invokestatic 163, 3) := by decide +kernel
theorem dX8_reliability_99 : decode cX8_reliability 99 = .ok (.ifCond .eq 46, 3) := by decide +kernel
theorem dX8_reliability_102 : decode cX8_reliability 102 = .ok (.aload_n 0, 1) := by decide +kernel
theorem dX8_reliability_103 : decode cX8_reliability 103 = .ok (.getfield 22, 3) := by decide +kernel
theorem dX8_reliability_106 : decode cX8_reliability 106 = .ok (.getfield 92, 3) := by decide +kernel
theorem dX8_reliability_109 : decode cX8_reliability 109 = .ok (.aload_n 0, 1) := by decide +kernel
theorem dX8_reliability_110 : decode cX8_reliability 110 = .ok (.getfield 26, 3) := by decide +kernel
theorem dX8_reliability_113 : decode cX8_reliability 113 = .ok (.getfield 92, 3) := by decide +kernel
theorem dX8_reliability_116 : decode cX8_reliability 116 = .ok (.isub, 1) := by decide +kernel
theorem dX8_reliability_117 : decode cX8_reliability 117 = .ok (.istore 7, 2) := by decide +kernel
theorem dX8_reliability_119 : decode cX8_reliability 119 = .ok (.iload 5, 2) := by decide +kernel
theorem dX8_reliability_121 : decode cX8_reliability 121 = .ok (.bipush 10, 2) := by decide +kernel
theorem dX8_reliability_123 : decode cX8_reliability 123 = .ok (.iload_n 3, 1) := by decide +kernel
theorem dX8_reliability_124 : decode cX8_reliability 124 = .ok (.isub, 1) := by decide +kernel
theorem dX8_reliability_125 : decode cX8_reliability 125 = .ok (.aload_n 0, 1) := by decide +kernel
theorem dX8_reliability_126 : decode cX8_reliability 126 = .ok (.getfield 26, 3) := by decide +kernel
theorem dX8_reliability_129 : decode cX8_reliability 129 = .ok (.getfield 92, 3) := by decide +kernel
theorem dX8_reliability_132 : decode cX8_reliability 132 = .ok (.invokestatic 220, 3) := by decide +kernel
theorem dX8_reliability_135 : decode cX8_reliability 135 = .ok (.iload_n 3, 1) := by decide +kernel
theorem dX8_reliability_136 : decode cX8_reliability 136 = .ok (.iload 7, 2) := by decide +kernel
theorem dX8_reliability_138 : decode cX8_reliability 138 = .ok (.invokestatic 220, 3) := by decide +kernel
theorem dX8_reliability_141 : decode cX8_reliability 141 = .ok (.imul, 1) := by decide +kernel
theorem dX8_reliability_142 : decode cX8_reliability 142 = .ok (.iadd, 1) := by decide +kernel
theorem dX8_reliability_143 : decode cX8_reliability 143 = .ok (.istore 5, 2) := by decide +kernel
theorem dX8_reliability_145 : decode cX8_reliability 145 = .ok (.iinc 6 1, 3) := by decide +kernel
theorem dX8_reliability_148 : decode cX8_reliability 148 = .ok (.goto (-85), 3) := by decide +kernel
theorem dX8_reliability_151 : decode cX8_reliability 151 = .ok (.iload 5, 2) := by decide +kernel
theorem dX8_reliability_153 : decode cX8_reliability 153 = .ok (.ireturn, 1) := by decide +kernel
theorem dX8_setSeed_0 : decode cX8_setSeed 0 = .ok (.aload_n 0, 1) := by decide +kernel
theorem dX8_setSeed_1 : decode cX8_setSeed 1 = .ok (.getfield 13, 3) := by decide +kernel
theorem dX8_setSeed_4 : decode cX8_setSeed 4 = .ok (.lstore_n 3, 1) := by decide +kernel
theorem dX8_setSeed_5 : decode cX8_setSeed 5 = .ok (.aload_n 0, 1) := by decide +kernel
theorem dX8_setSeed_6 : decode cX8_setSeed 6 = .ok (.lload_n 1, 1) := by decide +kernel
theorem dX8_setSeed_7 : decode cX8_setSeed 7 = .ok (.putfield 13, 3) := by decide +kernel
theorem dX8_setSeed_10 : decode cX8_setSeed 10 = .ok (.lload_n 3, 1) := by decide +kernel
theorem dX8_setSeed_11 : decode cX8_setSeed 11 = .ok (.lreturn, 1) := by decide +kernel
set_option maxRecDepth 20000 in
theorem ggX8_simulate_X2_take : GoodIn wsX8_simulate wsX2_take := goodIn_r _ [9, 10, 11, 12, 13, 14, 15, 16, 8, 17, 18, 19, 20, 21, 101, 102, 103, 104] (by decide +kernel) (by decide +kernel)
set_option maxRecDepth 20000 in
theorem gX8_simulate_X2_take : GoodIn wsX8_simulate (wsV RX8 185 RX2 yX2_take wsX2_take) := goodIn_app (goodIn_of _ (by decide +kernel)) ggX8_simulate_X2_take
set_option maxRecDepth 20000 in
theorem ggX8_simulate_X0_nextSeed : GoodIn wsX8_simulate wsX0_nextSeed := goodIn_r _ [25, 26, 27] (by decide +kernel) (by decide +kernel)
set_option maxRecDepth 20000 in
theorem gX8_simulate_X0_nextSeed : GoodIn wsX8_simulate (va_wsS RX8 223 yX0_nextSeed wsX0_nextSeed) := goodIn_app (goodIn_of _ (by decide +kernel)) ggX8_simulate_X0_nextSeed
set_option maxRecDepth 20000 in
theorem ggX8_simulate_X0_change : GoodIn wsX8_simulate wsX0_change := goodIn_r _ [30, 31, 32, 33, 8, 34, 10, 11, 12, 13, 35, 15, 16, 17, 18, 19, 20, 21, 36, 37, 38, 39, 40, 41, 42, 43, 101, 102, 103, 104] (by decide +kernel) (by decide +kernel)
set_option maxRecDepth 20000 in
theorem gX8_simulate_X0_change : GoodIn wsX8_simulate (va_wsS RX8 227 yX0_change wsX0_change) := goodIn_app (goodIn_of _ (by decide +kernel)) ggX8_simulate_X0_change
set_option maxRecDepth 20000 in
theorem ggX8_simulate_X8_countPairs : GoodIn wsX8_simulate wsX8_countPairs := goodIn_r _ [48, 4, 49, 50, 51, 52, 53, 54, 55, 56, 57, 58, 59, 60, 61, 62, 63, 64, 65, 66, 67, 8, 68, 13, 69, 70, 71, 72, 73, 74, 75, 76, 77, 78, 79, 80, 81, 82, 83, 84, 85, 86, 87, 88, 89, 90, 91, 92, 93, 94, 95, 96, 97, 98, 99, 100, 101, 102, 103, 104] (by decide +kernel) (by decide +kernel)
set_option maxRecDepth 20000 in
theorem gX8_simulate_X8_countPairs : GoodIn wsX8_simulate (wsV RX8 139 RX8 yX8_countPairs wsX8_countPairs) := goodIn_app (goodIn_of _ (by decide +kernel)) ggX8_simulate_X8_countPairs
theorem dX8_simulate_0 : decode cX8_simulate 0 = .ok (.iload_n 1, 1) := by decide +kernel
theorem dX8_simulate_1 : decode cX8_simulate 1 = .ok (.iconst 1, 1) := by decide +kernel
theorem dX8_simulate_2 : decode cX8_simulate 2 = .ok (.if_icmp .lt 9, 3) := by decide +kernel
theorem dX8_simulate_5 : decode cX8_simulate 5 = .ok (.iload_n 1, 1) := by decide +kernel
theorem dX8_simulate_6 : decode cX8_simulate 6 = .ok (.bipush 40, 2) := by decide +kernel
theorem dX8_simulate_8 : decode cX8_simulate 8 = .ok (.if_icmp .le 6, 3) := by decide +kernel
theorem dX8_simulate_11 : decode cX8_simulate 11 = .ok (.bipush (-2), 2) := by decide +kernel
theorem dX8_simulate_13 : decode cX8_simulate 13 = .ok (.ireturn, 1) := by decide +kernel
theorem dX8_simulate_14 : decode cX8_simulate 14 = .ok (.aload_n 0, 1) := by decide +kernel
theorem dX8_simulate_15 : decode cX8_simulate 15 = .ok (.getfield 26, 3) := by decide +kernel
theorem dX8_simulate_18 : decode cX8_simulate 18 = .ok (.aload_n 0, 1) := by decide +kernel
theorem dX8_simulate_19 : decode cX8_simulate 19 = .ok (.getfield 22, 3) := by decide +kernel
theorem dX8_simulate_22 : decode cX8_simulate 22 = .ok (.invokevirtual 185, 3) := by decide +kernel
theorem dX8_simulate_25 : decode cX8_simulate 25 = .ok (.iconst 0, 1) := by decide +kernel
theorem dX8_simulate_26 : decode cX8_simulate 26 = .ok (.istore_n 2, 1) := by decide +kernel
theorem dX8_simulate_27 : decode cX8_simulate 27 = .ok (.iconst 0, 1) := by decide +kernel
theorem dX8_simulate_28 : decode cX8_simulate 28 = .ok (.istore_n 3, 1) := by decide +kernel
theorem dX8_simulate_29 : decode cX8_simulate 29 = .ok (.iload_n 3, 1) := by decide +kernel
theorem dX8_simulate_30 : decode cX8_simulate 30 = .ok (.iload_n 1, 1) := by decide +kernel
theorem dX8_simulate_31 : decode cX8_simulate 31 = .ok (.if_icmp .ge 50, 3) := by decide +kernel
theorem dX8_simulate_34 : decode cX8_simulate 34 = .ok (.aload_n 0, 1) := by decide +kernel
theorem dX8_simulate_35 : decode cX8_simulate 35 = .ok (.aload_n 0, 1) := by decide +kernel
theorem dX8_simulate_36 : decode cX8_simulate 36 = .ok (.getfield 13, 3) := by decide +kernel
theorem dX8_simulate_39 : decode cX8_simulate 39 = .ok (.invokestatic 223, 3) := by decide +kernel
theorem dX8_simulate_42 : decode cX8_simulate 42 = .ok (.putfield 13, 3) := by decide +kernel
theorem dX8_simulate_45 : decode cX8_simulate 45 = .ok (.aload_n 0, 1) := by decide +kernel
theorem dX8_simulate_46 : decode cX8_simulate 46 = .ok (.getfield 26, 3) := by decide +kernel
theorem dX8_simulate_49 : decode cX8_simulate 49 = .ok (.aload_n 0, 1) := by decide +kernel
theorem dX8_simulate_50 : decode cX8_simulate 50 = .ok (.getfield 9, 3) := by decide +kernel
theorem dX8_simulate_53 : decode cX8_simulate 53 = .ok (.aload_n 0, 1) := by decide +kernel
theorem dX8_simulate_54 : decode cX8_simulate 54 = .ok (.getfield 13, 3) := by decide +kernel
theorem dX8_simulate_57 : decode cX8_simulate 57 = .ok (.bipush 33, 2) := by decide +kernel
theorem dX8_simulate_59 : decode cX8_simulate 59 = .ok (.lushr, 1) := by decide +kernel
theorem dX8_simulate_60 : decode cX8_simulate 60 = .ok (.l2i, 1) := by decide +kernel
theorem dX8_simulate_61 : decode cX8_simulate 61 = .ok (.invokestatic 227, 3) := by decide +kernel
theorem dX8_simulate_64 : decode cX8_simulate 64 = .ok (.iload_n 2, 1) := by decide +kernel
theorem dX8_simulate_65 : decode cX8_simulate 65 = .ok (.aload_n 0, 1) := by decide +kernel
theorem dX8_simulate_66 : decode cX8_simulate 66 = .ok (.aload_n 0, 1) := by decide +kernel
theorem dX8_simulate_67 : decode cX8_simulate 67 = .ok (.getfield 26, 3) := by decide +kernel
theorem dX8_simulate_70 : decode cX8_simulate 70 = .ok (.invokevirtual 139, 3) := by decide +kernel
theorem dX8_simulate_73 : decode cX8_simulate 73 = .ok (.iadd, 1) := by decide +kernel
theorem dX8_simulate_74 : decode cX8_simulate 74 = .ok (.istore_n 2, 1) := by decide +kernel
theorem dX8_simulate_75 : decode cX8_simulate 75 = .ok (.iinc 3 1, 3) := by decide +kernel
theorem dX8_simulate_78 : decode cX8_simulate 78 = .ok (.goto (-49), 3) := by decide +kernel
theorem dX8_simulate_81 : decode cX8_simulate 81 = .ok (.iload_n 2, 1) := by decide +kernel
theorem dX8_simulate_82 : decode cX8_simulate 82 = .ok (.ireturn, 1) := by decide +kernel
set_option maxRecDepth 20000 in
theorem ggX8_save_X8_isSlot : GoodIn wsX8_save wsX8_isSlot := goodIn_r _ [8] (by decide +kernel) (by decide +kernel)
set_option maxRecDepth 20000 in
theorem gX8_save_X8_isSlot : GoodIn wsX8_save (va_wsS RX8 231 yX8_isSlot wsX8_isSlot) := goodIn_app (goodIn_of _ (by decide +kernel)) ggX8_save_X8_isSlot
set_option maxRecDepth 20000 in
theorem ggX8_save_X2_take : GoodIn wsX8_save wsX2_take := goodIn_r _ [13, 14, 15, 16, 17, 18, 19, 20, 12, 21, 22, 23, 24, 25, 37, 38, 39, 40] (by decide +kernel) (by decide +kernel)
set_option maxRecDepth 20000 in
theorem gX8_save_X2_take : GoodIn wsX8_save (wsV RX8 185 RX2 yX2_take wsX2_take) := goodIn_app (goodIn_of _ (by decide +kernel)) ggX8_save_X2_take
theorem dX8_save_0 : decode cX8_save 0 = .ok (.iload_n 1, 1) := by decide +kernel
theorem dX8_save_1 : decode cX8_save 1 = .ok (.invokestatic 231, 3) := by decide +kernel
theorem dX8_save_4 : decode cX8_save 4 = .ok (.ifCond .ne 5, 3) := by decide +kernel
theorem dX8_save_7 : decode cX8_save 7 = .ok (.iconst (-1), 1) := by decide +kernel
theorem dX8_save_8 : decode cX8_save 8 = .ok (.ireturn, 1) := by decide +kernel
theorem dX8_save_9 : decode cX8_save 9 = .ok (.aload_n 0, 1) := by decide +kernel
theorem dX8_save_10 : decode cX8_save 10 = .ok (.getfield 46, 3) := by decide +kernel
theorem dX8_save_13 : decode cX8_save 13 = .ok (.iload_n 1, 1) := by decide +kernel
theorem dX8_save_14 : decode cX8_save 14 = .ok (.aaload, 1) := by decide +kernel
theorem dX8_save_15 : decode cX8_save 15 = .ok (.aload_n 0, 1) := by decide +kernel
theorem dX8_save_16 : decode cX8_save 16 = .ok (.getfield 22, 3) := by decide +kernel
theorem dX8_save_19 : decode cX8_save 19 = .ok (.invokevirtual 185, 3) := by decide +kernel
theorem dX8_save_22 : decode cX8_save 22 = .ok (.aload_n 0, 1) := by decide +kernel
theorem dX8_save_23 : decode cX8_save 23 = .ok (.getfield 50, 3) := by decide +kernel
theorem dX8_save_26 : decode cX8_save 26 = .ok (.iload_n 1, 1) := by decide +kernel
theorem dX8_save_27 : decode cX8_save 27 = .ok (.iconst 1, 1) := by decide +kernel
theorem dX8_save_28 : decode cX8_save 28 = .ok (.bastore, 1) := by decide +kernel
theorem dX8_save_29 : decode cX8_save 29 = .ok (.aload_n 0, 1) := by decide +kernel
theorem dX8_save_30 : decode cX8_save 30 = .ok (.getfield 22, 3) := by decide +kernel
theorem dX8_save_33 : decode cX8_save 33 = .ok (.getfield 92, 3) := by decide +kernel
theorem dX8_save_36 : decode cX8_save 36 = .ok (.ireturn, 1) := by decide +kernel
set_option maxRecDepth 20000 in
theorem ggX8_restore_X8_isSlot : GoodIn wsX8_restore wsX8_isSlot := goodIn_r _ [9] (by decide +kernel) (by decide +kernel)
set_option maxRecDepth 20000 in
theorem gX8_restore_X8_isSlot : GoodIn wsX8_restore (va_wsS RX8 231 yX8_isSlot wsX8_isSlot) := goodIn_app (goodIn_of _ (by decide +kernel)) ggX8_restore_X8_isSlot
set_option maxRecDepth 20000 in
theorem ggX8_restore_X2_take : GoodIn wsX8_restore wsX2_take := goodIn_r _ [14, 15, 16, 17, 18, 19, 20, 21, 13, 22, 23, 24, 25, 26, 44, 45, 46, 47] (by decide +kernel) (by decide +kernel)
set_option maxRecDepth 20000 in
theorem gX8_restore_X2_take : GoodIn wsX8_restore (wsV RX8 185 RX2 yX2_take wsX2_take) := goodIn_app (goodIn_of _ (by decide +kernel)) ggX8_restore_X2_take
set_option maxRecDepth 20000 in
theorem ggX8_restore_X4_forgetAll : GoodIn wsX8_restore wsX4_forgetAll := goodIn_r _ [31, 32, 48, 49, 50] (by decide +kernel) (by decide +kernel)
set_option maxRecDepth 20000 in
theorem gX8_restore_X4_forgetAll : GoodIn wsX8_restore (wsV RX8 89 RX4 yX4_forgetAll wsX4_forgetAll) := goodIn_app (goodIn_of _ (by decide +kernel)) ggX8_restore_X4_forgetAll
theorem dX8_restore_0 : decode cX8_restore 0 = .ok (.iload_n 1, 1) := by decide +kernel
theorem dX8_restore_1 : decode cX8_restore 1 = .ok (.invokestatic 231, 3) := by decide +kernel
theorem dX8_restore_4 : decode cX8_restore 4 = .ok (.ifCond .ne 5, 3) := by decide +kernel
theorem dX8_restore_7 : decode cX8_restore 7 = .ok (.iconst (-1), 1) := by decide +kernel
theorem dX8_restore_8 : decode cX8_restore 8 = .ok (.ireturn, 1) := by decide +kernel
theorem dX8_restore_9 : decode cX8_restore 9 = .ok (.aload_n 0, 1) := by decide +kernel
theorem dX8_restore_10 : decode cX8_restore 10 = .ok (.getfield 50, 3) := by decide +kernel
theorem dX8_restore_13 : decode cX8_restore 13 = .ok (.iload_n 1, 1) := by decide +kernel
theorem dX8_restore_14 : decode cX8_restore 14 = .ok (.baload, 1) := by decide +kernel
theorem dX8_restore_15 : decode cX8_restore 15 = .ok (.ifCond .ne 6, 3) := by decide +kernel
theorem dX8_restore_18 : decode cX8_restore 18 = .ok (.bipush (-3), 2) := by decide +kernel
theorem dX8_restore_20 : decode cX8_restore 20 = .ok (.ireturn, 1) := by decide +kernel
theorem dX8_restore_21 : decode cX8_restore 21 = .ok (.aload_n 0, 1) := by decide +kernel
theorem dX8_restore_22 : decode cX8_restore 22 = .ok (.getfield 22, 3) := by decide +kernel
theorem dX8_restore_25 : decode cX8_restore 25 = .ok (.aload_n 0, 1) := by decide +kernel
theorem dX8_restore_26 : decode cX8_restore 26 = .ok (.getfield 46, 3) := by decide +kernel
theorem dX8_restore_29 : decode cX8_restore 29 = .ok (.iload_n 1, 1) := by decide +kernel
theorem dX8_restore_30 : decode cX8_restore 30 = .ok (.aaload, 1) := by decide +kernel
theorem dX8_restore_31 : decode cX8_restore 31 = .ok (.invokevirtual 185, 3) := by decide +kernel
theorem dX8_restore_34 : decode cX8_restore 34 = .ok (.aload_n 0, 1) := by decide +kernel
theorem dX8_restore_35 : decode cX8_restore 35 = .ok (.getfield 42, 3) := by decide +kernel
theorem dX8_restore_38 : decode cX8_restore 38 = .ok (.invokevirtual 89, 3) := by decide +kernel
theorem dX8_restore_41 : decode cX8_restore 41 = .ok (.aload_n 0, 1) := by decide +kernel
theorem dX8_restore_42 : decode cX8_restore 42 = .ok (.getfield 22, 3) := by decide +kernel
theorem dX8_restore_45 : decode cX8_restore 45 = .ok (.getfield 92, 3) := by decide +kernel
theorem dX8_restore_48 : decode cX8_restore 48 = .ok (.ireturn, 1) := by decide +kernel
theorem dX8_isVertex_0 : decode cX8_isVertex 0 = .ok (.iload_n 1, 1) := by decide +kernel
theorem dX8_isVertex_1 : decode cX8_isVertex 1 = .ok (.ifCond .lt 15, 3) := by decide +kernel
theorem dX8_isVertex_4 : decode cX8_isVertex 4 = .ok (.iload_n 1, 1) := by decide +kernel
theorem dX8_isVertex_5 : decode cX8_isVertex 5 = .ok (.aload_n 0, 1) := by decide +kernel
theorem dX8_isVertex_6 : decode cX8_isVertex 6 = .ok (.getfield 9, 3) := by decide +kernel
theorem dX8_isVertex_9 : decode cX8_isVertex 9 = .ok (.if_icmp .ge 7, 3) := by decide +kernel
theorem dX8_isVertex_12 : decode cX8_isVertex 12 = .ok (.iconst 1, 1) := by decide +kernel
theorem dX8_isVertex_13 : decode cX8_isVertex 13 = .ok (.goto 4, 3) := by decide +kernel
theorem dX8_isVertex_16 : decode cX8_isVertex 16 = .ok (.iconst 0, 1) := by decide +kernel
theorem dX8_isVertex_17 : decode cX8_isVertex 17 = .ok (.ireturn, 1) := by decide +kernel
theorem dX8_isVertexNumber_0 : decode cX8_isVertexNumber 0 = .ok (.iload_n 0, 1) := by decide +kernel
theorem dX8_isVertexNumber_1 : decode cX8_isVertexNumber 1 = .ok (.ifCond .lt 13, 3) := by decide +kernel
theorem dX8_isVertexNumber_4 : decode cX8_isVertexNumber 4 = .ok (.iload_n 0, 1) := by decide +kernel
theorem dX8_isVertexNumber_5 : decode cX8_isVertexNumber 5 = .ok (.bipush 8, 2) := by decide +kernel
theorem dX8_isVertexNumber_7 : decode cX8_isVertexNumber 7 = .ok (.if_icmp .ge 7, 3) := by decide +kernel
theorem dX8_isVertexNumber_10 : decode cX8_isVertexNumber 10 = .ok (.iconst 1, 1) := by decide +kernel
theorem dX8_isVertexNumber_11 : decode cX8_isVertexNumber 11 = .ok (.goto 4, 3) := by decide +kernel
theorem dX8_isVertexNumber_14 : decode cX8_isVertexNumber 14 = .ok (.iconst 0, 1) := by decide +kernel
theorem dX8_isVertexNumber_15 : decode cX8_isVertexNumber 15 = .ok (.ireturn, 1) := by decide +kernel
theorem dX8_isLabel_0 : decode cX8_isLabel 0 = .ok (.iload_n 0, 1) := by decide +kernel
theorem dX8_isLabel_1 : decode cX8_isLabel 1 = .ok (.ifCond .lt 13, 3) := by decide +kernel
theorem dX8_isLabel_4 : decode cX8_isLabel 4 = .ok (.iload_n 0, 1) := by decide +kernel
theorem dX8_isLabel_5 : decode cX8_isLabel 5 = .ok (.bipush 7, 2) := by decide +kernel
theorem dX8_isLabel_7 : decode cX8_isLabel 7 = .ok (.if_icmp .ge 7, 3) := by decide +kernel
theorem dX8_isLabel_10 : decode cX8_isLabel 10 = .ok (.iconst 1, 1) := by decide +kernel
theorem dX8_isLabel_11 : decode cX8_isLabel 11 = .ok (.goto 4, 3) := by decide +kernel
theorem dX8_isLabel_14 : decode cX8_isLabel 14 = .ok (.iconst 0, 1) := by decide +kernel
theorem dX8_isLabel_15 : decode cX8_isLabel 15 = .ok (.ireturn, 1) := by decide +kernel
theorem dX8_isSlot_0 : decode cX8_isSlot 0 = .ok (.iload_n 0, 1) := by decide +kernel
theorem dX8_isSlot_1 : decode cX8_isSlot 1 = .ok (.ifCond .lt 12, 3) := by decide +kernel
theorem dX8_isSlot_4 : decode cX8_isSlot 4 = .ok (.iload_n 0, 1) := by decide +kernel
theorem dX8_isSlot_5 : decode cX8_isSlot 5 = .ok (.iconst 2, 1) := by decide +kernel
theorem dX8_isSlot_6 : decode cX8_isSlot 6 = .ok (.if_icmp .ge 7, 3) := by decide +kernel
theorem dX8_isSlot_9 : decode cX8_isSlot 9 = .ok (.iconst 1, 1) := by decide +kernel
theorem dX8_isSlot_10 : decode cX8_isSlot 10 = .ok (.goto 4, 3) := by decide +kernel
theorem dX8_isSlot_13 : decode cX8_isSlot 13 = .ok (.iconst 0, 1) := by decide +kernel
theorem dX8_isSlot_14 : decode cX8_isSlot 14 = .ok (.ireturn, 1) := by decide +kernel
set_option maxRecDepth 20000 in
theorem ggX8_countPairs_X6_ofBalancedPaths : GoodIn wsX8_countPairs wsX6_ofBalancedPaths := goodIn_r _ [5, 6, 7, 8, 4, 9, 10, 11, 12, 13, 14, 15, 16, 17, 18, 19, 20, 21, 22, 23, 24, 25, 26, 27, 28, 29, 30, 31, 32, 33, 34, 35, 36, 37, 56, 57, 58, 59] (by decide +kernel) (by decide +kernel)
set_option maxRecDepth 20000 in
theorem gX8_countPairs_X6_ofBalancedPaths : GoodIn wsX8_countPairs (va_wsS RX8 129 yX6_ofBalancedPaths wsX6_ofBalancedPaths) := goodIn_app (goodIn_of _ (by decide +kernel)) ggX8_countPairs_X6_ofBalancedPaths
set_option maxRecDepth 20000 in
theorem ggX8_countPairs_J13_bitCount_95d88 : GoodIn wsX8_countPairs wsJ13_bitCount_95d88 := goodIn_r _ [41, 42, 43, 44] (by decide +kernel) (by decide +kernel)
set_option maxRecDepth 20000 in
theorem gX8_countPairs_J13_bitCount_95d88 : GoodIn wsX8_countPairs (va_wsS RX8 234 yJ13_bitCount_95d88 wsJ13_bitCount_95d88) := goodIn_app (goodIn_of _ (by decide +kernel)) ggX8_countPairs_J13_bitCount_95d88
theorem dX8_countPairs_0 : decode cX8_countPairs 0 = .ok (.aload_n 1, 1) := by decide +kernel
theorem dX8_countPairs_1 : decode cX8_countPairs 1 = .ok (.aload_n 0, 1) := by decide +kernel
theorem dX8_countPairs_2 : decode cX8_countPairs 2 = .ok (.getfield 9, 3) := by decide +kernel
theorem dX8_countPairs_5 : decode cX8_countPairs 5 = .ok (.invokestatic 129, 3) := by decide +kernel
theorem dX8_countPairs_8 : decode cX8_countPairs 8 = .ok (.invokestatic 234, 3) := by decide +kernel
theorem dX8_countPairs_11 : decode cX8_countPairs 11 = .ok (.ireturn, 1) := by decide +kernel
set_option maxRecDepth 20000 in
theorem ggX8_countPairsWithout_X2_take : GoodIn wsX8_countPairsWithout wsX2_take := goodIn_r _ [7, 8, 9, 10, 11, 12, 13, 14, 6, 15, 16, 17, 18, 19, 86, 87, 88, 89] (by decide +kernel) (by decide +kernel)
set_option maxRecDepth 20000 in
theorem gX8_countPairsWithout_X2_take : GoodIn wsX8_countPairsWithout (wsV RX8 185 RX2 yX2_take wsX2_take) := goodIn_app (goodIn_of _ (by decide +kernel)) ggX8_countPairsWithout_X2_take
set_option maxRecDepth 20000 in
theorem ggX8_countPairsWithout_X2_drop : GoodIn wsX8_countPairsWithout wsX2_drop := goodIn_r _ [23, 8, 9, 10, 11, 24, 25, 26, 6, 27, 86, 87, 88, 89] (by decide +kernel) (by decide +kernel)
set_option maxRecDepth 20000 in
theorem gX8_countPairsWithout_X2_drop : GoodIn wsX8_countPairsWithout (wsV RX8 122 RX2 yX2_drop wsX2_drop) := goodIn_app (goodIn_of _ (by decide +kernel)) ggX8_countPairsWithout_X2_drop
set_option maxRecDepth 20000 in
theorem ggX8_countPairsWithout_X8_countPairs : GoodIn wsX8_countPairsWithout wsX8_countPairs := goodIn_r _ [32, 33, 34, 35, 36, 37, 38, 39, 40, 41, 42, 43, 44, 45, 46, 47, 48, 49, 50, 51, 52, 6, 53, 11, 54, 55, 56, 57, 58, 59, 60, 61, 62, 63, 64, 65, 66, 67, 68, 69, 70, 71, 72, 73, 74, 75, 76, 77, 78, 79, 80, 81, 82, 83, 84, 85, 86, 87, 88, 89] (by decide +kernel) (by decide +kernel)
set_option maxRecDepth 20000 in
theorem gX8_countPairsWithout_X8_countPairs : GoodIn wsX8_countPairsWithout (wsV RX8 139 RX8 yX8_countPairs wsX8_countPairs) := goodIn_app (goodIn_of _ (by decide +kernel)) ggX8_countPairsWithout_X8_countPairs
theorem dX8_countPairsWithout_0 : decode cX8_countPairsWithout 0 = .ok (.aload_n 0, 1) := by decide +kernel
theorem dX8_countPairsWithout_1 : decode cX8_countPairsWithout 1 = .ok (.getfield 26, 3) := by decide +kernel
theorem dX8_countPairsWithout_4 : decode cX8_countPairsWithout 4 = .ok (.aload_n 0, 1) := by decide +kernel
theorem dX8_countPairsWithout_5 : decode cX8_countPairsWithout 5 = .ok (.getfield 22, 3) := by decide +kernel
theorem dX8_countPairsWithout_8 : decode cX8_countPairsWithout 8 = .ok (.invokevirtual 185, 3) := by decide +kernel
theorem dX8_countPairsWithout_11 : decode cX8_countPairsWithout 11 = .ok (.aload_n 0, 1) := by decide +kernel
theorem dX8_countPairsWithout_12 : decode cX8_countPairsWithout 12 = .ok (.getfield 26, 3) := by decide +kernel
theorem dX8_countPairsWithout_15 : decode cX8_countPairsWithout 15 = .ok (.iload_n 1, 1) := by decide +kernel
theorem dX8_countPairsWithout_16 : decode cX8_countPairsWithout 16 = .ok (.invokevirtual 122, 3) := by decide +kernel
theorem dX8_countPairsWithout_19 : decode cX8_countPairsWithout 19 = .ok (.aload_n 0, 1) := by decide +kernel
theorem dX8_countPairsWithout_20 : decode cX8_countPairsWithout 20 = .ok (.aload_n 0, 1) := by decide +kernel
theorem dX8_countPairsWithout_21 : decode cX8_countPairsWithout 21 = .ok (.getfield 26, 3) := by decide +kernel
theorem dX8_countPairsWithout_24 : decode cX8_countPairsWithout 24 = .ok (.invokevirtual 139, 3) := by decide +kernel
theorem dX8_countPairsWithout_27 : decode cX8_countPairsWithout 27 = .ok (.ireturn, 1) := by decide +kernel
set_option maxRecDepth 20000 in
theorem ggX8_worth_X2_takeSome : GoodIn wsX8_worth wsX2_takeSome := goodIn_r _ [7, 8, 9, 10, 11, 12, 13, 14, 6, 15, 16, 17, 18, 19, 78, 79, 80, 81] (by decide +kernel) (by decide +kernel)
set_option maxRecDepth 20000 in
theorem gX8_worth_X2_takeSome : GoodIn wsX8_worth (wsV RX8 217 RX2 yX2_takeSome wsX2_takeSome) := goodIn_app (goodIn_of _ (by decide +kernel)) ggX8_worth_X2_takeSome
set_option maxRecDepth 20000 in
theorem ggX8_worth_X8_countPairs : GoodIn wsX8_worth wsX8_countPairs := goodIn_r _ [24, 25, 26, 27, 28, 29, 30, 31, 32, 33, 34, 35, 36, 37, 38, 39, 40, 41, 42, 43, 44, 6, 45, 11, 46, 47, 48, 49, 50, 51, 52, 53, 54, 55, 56, 57, 58, 59, 60, 61, 62, 63, 64, 65, 66, 67, 68, 69, 70, 71, 72, 73, 74, 75, 76, 77, 78, 79, 80, 81] (by decide +kernel) (by decide +kernel)
set_option maxRecDepth 20000 in
theorem gX8_worth_X8_countPairs : GoodIn wsX8_worth (wsV RX8 139 RX8 yX8_countPairs wsX8_countPairs) := goodIn_app (goodIn_of _ (by decide +kernel)) ggX8_worth_X8_countPairs
theorem dX8_worth_0 : decode cX8_worth 0 = .ok (.aload_n 0, 1) := by decide +kernel
theorem dX8_worth_1 : decode cX8_worth 1 = .ok (.getfield 26, 3) := by decide +kernel
theorem dX8_worth_4 : decode cX8_worth 4 = .ok (.aload_n 0, 1) := by decide +kernel
theorem dX8_worth_5 : decode cX8_worth 5 = .ok (.getfield 22, 3) := by decide +kernel
theorem dX8_worth_8 : decode cX8_worth 8 = .ok (.iload_n 1, 1) := by decide +kernel
theorem dX8_worth_9 : decode cX8_worth 9 = .ok (.invokevirtual 217, 3) := by decide +kernel
theorem dX8_worth_12 : decode cX8_worth 12 = .ok (.aload_n 0, 1) := by decide +kernel
theorem dX8_worth_13 : decode cX8_worth 13 = .ok (.aload_n 0, 1) := by decide +kernel
theorem dX8_worth_14 : decode cX8_worth 14 = .ok (.getfield 26, 3) := by decide +kernel
theorem dX8_worth_17 : decode cX8_worth 17 = .ok (.invokevirtual 139, 3) := by decide +kernel
theorem dX8_worth_20 : decode cX8_worth 20 = .ok (.ireturn, 1) := by decide +kernel
theorem dX9_init_0 : decode cX9_init 0 = .ok (.aload_n 0, 1) := by decide +kernel
theorem dX9_init_1 : decode cX9_init 1 = .ok (.invokespecial 1, 3) := by decide +kernel
theorem dX9_init_4 : decode cX9_init 4 = .ok (.aload_n 0, 1) := by decide +kernel
theorem dX9_init_5 : decode cX9_init 5 = .ok (.bipush 60, 2) := by decide +kernel
theorem dX9_init_7 : decode cX9_init 7 = .ok (.newarray .int, 2) := by decide +kernel
theorem dX9_init_9 : decode cX9_init 9 = .ok (.putfield 7, 3) := by decide +kernel
theorem dX9_init_12 : decode cX9_init 12 = .ok (.aload_n 0, 1) := by decide +kernel
theorem dX9_init_13 : decode cX9_init 13 = .ok (.bipush 49, 2) := by decide +kernel
theorem dX9_init_15 : decode cX9_init 15 = .ok (.newarray .int, 2) := by decide +kernel
theorem dX9_init_17 : decode cX9_init 17 = .ok (.putfield 13, 3) := by decide +kernel
theorem dX9_init_20 : decode cX9_init 20 = .ok (.aload_n 0, 1) := by decide +kernel
theorem dX9_init_21 : decode cX9_init 21 = .ok (.iconst 1, 1) := by decide +kernel
theorem dX9_init_22 : decode cX9_init 22 = .ok (.putfield 16, 3) := by decide +kernel
theorem dX9_init_25 : decode cX9_init 25 = .ok (.aload_n 0, 1) := by decide +kernel
theorem dX9_init_26 : decode cX9_init 26 = .ok (.bipush 49, 2) := by decide +kernel
theorem dX9_init_28 : decode cX9_init 28 = .ok (.newarray .int, 2) := by decide +kernel
theorem dX9_init_30 : decode cX9_init 30 = .ok (.putfield 20, 3) := by decide +kernel
theorem dX9_init_33 : decode cX9_init 33 = .ok (.aload_n 0, 1) := by decide +kernel
theorem dX9_init_34 : decode cX9_init 34 = .ok (.bipush 49, 2) := by decide +kernel
theorem dX9_init_36 : decode cX9_init 36 = .ok (.newarray .int, 2) := by decide +kernel
theorem dX9_init_38 : decode cX9_init 38 = .ok (.putfield 23, 3) := by decide +kernel
theorem dX9_init_41 : decode cX9_init 41 = .ok (.aload_n 0, 1) := by decide +kernel
theorem dX9_init_42 : decode cX9_init 42 = .ok (.sipush 686, 3) := by decide +kernel
theorem dX9_init_45 : decode cX9_init 45 = .ok (.newarray .int, 2) := by decide +kernel
theorem dX9_init_47 : decode cX9_init 47 = .ok (.putfield 26, 3) := by decide +kernel
theorem dX9_init_50 : decode cX9_init 50 = .ok (.aload_n 0, 1) := by decide +kernel
theorem dX9_init_51 : decode cX9_init 51 = .ok (.bipush 98, 2) := by decide +kernel
theorem dX9_init_53 : decode cX9_init 53 = .ok (.newarray .int, 2) := by decide +kernel
theorem dX9_init_55 : decode cX9_init 55 = .ok (.putfield 29, 3) := by decide +kernel
theorem dX9_init_58 : decode cX9_init 58 = .ok (.aload_n 0, 1) := by decide +kernel
theorem dX9_init_59 : decode cX9_init 59 = .ok (.iconst 2, 1) := by decide +kernel
theorem dX9_init_60 : decode cX9_init 60 = .ok (.newarray .boolean, 2) := by decide +kernel
theorem dX9_init_62 : decode cX9_init 62 = .ok (.putfield 32, 3) := by decide +kernel
theorem dX9_init_65 : decode cX9_init 65 = .ok (.aload_n 0, 1) := by decide +kernel
theorem dX9_init_66 : decode cX9_init 66 = .ok (.bipush 6, 2) := by decide +kernel
theorem dX9_init_68 : decode cX9_init 68 = .ok (.newarray .int, 2) := by decide +kernel
theorem dX9_init_70 : decode cX9_init 70 = .ok (.putfield 36, 3) := by decide +kernel
theorem dX9_init_73 : decode cX9_init 73 = .ok (.aload_n 0, 1) := by decide +kernel
theorem dX9_init_74 : decode cX9_init 74 = .ok (.bipush 6, 2) := by decide +kernel
theorem dX9_init_76 : decode cX9_init 76 = .ok (.newarray .int, 2) := by decide +kernel
theorem dX9_init_78 : decode cX9_init 78 = .ok (.putfield 39, 3) := by decide +kernel
theorem dX9_init_81 : decode cX9_init 81 = .ok (.aload_n 0, 1) := by decide +kernel
theorem dX9_init_82 : decode cX9_init 82 = .ok (.bipush 6, 2) := by decide +kernel
theorem dX9_init_84 : decode cX9_init 84 = .ok (.newarray .int, 2) := by decide +kernel
theorem dX9_init_86 : decode cX9_init 86 = .ok (.putfield 42, 3) := by decide +kernel
theorem dX9_init_89 : decode cX9_init 89 = .ok (.aload_n 0, 1) := by decide +kernel
theorem dX9_init_90 : decode cX9_init 90 = .ok (.bipush 64, 2) := by decide +kernel
theorem dX9_init_92 : decode cX9_init 92 = .ok (.newarray .int, 2) := by decide +kernel
theorem dX9_init_94 : decode cX9_init 94 = .ok (.putfield 45, 3) := by decide +kernel
theorem dX9_init_97 : decode cX9_init 97 = .ok (.aload_n 0, 1) := by decide +kernel
theorem dX9_init_98 : decode cX9_init 98 = .ok (.bipush 64, 2) := by decide +kernel
theorem dX9_init_100 : decode cX9_init 100 = .ok (.newarray .int, 2) := by decide +kernel
theorem dX9_init_102 : decode cX9_init 102 = .ok (.putfield 48, 3) := by decide +kernel
theorem dX9_init_105 : decode cX9_init 105 = .ok (.aload_n 0, 1) := by decide +kernel
theorem dX9_init_106 : decode cX9_init 106 = .ok (.bipush 96, 2) := by decide +kernel
theorem dX9_init_108 : decode cX9_init 108 = .ok (.newarray .int, 2) := by decide +kernel
theorem dX9_init_110 : decode cX9_init 110 = .ok (.putfield 51, 3) := by decide +kernel
theorem dX9_init_113 : decode cX9_init 113 = .ok (.return_, 1) := by decide +kernel
theorem dX9_in_0 : decode cX9_in 0 = .ok (.lload_n 0, 1) := by decide +kernel
theorem dX9_in_1 : decode cX9_in 1 = .ok (.lload_n 2, 1) := by decide +kernel
theorem dX9_in_2 : decode cX9_in 2 = .ok (.lcmp, 1) := by decide +kernel
theorem dX9_in_3 : decode cX9_in 3 = .ok (.ifCond .lt 14, 3) := by decide +kernel
theorem dX9_in_6 : decode cX9_in 6 = .ok (.lload_n 0, 1) := by decide +kernel
theorem dX9_in_7 : decode cX9_in 7 = .ok (.lload 4, 2) := by decide +kernel
theorem dX9_in_9 : decode cX9_in 9 = .ok (.lcmp, 1) := by decide +kernel
theorem dX9_in_10 : decode cX9_in 10 = .ok (.ifCond .gt 7, 3) := by decide +kernel
theorem dX9_in_13 : decode cX9_in 13 = .ok (.iconst 1, 1) := by decide +kernel
theorem dX9_in_14 : decode cX9_in 14 = .ok (.goto 4, 3) := by decide +kernel
theorem dX9_in_17 : decode cX9_in 17 = .ok (.iconst 0, 1) := by decide +kernel
theorem dX9_in_18 : decode cX9_in 18 = .ok (.ireturn, 1) := by decide +kernel
theorem dX9_has_0 : decode cX9_has 0 = .ok (.iload_n 0, 1) := by decide +kernel
theorem dX9_has_1 : decode cX9_has 1 = .ok (.iload_n 1, 1) := by decide +kernel
theorem dX9_has_2 : decode cX9_has 2 = .ok (.ishr, 1) := by decide +kernel
theorem dX9_has_3 : decode cX9_has 3 = .ok (.iconst 1, 1) := by decide +kernel
theorem dX9_has_4 : decode cX9_has 4 = .ok (.iand, 1) := by decide +kernel
theorem dX9_has_5 : decode cX9_has 5 = .ok (.iconst 1, 1) := by decide +kernel
theorem dX9_has_6 : decode cX9_has 6 = .ok (.if_icmp .ne 7, 3) := by decide +kernel
theorem dX9_has_9 : decode cX9_has 9 = .ok (.iconst 1, 1) := by decide +kernel
theorem dX9_has_10 : decode cX9_has 10 = .ok (.goto 4, 3) := by decide +kernel
theorem dX9_has_13 : decode cX9_has 13 = .ok (.iconst 0, 1) := by decide +kernel
theorem dX9_has_14 : decode cX9_has 14 = .ok (.ireturn, 1) := by decide +kernel
theorem dX9_bits_0 : decode cX9_bits 0 = .ok (.iconst 0, 1) := by decide +kernel
theorem dX9_bits_1 : decode cX9_bits 1 = .ok (.istore_n 1, 1) := by decide +kernel
theorem dX9_bits_2 : decode cX9_bits 2 = .ok (.iconst 0, 1) := by decide +kernel
theorem dX9_bits_3 : decode cX9_bits 3 = .ok (.istore_n 2, 1) := by decide +kernel
theorem dX9_bits_4 : decode cX9_bits 4 = .ok (.iload_n 2, 1) := by decide +kernel
theorem dX9_bits_5 : decode cX9_bits 5 = .ok (.bipush 16, 2) := by decide +kernel
theorem dX9_bits_7 : decode cX9_bits 7 = .ok (.if_icmp .ge 17, 3) := by decide +kernel
theorem dX9_bits_10 : decode cX9_bits 10 = .ok (.iload_n 1, 1) := by decide +kernel
theorem dX9_bits_11 : decode cX9_bits 11 = .ok (.iload_n 0, 1) := by decide +kernel
theorem dX9_bits_12 : decode cX9_bits 12 = .ok (.iload_n 2, 1) := by decide +kernel
theorem dX9_bits_13 : decode cX9_bits 13 = .ok (.ishr, 1) := by decide +kernel
theorem dX9_bits_14 : decode cX9_bits 14 = .ok (.iconst 1, 1) := by decide +kernel
theorem dX9_bits_15 : decode cX9_bits 15 = .ok (.iand, 1) := by decide +kernel
theorem dX9_bits_16 : decode cX9_bits 16 = .ok (.iadd, 1) := by decide +kernel
theorem dX9_bits_17 : decode cX9_bits 17 = .ok (.istore_n 1, 1) := by decide +kernel
theorem dX9_bits_18 : decode cX9_bits 18 = .ok (.iinc 2 1, 3) := by decide +kernel
theorem dX9_bits_21 : decode cX9_bits 21 = .ok (.goto (-17), 3) := by decide +kernel
theorem dX9_bits_24 : decode cX9_bits 24 = .ok (.iload_n 1, 1) := by decide +kernel
theorem dX9_bits_25 : decode cX9_bits 25 = .ok (.ireturn, 1) := by decide +kernel
theorem dX9_assign_0 : decode cX9_assign 0 = .ok (.iconst 0, 1) := by decide +kernel
theorem dX9_assign_1 : decode cX9_assign 1 = .ok (.istore_n 2, 1) := by decide +kernel
theorem dX9_assign_2 : decode cX9_assign 2 = .ok (.iload_n 2, 1) := by decide +kernel
theorem dX9_assign_3 : decode cX9_assign 3 = .ok (.bipush 49, 2) := by decide +kernel
theorem dX9_assign_5 : decode cX9_assign 5 = .ok (.if_icmp .ge 15, 3) := by decide +kernel
theorem dX9_assign_8 : decode cX9_assign 8 = .ok (.aload_n 1, 1) := by decide +kernel
theorem dX9_assign_9 : decode cX9_assign 9 = .ok (.iload_n 2, 1) := by decide +kernel
theorem dX9_assign_10 : decode cX9_assign 10 = .ok (.aload_n 0, 1) := by decide +kernel
theorem dX9_assign_11 : decode cX9_assign 11 = .ok (.iload_n 2, 1) := by decide +kernel
theorem dX9_assign_12 : decode cX9_assign 12 = .ok (.iaload, 1) := by decide +kernel
theorem dX9_assign_13 : decode cX9_assign 13 = .ok (.iastore, 1) := by decide +kernel
theorem dX9_assign_14 : decode cX9_assign 14 = .ok (.iinc 2 1, 3) := by decide +kernel
theorem dX9_assign_17 : decode cX9_assign 17 = .ok (.goto (-15), 3) := by decide +kernel
theorem dX9_assign_20 : decode cX9_assign 20 = .ok (.return_, 1) := by decide +kernel
set_option maxRecDepth 20000 in
theorem ggX9_noVertex_X9_in : GoodIn wsX9_noVertex wsX9_in := goodIn_r _ [5] (by decide +kernel) (by decide +kernel)
set_option maxRecDepth 20000 in
theorem gX9_noVertex_X9_in : GoodIn wsX9_noVertex (va_wsS RX9 57 yX9_in wsX9_in) := goodIn_app (goodIn_of _ (by decide +kernel)) ggX9_noVertex_X9_in
theorem dX9_noVertex_0 : decode cX9_noVertex 0 = .ok (.iload_n 1, 1) := by decide +kernel
theorem dX9_noVertex_1 : decode cX9_noVertex 1 = .ok (.i2l, 1) := by decide +kernel
theorem dX9_noVertex_2 : decode cX9_noVertex 2 = .ok (.lconst 0, 1) := by decide +kernel
theorem dX9_noVertex_3 : decode cX9_noVertex 3 = .ok (.aload_n 0, 1) := by decide +kernel
theorem dX9_noVertex_4 : decode cX9_noVertex 4 = .ok (.getfield 16, 3) := by decide +kernel
theorem dX9_noVertex_7 : decode cX9_noVertex 7 = .ok (.iconst 1, 1) := by decide +kernel
theorem dX9_noVertex_8 : decode cX9_noVertex 8 = .ok (.isub, 1) := by decide +kernel
theorem dX9_noVertex_9 : decode cX9_noVertex 9 = .ok (.i2l, 1) := by decide +kernel
theorem dX9_noVertex_10 : decode cX9_noVertex 10 = .ok (.invokestatic 57, 3) := by decide +kernel
theorem dX9_noVertex_13 : decode cX9_noVertex 13 = .ok (.ifCond .ne 7, 3) := by decide +kernel
theorem dX9_noVertex_16 : decode cX9_noVertex 16 = .ok (.iconst 1, 1) := by decide +kernel
theorem dX9_noVertex_17 : decode cX9_noVertex 17 = .ok (.goto 4, 3) := by decide +kernel
theorem dX9_noVertex_20 : decode cX9_noVertex 20 = .ok (.iconst 0, 1) := by decide +kernel
theorem dX9_noVertex_21 : decode cX9_noVertex 21 = .ok (.ireturn, 1) := by decide +kernel
set_option maxRecDepth 20000 in
theorem ggX9_noEdge_X9_in : GoodIn wsX9_noEdge wsX9_in := goodIn_r _ [5] (by decide +kernel) (by decide +kernel)
set_option maxRecDepth 20000 in
theorem gX9_noEdge_X9_in : GoodIn wsX9_noEdge (va_wsS RX9 57 yX9_in wsX9_in) := goodIn_app (goodIn_of _ (by decide +kernel)) ggX9_noEdge_X9_in
theorem dX9_noEdge_0 : decode cX9_noEdge 0 = .ok (.iload_n 1, 1) := by decide +kernel
theorem dX9_noEdge_1 : decode cX9_noEdge 1 = .ok (.i2l, 1) := by decide +kernel
theorem dX9_noEdge_2 : decode cX9_noEdge 2 = .ok (.lconst 0, 1) := by decide +kernel
theorem dX9_noEdge_3 : decode cX9_noEdge 3 = .ok (.aload_n 0, 1) := by decide +kernel
theorem dX9_noEdge_4 : decode cX9_noEdge 4 = .ok (.getfield 20, 3) := by decide +kernel
theorem dX9_noEdge_7 : decode cX9_noEdge 7 = .ok (.iconst 0, 1) := by decide +kernel
theorem dX9_noEdge_8 : decode cX9_noEdge 8 = .ok (.iaload, 1) := by decide +kernel
theorem dX9_noEdge_9 : decode cX9_noEdge 9 = .ok (.iconst 1, 1) := by decide +kernel
theorem dX9_noEdge_10 : decode cX9_noEdge 10 = .ok (.isub, 1) := by decide +kernel
theorem dX9_noEdge_11 : decode cX9_noEdge 11 = .ok (.i2l, 1) := by decide +kernel
theorem dX9_noEdge_12 : decode cX9_noEdge 12 = .ok (.invokestatic 57, 3) := by decide +kernel
theorem dX9_noEdge_15 : decode cX9_noEdge 15 = .ok (.ifCond .ne 7, 3) := by decide +kernel
theorem dX9_noEdge_18 : decode cX9_noEdge 18 = .ok (.iconst 1, 1) := by decide +kernel
theorem dX9_noEdge_19 : decode cX9_noEdge 19 = .ok (.goto 4, 3) := by decide +kernel
theorem dX9_noEdge_22 : decode cX9_noEdge 22 = .ok (.iconst 0, 1) := by decide +kernel
theorem dX9_noEdge_23 : decode cX9_noEdge 23 = .ok (.ireturn, 1) := by decide +kernel
theorem dX9_improve_0 : decode cX9_improve 0 = .ok (.iload_n 3, 1) := by decide +kernel
theorem dX9_improve_1 : decode cX9_improve 1 = .ok (.ldc 61, 2) := by decide +kernel
theorem dX9_improve_3 : decode cX9_improve 3 = .ok (.if_icmp .le 8, 3) := by decide +kernel
theorem dX9_improve_6 : decode cX9_improve 6 = .ok (.ldc 61, 2) := by decide +kernel
theorem dX9_improve_8 : decode cX9_improve 8 = .ok (.goto 4, 3) := by decide +kernel
theorem dX9_improve_11 : decode cX9_improve 11 = .ok (.iload_n 3, 1) := by decide +kernel
theorem dX9_improve_12 : decode cX9_improve 12 = .ok (.istore 4, 2) := by decide +kernel
theorem dX9_improve_14 : decode cX9_improve 14 = .ok (.iload 4, 2) := by decide +kernel
theorem dX9_improve_16 : decode cX9_improve 16 = .ok (.aload_n 0, 1) := by decide +kernel
theorem dX9_improve_17 : decode cX9_improve 17 = .ok (.getfield 45, 3) := by decide +kernel
theorem dX9_improve_20 : decode cX9_improve 20 = .ok (.bipush 8, 2) := by decide +kernel
theorem dX9_improve_22 : decode cX9_improve 22 = .ok (.iload_n 1, 1) := by decide +kernel
theorem dX9_improve_23 : decode cX9_improve 23 = .ok (.imul, 1) := by decide +kernel
theorem dX9_improve_24 : decode cX9_improve 24 = .ok (.iload_n 2, 1) := by decide +kernel
theorem dX9_improve_25 : decode cX9_improve 25 = .ok (.iadd, 1) := by decide +kernel
theorem dX9_improve_26 : decode cX9_improve 26 = .ok (.iaload, 1) := by decide +kernel
theorem dX9_improve_27 : decode cX9_improve 27 = .ok (.if_icmp .ge 7, 3) := by decide +kernel
theorem dX9_improve_30 : decode cX9_improve 30 = .ok (.iconst 1, 1) := by decide +kernel
theorem dX9_improve_31 : decode cX9_improve 31 = .ok (.goto 4, 3) := by decide +kernel
theorem dX9_improve_34 : decode cX9_improve 34 = .ok (.iconst 0, 1) := by decide +kernel
theorem dX9_improve_35 : decode cX9_improve 35 = .ok (.istore 5, 2) := by decide +kernel
theorem dX9_improve_37 : decode cX9_improve 37 = .ok (.aload_n 0, 1) := by decide +kernel
theorem dX9_improve_38 : decode cX9_improve 38 = .ok (.getfield 45, 3) := by decide +kernel
theorem dX9_improve_41 : decode cX9_improve 41 = .ok (.bipush 8, 2) := by decide +kernel
theorem dX9_improve_43 : decode cX9_improve 43 = .ok (.iload_n 1, 1) := by decide +kernel
theorem dX9_improve_44 : decode cX9_improve 44 = .ok (.imul, 1) := by decide +kernel
theorem dX9_improve_45 : decode cX9_improve 45 = .ok (.iload_n 2, 1) := by decide +kernel
theorem dX9_improve_46 : decode cX9_improve 46 = .ok (.iadd, 1) := by decide +kernel
theorem dX9_improve_47 : decode cX9_improve 47 = .ok (.iload 5, 2) := by decide +kernel
theorem dX9_improve_49 : decode cX9_improve 49 = .ok (.ifCond .eq 8, 3) := by decide +kernel
theorem dX9_improve_52 : decode cX9_improve 52 = .ok (.iload 4, 2) := by decide +kernel
theorem dX9_improve_54 : decode cX9_improve 54 = .ok (.goto 14, 3) := by decide +kernel
theorem dX9_improve_57 : decode cX9_improve 57 = .ok (.aload_n 0, 1) := by decide +kernel
theorem dX9_improve_58 : decode cX9_improve 58 = .ok (.getfield 45, 3) := by decide +kernel
theorem dX9_improve_61 : decode cX9_improve 61 = .ok (.bipush 8, 2) := by decide +kernel
theorem dX9_improve_63 : decode cX9_improve 63 = .ok (.iload_n 1, 1) := by decide +kernel
theorem dX9_improve_64 : decode cX9_improve 64 = .ok (.imul, 1) := by decide +kernel
theorem dX9_improve_65 : decode cX9_improve 65 = .ok (.iload_n 2, 1) := by decide +kernel
theorem dX9_improve_66 : decode cX9_improve 66 = .ok (.iadd, 1) := by decide +kernel
theorem dX9_improve_67 : decode cX9_improve 67 = .ok (.iaload, 1) := by decide +kernel
theorem dX9_improve_68 : decode cX9_improve 68 = .ok (.iastore, 1) := by decide +kernel
theorem dX9_improve_69 : decode cX9_improve 69 = .ok (.iload 5, 2) := by decide +kernel
theorem dX9_improve_71 : decode cX9_improve 71 = .ok (.ireturn, 1) := by decide +kernel
set_option maxRecDepth 20000 in
theorem ggX9_close_X9_improve : GoodIn wsX9_close wsX9_improve := goodIn_r _ [9, 10, 1, 14, 15, 16, 17, 18, 19, 20, 21, 22, 23, 24, 25, 26, 27, 28, 29, 30, 31, 32, 33, 34] (by decide +kernel) (by decide +kernel)
set_option maxRecDepth 20000 in
theorem gX9_close_X9_improve : GoodIn wsX9_close (wsV RX9 63 RX9 yX9_improve wsX9_improve) := goodIn_app (goodIn_of _ (by decide +kernel)) ggX9_close_X9_improve
set_option maxRecDepth 20000 in
theorem ggX9_close_X9_in : GoodIn wsX9_close wsX9_in := goodIn_r _ [13] (by decide +kernel) (by decide +kernel)
set_option maxRecDepth 20000 in
theorem gX9_close_X9_in : GoodIn wsX9_close (va_wsS RX9 57 yX9_in wsX9_in) := goodIn_app (goodIn_of _ (by decide +kernel)) ggX9_close_X9_in
theorem dX9_close_0 : decode cX9_close 0 = .ok (.iconst 0, 1) := by decide +kernel
theorem dX9_close_1 : decode cX9_close 1 = .ok (.istore_n 2, 1) := by decide +kernel
theorem dX9_close_2 : decode cX9_close 2 = .ok (.iload_n 2, 1) := by decide +kernel
theorem dX9_close_3 : decode cX9_close 3 = .ok (.bipush 64, 2) := by decide +kernel
theorem dX9_close_5 : decode cX9_close 5 = .ok (.if_icmp .ge 32, 3) := by decide +kernel
theorem dX9_close_8 : decode cX9_close 8 = .ok (.aload_n 0, 1) := by decide +kernel
theorem dX9_close_9 : decode cX9_close 9 = .ok (.getfield 45, 3) := by decide +kernel
theorem dX9_close_12 : decode cX9_close 12 = .ok (.iload_n 2, 1) := by decide +kernel
theorem dX9_close_13 : decode cX9_close 13 = .ok (.iload_n 2, 1) := by decide +kernel
theorem dX9_close_14 : decode cX9_close 14 = .ok (.bipush 8, 2) := by decide +kernel
theorem dX9_close_16 : decode cX9_close 16 = .ok (.idiv, 1) := by decide +kernel
theorem dX9_close_17 : decode cX9_close 17 = .ok (.iload_n 2, 1) := by decide +kernel
theorem dX9_close_18 : decode cX9_close 18 = .ok (.bipush 8, 2) := by decide +kernel
theorem dX9_close_20 : decode cX9_close 20 = .ok (.irem, 1) := by decide +kernel
theorem dX9_close_21 : decode cX9_close 21 = .ok (.if_icmp .ne 7, 3) := by decide +kernel
theorem dX9_close_24 : decode cX9_close 24 = .ok (.iconst 0, 1) := by decide +kernel
theorem dX9_close_25 : decode cX9_close 25 = .ok (.goto 5, 3) := by decide +kernel
theorem dX9_close_28 : decode cX9_close 28 = .ok (.ldc 62, 2) := by decide +kernel
theorem dX9_close_30 : decode cX9_close 30 = .ok (.iastore, 1) := by decide +kernel
theorem dX9_close_31 : decode cX9_close 31 = .ok (.iinc 2 1, 3) := by decide +kernel
theorem dX9_close_34 : decode cX9_close 34 = .ok (.goto (-32), 3) := by decide +kernel
theorem dX9_close_37 : decode cX9_close 37 = .ok (.iconst 1, 1) := by decide +kernel
theorem dX9_close_38 : decode cX9_close 38 = .ok (.istore_n 2, 1) := by decide +kernel
theorem dX9_close_39 : decode cX9_close 39 = .ok (.iload_n 2, 1) := by decide +kernel
theorem dX9_close_40 : decode cX9_close 40 = .ok (.ifCond .eq 276, 3) := by decide +kernel
theorem dX9_close_43 : decode cX9_close 43 = .ok (.iconst 0, 1) := by decide +kernel
theorem dX9_close_44 : decode cX9_close 44 = .ok (.istore_n 2, 1) := by decide +kernel
theorem dX9_close_45 : decode cX9_close 45 = .ok (.iconst 0, 1) := by decide +kernel
theorem dX9_close_46 : decode cX9_close 46 = .ok (.istore_n 3, 1) := by decide +kernel
theorem dX9_close_47 : decode cX9_close 47 = .ok (.iload_n 3, 1) := by decide +kernel
theorem dX9_close_48 : decode cX9_close 48 = .ok (.iload_n 1, 1) := by decide +kernel
theorem dX9_close_49 : decode cX9_close 49 = .ok (.if_icmp .ge 169, 3) := by decide +kernel
theorem dX9_close_52 : decode cX9_close 52 = .ok (.aload_n 0, 1) := by decide +kernel
theorem dX9_close_53 : decode cX9_close 53 = .ok (.getfield 51, 3) := by decide +kernel
theorem dX9_close_56 : decode cX9_close 56 = .ok (.iconst 3, 1) := by decide +kernel
theorem dX9_close_57 : decode cX9_close 57 = .ok (.iload_n 3, 1) := by decide +kernel
theorem dX9_close_58 : decode cX9_close 58 = .ok (.imul, 1) := by decide +kernel
theorem dX9_close_59 : decode cX9_close 59 = .ok (.iconst 2, 1) := by decide +kernel
theorem dX9_close_60 : decode cX9_close 60 = .ok (.iadd, 1) := by decide +kernel
theorem dX9_close_61 : decode cX9_close 61 = .ok (.iaload, 1) := by decide +kernel
theorem dX9_close_62 : decode cX9_close 62 = .ok (.istore 4, 2) := by decide +kernel
theorem dX9_close_64 : decode cX9_close 64 = .ok (.iload 4, 2) := by decide +kernel
theorem dX9_close_66 : decode cX9_close 66 = .ok (.ifCond .ne 31, 3) := by decide +kernel
theorem dX9_close_69 : decode cX9_close 69 = .ok (.aload_n 0, 1) := by decide +kernel
theorem dX9_close_70 : decode cX9_close 70 = .ok (.aload_n 0, 1) := by decide +kernel
theorem dX9_close_71 : decode cX9_close 71 = .ok (.getfield 51, 3) := by decide +kernel
theorem dX9_close_74 : decode cX9_close 74 = .ok (.iconst 3, 1) := by decide +kernel
theorem dX9_close_75 : decode cX9_close 75 = .ok (.iload_n 3, 1) := by decide +kernel
theorem dX9_close_76 : decode cX9_close 76 = .ok (.imul, 1) := by decide +kernel
theorem dX9_close_77 : decode cX9_close 77 = .ok (.iaload, 1) := by decide +kernel
theorem dX9_close_78 : decode cX9_close 78 = .ok (.aload_n 0, 1) := by decide +kernel
theorem dX9_close_79 : decode cX9_close 79 = .ok (.getfield 51, 3) := by decide +kernel
theorem dX9_close_82 : decode cX9_close 82 = .ok (.iconst 3, 1) := by decide +kernel
theorem dX9_close_83 : decode cX9_close 83 = .ok (.iload_n 3, 1) := by decide +kernel
theorem dX9_close_84 : decode cX9_close 84 = .ok (.imul, 1) := by decide +kernel
theorem dX9_close_85 : decode cX9_close 85 = .ok (.iconst 1, 1) := by decide +kernel
theorem dX9_close_86 : decode cX9_close 86 = .ok (.iadd, 1) := by decide +kernel
theorem dX9_close_87 : decode cX9_close 87 = .ok (.iaload, 1) := by decide +kernel
theorem dX9_close_88 : decode cX9_close 88 = .ok (.iconst 1, 1) := by decide +kernel
theorem dX9_close_89 : decode cX9_close 89 = .ok (.invokevirtual 63, 3) := by decide +kernel
theorem dX9_close_92 : decode cX9_close 92 = .ok (.ifCond .eq 5, 3) := by decide +kernel
theorem dX9_close_95 : decode cX9_close 95 = .ok (.iconst 1, 1) := by decide +kernel
theorem dX9_close_96 : decode cX9_close 96 = .ok (.istore_n 2, 1) := by decide +kernel
theorem dX9_close_97 : decode cX9_close 97 = .ok (.iconst 0, 1) := by decide +kernel
theorem dX9_close_98 : decode cX9_close 98 = .ok (.istore 5, 2) := by decide +kernel
theorem dX9_close_100 : decode cX9_close 100 = .ok (.iload 5, 2) := by decide +kernel
theorem dX9_close_102 : decode cX9_close 102 = .ok (.iload_n 1, 1) := by decide +kernel
theorem dX9_close_103 : decode cX9_close 103 = .ok (.if_icmp .ge 109, 3) := by decide +kernel
theorem dX9_close_106 : decode cX9_close 106 = .ok (.iload 4, 2) := by decide +kernel
theorem dX9_close_108 : decode cX9_close 108 = .ok (.i2l, 1) := by decide +kernel
theorem dX9_close_109 : decode cX9_close 109 = .ok (.lconst 1, 1) := by decide +kernel
theorem dX9_close_110 : decode cX9_close 110 = .ok (.ldc2_w 67, 3) := by decide +kernel
theorem dX9_close_113 : decode cX9_close 113 = .ok (.invokestatic 57, 3) := by decide +kernel
theorem dX9_close_116 : decode cX9_close 116 = .ok (.ifCond .eq 96, 3) := by decide +kernel
theorem dX9_close_119 : decode cX9_close 119 = .ok (.aload_n 0, 1) := by decide +kernel
theorem dX9_close_120 : decode cX9_close 120 = .ok (.getfield 45, 3) := by decide +kernel
theorem dX9_close_123 : decode cX9_close 123 = .ok (.bipush 8, 2) := by decide +kernel
theorem dX9_close_125 : decode cX9_close 125 = .ok (.aload_n 0, 1) := by decide +kernel
theorem dX9_close_126 : decode cX9_close 126 = .ok (.getfield 51, 3) := by decide +kernel
theorem dX9_close_129 : decode cX9_close 129 = .ok (.iconst 3, 1) := by decide +kernel
theorem dX9_close_130 : decode cX9_close 130 = .ok (.iload_n 3, 1) := by decide +kernel
theorem dX9_close_131 : decode cX9_close 131 = .ok (.imul, 1) := by decide +kernel
theorem dX9_close_132 : decode cX9_close 132 = .ok (.iconst 1, 1) := by decide +kernel
theorem dX9_close_133 : decode cX9_close 133 = .ok (.iadd, 1) := by decide +kernel
theorem dX9_close_134 : decode cX9_close 134 = .ok (.iaload, 1) := by decide +kernel
theorem dX9_close_135 : decode cX9_close 135 = .ok (.imul, 1) := by decide +kernel
theorem dX9_close_136 : decode cX9_close 136 = .ok (.aload_n 0, 1) := by decide +kernel
theorem dX9_close_137 : decode cX9_close 137 = .ok (.getfield 51, 3) := by decide +kernel
theorem dX9_close_140 : decode cX9_close 140 = .ok (.iconst 3, 1) := by decide +kernel
theorem dX9_close_141 : decode cX9_close 141 = .ok (.iload 5, 2) := by decide +kernel
theorem dX9_close_143 : decode cX9_close 143 = .ok (.imul, 1) := by decide +kernel
theorem dX9_close_144 : decode cX9_close 144 = .ok (.iaload, 1) := by decide +kernel
theorem dX9_close_145 : decode cX9_close 145 = .ok (.iadd, 1) := by decide +kernel
theorem dX9_close_146 : decode cX9_close 146 = .ok (.iaload, 1) := by decide +kernel
theorem dX9_close_147 : decode cX9_close 147 = .ok (.istore 6, 2) := by decide +kernel
theorem dX9_close_149 : decode cX9_close 149 = .ok (.aload_n 0, 1) := by decide +kernel
theorem dX9_close_150 : decode cX9_close 150 = .ok (.getfield 51, 3) := by decide +kernel
theorem dX9_close_153 : decode cX9_close 153 = .ok (.iconst 3, 1) := by decide +kernel
theorem dX9_close_154 : decode cX9_close 154 = .ok (.iload 5, 2) := by decide +kernel
theorem dX9_close_156 : decode cX9_close 156 = .ok (.imul, 1) := by decide +kernel
theorem dX9_close_157 : decode cX9_close 157 = .ok (.iconst 2, 1) := by decide +kernel
theorem dX9_close_158 : decode cX9_close 158 = .ok (.iadd, 1) := by decide +kernel
theorem dX9_close_159 : decode cX9_close 159 = .ok (.iaload, 1) := by decide +kernel
theorem dX9_close_160 : decode cX9_close 160 = .ok (.iload 4, 2) := by decide +kernel
theorem dX9_close_162 : decode cX9_close 162 = .ok (.iconst 3, 1) := by decide +kernel
theorem dX9_close_163 : decode cX9_close 163 = .ok (.iadd, 1) := by decide +kernel
theorem dX9_close_164 : decode cX9_close 164 = .ok (.if_icmp .ne 42, 3) := by decide +kernel
theorem dX9_close_167 : decode cX9_close 167 = .ok (.iload 6, 2) := by decide +kernel
theorem dX9_close_169 : decode cX9_close 169 = .ok (.ldc 62, 2) := by decide +kernel
theorem dX9_close_171 : decode cX9_close 171 = .ok (.if_icmp .ge 35, 3) := by decide +kernel
theorem dX9_close_174 : decode cX9_close 174 = .ok (.aload_n 0, 1) := by decide +kernel
theorem dX9_close_175 : decode cX9_close 175 = .ok (.aload_n 0, 1) := by decide +kernel
theorem dX9_close_176 : decode cX9_close 176 = .ok (.getfield 51, 3) := by decide +kernel
theorem dX9_close_179 : decode cX9_close 179 = .ok (.iconst 3, 1) := by decide +kernel
theorem dX9_close_180 : decode cX9_close 180 = .ok (.iload_n 3, 1) := by decide +kernel
theorem dX9_close_181 : decode cX9_close 181 = .ok (.imul, 1) := by decide +kernel
theorem dX9_close_182 : decode cX9_close 182 = .ok (.iaload, 1) := by decide +kernel
theorem dX9_close_183 : decode cX9_close 183 = .ok (.aload_n 0, 1) := by decide +kernel
theorem dX9_close_184 : decode cX9_close 184 = .ok (.getfield 51, 3) := by decide +kernel
theorem dX9_close_187 : decode cX9_close 187 = .ok (.iconst 3, 1) := by decide +kernel
theorem dX9_close_188 : decode cX9_close 188 = .ok (.iload 5, 2) := by decide +kernel
theorem dX9_close_190 : decode cX9_close 190 = .ok (.imul, 1) := by decide +kernel
