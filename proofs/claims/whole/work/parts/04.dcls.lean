theorem dX0_init_0 : decode cX0_init 0 = .ok (.aload_n 0, 1) := by decide +kernel
theorem dX0_init_1 : decode cX0_init 1 = .ok (.invokespecial 1, 3) := by decide +kernel
theorem dX0_init_4 : decode cX0_init 4 = .ok (.aload_n 0, 1) := by decide +kernel
theorem dX0_init_5 : decode cX0_init 5 = .ok (.iload_n 1, 1) := by decide +kernel
theorem dX0_init_6 : decode cX0_init 6 = .ok (.putfield 7, 3) := by decide +kernel
theorem dX0_init_9 : decode cX0_init 9 = .ok (.aload_n 0, 1) := by decide +kernel
theorem dX0_init_10 : decode cX0_init 10 = .ok (.iload_n 2, 1) := by decide +kernel
theorem dX0_init_11 : decode cX0_init 11 = .ok (.putfield 13, 3) := by decide +kernel
theorem dX0_init_14 : decode cX0_init 14 = .ok (.aload_n 0, 1) := by decide +kernel
theorem dX0_init_15 : decode cX0_init 15 = .ok (.aload_n 3, 1) := by decide +kernel
theorem dX0_init_16 : decode cX0_init 16 = .ok (.putfield 17, 3) := by decide +kernel
theorem dX0_init_19 : decode cX0_init 19 = .ok (.return_, 1) := by decide +kernel
theorem dX1_init_0 : decode cX1_init 0 = .ok (.aload_n 0, 1) := by decide +kernel
theorem dX1_init_1 : decode cX1_init 1 = .ok (.invokespecial 3, 3) := by decide +kernel
theorem dX1_init_4 : decode cX1_init 4 = .ok (.aload_n 0, 1) := by decide +kernel
theorem dX1_init_5 : decode cX1_init 5 = .ok (.iload_n 1, 1) := by decide +kernel
theorem dX1_init_6 : decode cX1_init 6 = .ok (.putfield 9, 3) := by decide +kernel
theorem dX1_init_9 : decode cX1_init 9 = .ok (.aload_n 0, 1) := by decide +kernel
theorem dX1_init_10 : decode cX1_init 10 = .ok (.iload_n 2, 1) := by decide +kernel
theorem dX1_init_11 : decode cX1_init 11 = .ok (.putfield 15, 3) := by decide +kernel
theorem dX1_init_14 : decode cX1_init 14 = .ok (.aload_n 0, 1) := by decide +kernel
theorem dX1_init_15 : decode cX1_init 15 = .ok (.iload_n 3, 1) := by decide +kernel
theorem dX1_init_16 : decode cX1_init 16 = .ok (.putfield 19, 3) := by decide +kernel
theorem dX1_init_19 : decode cX1_init 19 = .ok (.aload_n 0, 1) := by decide +kernel
theorem dX1_init_20 : decode cX1_init 20 = .ok (.iconst 4, 1) := by decide +kernel
theorem dX1_init_21 : decode cX1_init 21 = .ok (.newarray .boolean, 2) := by decide +kernel
theorem dX1_init_23 : decode cX1_init 23 = .ok (.putfield 22, 3) := by decide +kernel
theorem dX1_init_26 : decode cX1_init 26 = .ok (.aload_n 0, 1) := by decide +kernel
theorem dX1_init_27 : decode cX1_init 27 = .ok (.iconst 0, 1) := by decide +kernel
theorem dX1_init_28 : decode cX1_init 28 = .ok (.putfield 26, 3) := by decide +kernel
theorem dX1_init_31 : decode cX1_init 31 = .ok (.return_, 1) := by decide +kernel
theorem dX1_hasEnded_0 : decode cX1_hasEnded 0 = .ok (.aload_n 0, 1) := by decide +kernel
theorem dX1_hasEnded_1 : decode cX1_hasEnded 1 = .ok (.getfield 26, 3) := by decide +kernel
theorem dX1_hasEnded_4 : decode cX1_hasEnded 4 = .ok (.iconst 3, 1) := by decide +kernel
theorem dX1_hasEnded_5 : decode cX1_hasEnded 5 = .ok (.if_icmp .eq 11, 3) := by decide +kernel
theorem dX1_hasEnded_8 : decode cX1_hasEnded 8 = .ok (.aload_n 0, 1) := by decide +kernel
theorem dX1_hasEnded_9 : decode cX1_hasEnded 9 = .ok (.getfield 26, 3) := by decide +kernel
theorem dX1_hasEnded_12 : decode cX1_hasEnded 12 = .ok (.iconst 4, 1) := by decide +kernel
theorem dX1_hasEnded_13 : decode cX1_hasEnded 13 = .ok (.if_icmp .ne 7, 3) := by decide +kernel
theorem dX1_hasEnded_16 : decode cX1_hasEnded 16 = .ok (.iconst 1, 1) := by decide +kernel
theorem dX1_hasEnded_17 : decode cX1_hasEnded 17 = .ok (.goto 4, 3) := by decide +kernel
theorem dX1_hasEnded_20 : decode cX1_hasEnded 20 = .ok (.iconst 0, 1) := by decide +kernel
theorem dX1_hasEnded_21 : decode cX1_hasEnded 21 = .ok (.ireturn, 1) := by decide +kernel
theorem dX2_init_0 : decode cX2_init 0 = .ok (.aload_n 0, 1) := by decide +kernel
theorem dX2_init_1 : decode cX2_init 1 = .ok (.invokespecial 3, 3) := by decide +kernel
theorem dX2_init_4 : decode cX2_init 4 = .ok (.aload_n 0, 1) := by decide +kernel
theorem dX2_init_5 : decode cX2_init 5 = .ok (.bipush 60, 2) := by decide +kernel
theorem dX2_init_7 : decode cX2_init 7 = .ok (.anewarray 9, 3) := by decide +kernel
theorem dX2_init_10 : decode cX2_init 10 = .ok (.putfield 11, 3) := by decide +kernel
theorem dX2_init_13 : decode cX2_init 13 = .ok (.aload_n 0, 1) := by decide +kernel
theorem dX2_init_14 : decode cX2_init 14 = .ok (.sipush 200, 3) := by decide +kernel
theorem dX2_init_17 : decode cX2_init 17 = .ok (.anewarray 15, 3) := by decide +kernel
theorem dX2_init_20 : decode cX2_init 20 = .ok (.putfield 17, 3) := by decide +kernel
theorem dX2_init_23 : decode cX2_init 23 = .ok (.aload_n 0, 1) := by decide +kernel
theorem dX2_init_24 : decode cX2_init 24 = .ok (.bipush 61, 2) := by decide +kernel
theorem dX2_init_26 : decode cX2_init 26 = .ok (.newarray .int, 2) := by decide +kernel
theorem dX2_init_28 : decode cX2_init 28 = .ok (.putfield 21, 3) := by decide +kernel
theorem dX2_init_31 : decode cX2_init 31 = .ok (.aload_n 0, 1) := by decide +kernel
theorem dX2_init_32 : decode cX2_init 32 = .ok (.sipush 200, 3) := by decide +kernel
theorem dX2_init_35 : decode cX2_init 35 = .ok (.anewarray 9, 3) := by decide +kernel
theorem dX2_init_38 : decode cX2_init 38 = .ok (.putfield 25, 3) := by decide +kernel
theorem dX2_init_41 : decode cX2_init 41 = .ok (.aload_n 0, 1) := by decide +kernel
theorem dX2_init_42 : decode cX2_init 42 = .ok (.sipush 200, 3) := by decide +kernel
theorem dX2_init_45 : decode cX2_init 45 = .ok (.newarray .boolean, 2) := by decide +kernel
theorem dX2_init_47 : decode cX2_init 47 = .ok (.putfield 28, 3) := by decide +kernel
theorem dX2_init_50 : decode cX2_init 50 = .ok (.aload_n 0, 1) := by decide +kernel
theorem dX2_init_51 : decode cX2_init 51 = .ok (.sipush 200, 3) := by decide +kernel
theorem dX2_init_54 : decode cX2_init 54 = .ok (.newarray .int, 2) := by decide +kernel
theorem dX2_init_56 : decode cX2_init 56 = .ok (.putfield 32, 3) := by decide +kernel
theorem dX2_init_59 : decode cX2_init 59 = .ok (.aload_n 0, 1) := by decide +kernel
theorem dX2_init_60 : decode cX2_init 60 = .ok (.iconst 4, 1) := by decide +kernel
theorem dX2_init_61 : decode cX2_init 61 = .ok (.newarray .int, 2) := by decide +kernel
theorem dX2_init_63 : decode cX2_init 63 = .ok (.putfield 35, 3) := by decide +kernel
theorem dX2_init_66 : decode cX2_init 66 = .ok (.aload_n 0, 1) := by decide +kernel
theorem dX2_init_67 : decode cX2_init 67 = .ok (.bipush 60, 2) := by decide +kernel
theorem dX2_init_69 : decode cX2_init 69 = .ok (.newarray .int, 2) := by decide +kernel
theorem dX2_init_71 : decode cX2_init 71 = .ok (.putfield 38, 3) := by decide +kernel
theorem dX2_init_74 : decode cX2_init 74 = .ok (.return_, 1) := by decide +kernel
set_option maxRecDepth 20000 in
theorem ggX2_begin_X2_enter : GoodIn wsX2_begin wsX2_enter := goodIn_ca (goodIn_r _ [6, 7, 8, 9, 10, 11, 12, 13, 14, 15, 16, 17, 18, 19, 20, 21, 22, 23, 24, 25, 26, 27, 28, 29, 30, 31, 32, 33, 34, 35, 36, 37, 38, 39, 40, 41, 42, 43, 44, 45, 46, 47, 48, 49, 50, 51] (by decide +kernel) (by decide +kernel)) (goodIn_sub (fun _ h => List.mem_cons_of_mem _ (List.mem_append_right _ h)) (by decide +kernel))
set_option maxRecDepth 20000 in
theorem gX2_begin_X2_enter : GoodIn wsX2_begin (wsV RX2 45 RX2 yX2_enter wsX2_enter) := goodIn_app (goodIn_of _ (by decide +kernel)) ggX2_begin_X2_enter
theorem dX2_begin_0 : decode cX2_begin 0 = .ok (.aload_n 0, 1) := by decide +kernel
theorem dX2_begin_1 : decode cX2_begin 1 = .ok (.iconst 1, 1) := by decide +kernel
theorem dX2_begin_2 : decode cX2_begin 2 = .ok (.aload_n 0, 1) := by decide +kernel
theorem dX2_begin_3 : decode cX2_begin 3 = .ok (.getfield 41, 3) := by decide +kernel
theorem dX2_begin_6 : decode cX2_begin 6 = .ok (.invokevirtual 45, 3) := by decide +kernel
theorem dX2_begin_9 : decode cX2_begin 9 = .ok (.ireturn, 1) := by decide +kernel
set_option maxRecDepth 20000 in
theorem ggX2_look_X2_requireVersion : GoodIn wsX2_look wsX2_requireVersion := goodIn_ca (goodIn_r _ [5, 6, 7, 8, 9, 10, 11, 4, 12, 13, 14, 15, 16, 17, 18, 19, 20, 21, 22, 23, 24, 25, 26, 46, 47, 48, 49, 50, 51, 52, 53, 54, 55, 56, 57, 58, 59, 60, 61, 62, 63, 64, 65, 66, 67, 68, 69, 70, 71] (by decide +kernel) (by decide +kernel)) (goodIn_sub (fun _ h => List.mem_cons_of_mem _ (List.mem_append_left _ (List.mem_append_right _ h))) (by decide +kernel))
set_option maxRecDepth 20000 in
theorem gX2_look_X2_requireVersion : GoodIn wsX2_look (wsV RX2 49 RX2 yX2_requireVersion wsX2_requireVersion) := goodIn_app (goodIn_of _ (by decide +kernel)) ggX2_look_X2_requireVersion
set_option maxRecDepth 20000 in
theorem ggX2_look_X2_enter : GoodIn wsX2_look wsX2_enter := goodIn_ca (goodIn_r _ [30, 31, 32, 13, 14, 33, 34, 24, 35, 36, 37, 38, 39, 40, 41, 42, 43, 44, 45, 26, 46, 47, 48, 49, 50, 51, 52, 53, 54, 55, 56, 57, 58, 59, 60, 61, 62, 63, 64, 65, 66, 67, 68, 69, 70, 71] (by decide +kernel) (by decide +kernel)) (goodIn_sub (fun _ h => List.mem_cons_of_mem _ (List.mem_append_right _ h)) (by decide +kernel))
set_option maxRecDepth 20000 in
theorem gX2_look_X2_enter : GoodIn wsX2_look (wsV RX2 45 RX2 yX2_enter wsX2_enter) := goodIn_app (goodIn_of _ (by decide +kernel)) ggX2_look_X2_enter
theorem dX2_look_0 : decode cX2_look 0 = .ok (.aload_n 0, 1) := by decide +kernel
theorem dX2_look_1 : decode cX2_look 1 = .ok (.iload_n 1, 1) := by decide +kernel
theorem dX2_look_2 : decode cX2_look 2 = .ok (.invokevirtual 49, 3) := by decide +kernel
theorem dX2_look_5 : decode cX2_look 5 = .ok (.aload_n 0, 1) := by decide +kernel
theorem dX2_look_6 : decode cX2_look 6 = .ok (.iconst 0, 1) := by decide +kernel
theorem dX2_look_7 : decode cX2_look 7 = .ok (.iload_n 1, 1) := by decide +kernel
theorem dX2_look_8 : decode cX2_look 8 = .ok (.invokevirtual 45, 3) := by decide +kernel
theorem dX2_look_11 : decode cX2_look 11 = .ok (.ireturn, 1) := by decide +kernel
set_option maxRecDepth 20000 in
theorem ggX2_put_X2_known : GoodIn wsX2_put wsX2_known := goodIn_ca (goodIn_r _ [5, 6, 7, 8, 9, 84, 85, 86, 87, 88, 89, 90, 91, 92, 93, 94, 95, 96, 97, 98] (by decide +kernel) (by decide +kernel)) (goodIn_sub (fun _ h => List.mem_cons_of_mem _ (List.mem_append_left _ (List.mem_append_right _ h))) (by decide +kernel))
set_option maxRecDepth 20000 in
theorem gX2_put_X2_known : GoodIn wsX2_put (wsV RX2 53 RX2 yX2_known wsX2_known) := goodIn_app (goodIn_of _ (by decide +kernel)) ggX2_put_X2_known
set_option maxRecDepth 20000 in
theorem ggX2_put_X2_requireTriple : GoodIn wsX2_put wsX2_requireTriple := goodIn_ca (goodIn_r _ [12, 6, 7] (by decide +kernel) (by decide +kernel)) (goodIn_sub (fun _ h => List.mem_cons_of_mem _ (List.mem_append_left _ (List.mem_append_right _ h))) (by decide +kernel))
set_option maxRecDepth 20000 in
theorem gX2_put_X2_requireTriple : GoodIn wsX2_put (va_wsS RX2 57 yX2_requireTriple wsX2_requireTriple) := goodIn_app (goodIn_of _ (by decide +kernel)) ggX2_put_X2_requireTriple
set_option maxRecDepth 20000 in
theorem ggX2_put_X2_requireOpenWriter : GoodIn wsX2_put wsX2_requireOpenWriter := goodIn_ca (goodIn_r _ [15, 16, 17, 18, 19, 99, 100, 101, 102, 103, 104, 105, 106, 107, 108, 109] (by decide +kernel) (by decide +kernel)) (goodIn_sub (fun _ h => List.mem_cons_of_mem _ (List.mem_append_right _ h)) (by decide +kernel))
set_option maxRecDepth 20000 in
theorem gX2_put_X2_requireOpenWriter : GoodIn wsX2_put (va_wsS RX2 60 yX2_requireOpenWriter wsX2_requireOpenWriter) := goodIn_app (goodIn_of _ (by decide +kernel)) ggX2_put_X2_requireOpenWriter
set_option maxRecDepth 20000 in
theorem ggX2_put_X2_tryWrite : GoodIn wsX2_put wsX2_tryWrite := goodIn_r _ [23, 19, 24, 25, 26, 27, 28, 29, 30, 31, 4, 32, 33, 34, 35, 36, 37, 38, 39, 40, 41, 42, 9, 43, 44, 45, 46, 47, 48, 49, 50, 51, 52, 53, 54, 55, 56, 57, 58, 59, 60, 61, 62, 63, 64, 65, 66, 67, 68, 69, 8, 70, 71, 72, 73, 74, 75, 76, 99, 100, 101, 102, 103, 104, 105, 106, 107, 108, 109, 84, 85, 86, 87, 88, 89, 90, 91, 92, 93, 94, 95, 96, 97, 98, 110, 111, 112] (by decide +kernel) (by decide +kernel)
set_option maxRecDepth 20000 in
theorem gX2_put_X2_tryWrite : GoodIn wsX2_put (wsV RX2 64 RX2 yX2_tryWrite wsX2_tryWrite) := goodIn_app (goodIn_of _ (by decide +kernel)) ggX2_put_X2_tryWrite
set_option maxRecDepth 20000 in
theorem ggX2_put_X2_retryQueued : GoodIn wsX2_put wsX2_retryQueued := goodIn_r _ [80, 76, 74, 75, 19, 40, 41, 20, 21, 22, 4, 23, 24, 25, 26, 27, 28, 29, 30, 31, 32, 33, 34, 35, 36, 37, 38, 39, 42, 9, 43, 44, 45, 46, 47, 48, 49, 50, 51, 52, 53, 54, 55, 56, 57, 58, 59, 60, 61, 62, 63, 64, 65, 66, 67, 68, 69, 8, 70, 71, 72, 73, 84, 85, 86, 87, 88, 89, 90, 91, 92, 93, 94, 95, 96, 97, 98, 99, 100, 101, 102, 103, 104, 105, 106, 107, 108, 109, 110, 111, 112] (by decide +kernel) (by decide +kernel)
set_option maxRecDepth 20000 in
theorem gX2_put_X2_retryQueued : GoodIn wsX2_put (wsV RX2 68 RX2 yX2_retryQueued wsX2_retryQueued) := goodIn_app (goodIn_of _ (by decide +kernel)) ggX2_put_X2_retryQueued
set_option maxRecDepth 20000 in
theorem ggX2_put_X2_outcomeOfWrite : GoodIn wsX2_put wsX2_outcomeOfWrite := goodIn_r _ [83, 19, 99, 100, 101, 102, 103, 104, 105, 106, 107, 108, 109] (by decide +kernel) (by decide +kernel)
set_option maxRecDepth 20000 in
theorem gX2_put_X2_outcomeOfWrite : GoodIn wsX2_put (va_wsS RX2 71 yX2_outcomeOfWrite wsX2_outcomeOfWrite) := goodIn_app (goodIn_of _ (by decide +kernel)) ggX2_put_X2_outcomeOfWrite
theorem dX2_put_0 : decode cX2_put 0 = .ok (.aload_n 0, 1) := by decide +kernel
theorem dX2_put_1 : decode cX2_put 1 = .ok (.iload_n 1, 1) := by decide +kernel
theorem dX2_put_2 : decode cX2_put 2 = .ok (.invokevirtual 53, 3) := by decide +kernel
theorem dX2_put_5 : decode cX2_put 5 = .ok (.astore 4, 2) := by decide +kernel
theorem dX2_put_7 : decode cX2_put 7 = .ok (.iload_n 2, 1) := by decide +kernel
theorem dX2_put_8 : decode cX2_put 8 = .ok (.invokestatic 57, 3) := by decide +kernel
theorem dX2_put_11 : decode cX2_put 11 = .ok (.aload 4, 2) := by decide +kernel
theorem dX2_put_13 : decode cX2_put 13 = .ok (.invokestatic 60, 3) := by decide +kernel
theorem dX2_put_16 : decode cX2_put 16 = .ok (.aload_n 0, 1) := by decide +kernel
theorem dX2_put_17 : decode cX2_put 17 = .ok (.aload 4, 2) := by decide +kernel
theorem dX2_put_19 : decode cX2_put 19 = .ok (.iload_n 2, 1) := by decide +kernel
theorem dX2_put_20 : decode cX2_put 20 = .ok (.iload_n 3, 1) := by decide +kernel
theorem dX2_put_21 : decode cX2_put 21 = .ok (.invokevirtual 64, 3) := by decide +kernel
theorem dX2_put_24 : decode cX2_put 24 = .ok (.aload_n 0, 1) := by decide +kernel
theorem dX2_put_25 : decode cX2_put 25 = .ok (.invokevirtual 68, 3) := by decide +kernel
theorem dX2_put_28 : decode cX2_put 28 = .ok (.aload 4, 2) := by decide +kernel
theorem dX2_put_30 : decode cX2_put 30 = .ok (.invokestatic 71, 3) := by decide +kernel
theorem dX2_put_33 : decode cX2_put 33 = .ok (.ireturn, 1) := by decide +kernel
set_option maxRecDepth 20000 in
theorem ggX2_note_X2_known : GoodIn wsX2_note wsX2_known := goodIn_ca (goodIn_r _ [7, 8, 9, 10, 11, 33, 34, 35, 36, 37, 38, 39, 40, 41, 42, 43, 44, 45, 46, 47] (by decide +kernel) (by decide +kernel)) (goodIn_sub (fun _ h => List.mem_cons_of_mem _ (List.mem_append_left _ (List.mem_append_right _ h))) (by decide +kernel))
set_option maxRecDepth 20000 in
theorem gX2_note_X2_known : GoodIn wsX2_note (wsV RX2 53 RX2 yX2_known wsX2_known) := goodIn_app (goodIn_of _ (by decide +kernel)) ggX2_note_X2_known
set_option maxRecDepth 20000 in
theorem ggX2_note_X2_requireGraph : GoodIn wsX2_note wsX2_requireGraph := goodIn_ca (goodIn_r _ [14, 8, 9] (by decide +kernel) (by decide +kernel)) (goodIn_sub (fun _ h => List.mem_cons_of_mem _ (List.mem_append_left _ (List.mem_append_right _ h))) (by decide +kernel))
set_option maxRecDepth 20000 in
theorem gX2_note_X2_requireGraph : GoodIn wsX2_note (va_wsS RX2 75 yX2_requireGraph wsX2_requireGraph) := goodIn_app (goodIn_of _ (by decide +kernel)) ggX2_note_X2_requireGraph
set_option maxRecDepth 20000 in
theorem ggX2_note_X2_requireOpenWriter : GoodIn wsX2_note wsX2_requireOpenWriter := goodIn_ca (goodIn_r _ [17, 18, 19, 20, 21, 22, 23, 24, 25, 26, 27, 28, 29, 30, 31, 32] (by decide +kernel) (by decide +kernel)) (goodIn_sub (fun _ h => List.mem_cons_of_mem _ (List.mem_append_right _ h)) (by decide +kernel))
set_option maxRecDepth 20000 in
theorem gX2_note_X2_requireOpenWriter : GoodIn wsX2_note (va_wsS RX2 60 yX2_requireOpenWriter wsX2_requireOpenWriter) := goodIn_app (goodIn_of _ (by decide +kernel)) ggX2_note_X2_requireOpenWriter
theorem dX2_note_0 : decode cX2_note 0 = .ok (.aload_n 0, 1) := by decide +kernel
theorem dX2_note_1 : decode cX2_note 1 = .ok (.iload_n 1, 1) := by decide +kernel
theorem dX2_note_2 : decode cX2_note 2 = .ok (.invokevirtual 53, 3) := by decide +kernel
theorem dX2_note_5 : decode cX2_note 5 = .ok (.astore_n 3, 1) := by decide +kernel
theorem dX2_note_6 : decode cX2_note 6 = .ok (.iload_n 2, 1) := by decide +kernel
theorem dX2_note_7 : decode cX2_note 7 = .ok (.invokestatic 75, 3) := by decide +kernel
theorem dX2_note_10 : decode cX2_note 10 = .ok (.aload_n 3, 1) := by decide +kernel
theorem dX2_note_11 : decode cX2_note 11 = .ok (.invokestatic 60, 3) := by decide +kernel
theorem dX2_note_14 : decode cX2_note 14 = .ok (.aload_n 3, 1) := by decide +kernel
theorem dX2_note_15 : decode cX2_note 15 = .ok (.getfield 78, 3) := by decide +kernel
theorem dX2_note_18 : decode cX2_note 18 = .ok (.iload_n 2, 1) := by decide +kernel
theorem dX2_note_19 : decode cX2_note 19 = .ok (.baload, 1) := by decide +kernel
theorem dX2_note_20 : decode cX2_note 20 = .ok (.ifCond .ne 20, 3) := by decide +kernel
theorem dX2_note_23 : decode cX2_note 23 = .ok (.aload_n 3, 1) := by decide +kernel
theorem dX2_note_24 : decode cX2_note 24 = .ok (.getfield 78, 3) := by decide +kernel
theorem dX2_note_27 : decode cX2_note 27 = .ok (.iload_n 2, 1) := by decide +kernel
theorem dX2_note_28 : decode cX2_note 28 = .ok (.iconst 1, 1) := by decide +kernel
theorem dX2_note_29 : decode cX2_note 29 = .ok (.bastore, 1) := by decide +kernel
theorem dX2_note_30 : decode cX2_note 30 = .ok (.aload_n 3, 1) := by decide +kernel
theorem dX2_note_31 : decode cX2_note 31 = .ok (.dup, 1) := by decide +kernel
theorem dX2_note_32 : decode cX2_note 32 = .ok (.getfield 81, 3) := by decide +kernel
theorem dX2_note_35 : decode cX2_note 35 = .ok (.iconst 1, 1) := by decide +kernel
theorem dX2_note_36 : decode cX2_note 36 = .ok (.iadd, 1) := by decide +kernel
theorem dX2_note_37 : decode cX2_note 37 = .ok (.putfield 81, 3) := by decide +kernel
theorem dX2_note_40 : decode cX2_note 40 = .ok (.aload_n 3, 1) := by decide +kernel
theorem dX2_note_41 : decode cX2_note 41 = .ok (.getfield 81, 3) := by decide +kernel
theorem dX2_note_44 : decode cX2_note 44 = .ok (.ireturn, 1) := by decide +kernel
set_option maxRecDepth 20000 in
theorem ggX2_read_X2_known : GoodIn wsX2_read wsX2_known := goodIn_ca (goodIn_r _ [8, 9, 10, 11, 12, 35, 36, 37, 38, 39, 40, 41, 42, 43, 44, 45, 46, 47, 48, 49] (by decide +kernel) (by decide +kernel)) (goodIn_sub (fun _ h => List.mem_cons_of_mem _ (List.mem_append_left _ (List.mem_append_right _ h))) (by decide +kernel))
set_option maxRecDepth 20000 in
theorem gX2_read_X2_known : GoodIn wsX2_read (wsV RX2 53 RX2 yX2_known wsX2_known) := goodIn_app (goodIn_of _ (by decide +kernel)) ggX2_read_X2_known
set_option maxRecDepth 20000 in
theorem ggX2_read_X2_requireTriple : GoodIn wsX2_read wsX2_requireTriple := goodIn_ca (goodIn_r _ [15, 9, 10] (by decide +kernel) (by decide +kernel)) (goodIn_sub (fun _ h => List.mem_cons_of_mem _ (List.mem_append_left _ (List.mem_append_right _ h))) (by decide +kernel))
set_option maxRecDepth 20000 in
theorem gX2_read_X2_requireTriple : GoodIn wsX2_read (va_wsS RX2 57 yX2_requireTriple wsX2_requireTriple) := goodIn_app (goodIn_of _ (by decide +kernel)) ggX2_read_X2_requireTriple
set_option maxRecDepth 20000 in
theorem ggX2_read_X2_requireNotEnded : GoodIn wsX2_read wsX2_requireNotEnded := goodIn_ca (goodIn_r _ [18, 19, 20, 21, 22, 23, 24, 25, 26, 50, 51, 52, 53, 54, 55, 56, 57, 58, 59, 60] (by decide +kernel) (by decide +kernel)) (goodIn_sub (fun _ h => List.mem_cons_of_mem _ (List.mem_append_right _ h)) (by decide +kernel))
set_option maxRecDepth 20000 in
theorem gX2_read_X2_requireNotEnded : GoodIn wsX2_read (va_wsS RX2 84 yX2_requireNotEnded wsX2_requireNotEnded) := goodIn_app (goodIn_of _ (by decide +kernel)) ggX2_read_X2_requireNotEnded
set_option maxRecDepth 20000 in
theorem ggX2_read_X2_isThere : GoodIn wsX2_read wsX2_isThere := goodIn_r _ [30, 31, 32, 33, 34, 35, 36, 37, 38, 39, 40, 41, 42, 43, 44, 45, 46, 47, 48, 49, 61, 62, 63] (by decide +kernel) (by decide +kernel)
set_option maxRecDepth 20000 in
theorem gX2_read_X2_isThere : GoodIn wsX2_read (wsV RX2 90 RX2 yX2_isThere wsX2_isThere) := goodIn_app (goodIn_of _ (by decide +kernel)) ggX2_read_X2_isThere
theorem dX2_read_0 : decode cX2_read 0 = .ok (.aload_n 0, 1) := by decide +kernel
theorem dX2_read_1 : decode cX2_read 1 = .ok (.iload_n 1, 1) := by decide +kernel
theorem dX2_read_2 : decode cX2_read 2 = .ok (.invokevirtual 53, 3) := by decide +kernel
theorem dX2_read_5 : decode cX2_read 5 = .ok (.astore_n 3, 1) := by decide +kernel
theorem dX2_read_6 : decode cX2_read 6 = .ok (.iload_n 2, 1) := by decide +kernel
theorem dX2_read_7 : decode cX2_read 7 = .ok (.invokestatic 57, 3) := by decide +kernel
theorem dX2_read_10 : decode cX2_read 10 = .ok (.aload_n 3, 1) := by decide +kernel
theorem dX2_read_11 : decode cX2_read 11 = .ok (.invokestatic 84, 3) := by decide +kernel
theorem dX2_read_14 : decode cX2_read 14 = .ok (.aload_n 0, 1) := by decide +kernel
theorem dX2_read_15 : decode cX2_read 15 = .ok (.getfield 25, 3) := by decide +kernel
theorem dX2_read_18 : decode cX2_read 18 = .ok (.iload_n 2, 1) := by decide +kernel
theorem dX2_read_19 : decode cX2_read 19 = .ok (.aaload, 1) := by decide +kernel
theorem dX2_read_20 : decode cX2_read 20 = .ok (.aload_n 3, 1) := by decide +kernel
theorem dX2_read_21 : decode cX2_read 21 = .ok (.if_acmp .ne 12, 3) := by decide +kernel
theorem dX2_read_24 : decode cX2_read 24 = .ok (.aload_n 0, 1) := by decide +kernel
theorem dX2_read_25 : decode cX2_read 25 = .ok (.getfield 28, 3) := by decide +kernel
theorem dX2_read_28 : decode cX2_read 28 = .ok (.iload_n 2, 1) := by decide +kernel
theorem dX2_read_29 : decode cX2_read 29 = .ok (.baload, 1) := by decide +kernel
theorem dX2_read_30 : decode cX2_read 30 = .ok (.goto 12, 3) := by decide +kernel
theorem dX2_read_33 : decode cX2_read 33 = .ok (.aload_n 0, 1) := by decide +kernel
theorem dX2_read_34 : decode cX2_read 34 = .ok (.iload_n 2, 1) := by decide +kernel
theorem dX2_read_35 : decode cX2_read 35 = .ok (.aload_n 3, 1) := by decide +kernel
theorem dX2_read_36 : decode cX2_read 36 = .ok (.getfield 87, 3) := by decide +kernel
theorem dX2_read_39 : decode cX2_read 39 = .ok (.invokevirtual 90, 3) := by decide +kernel
theorem dX2_read_42 : decode cX2_read 42 = .ok (.ireturn, 1) := by decide +kernel
set_option maxRecDepth 20000 in
theorem ggX2_told_X2_requireVersion : GoodIn wsX2_told wsX2_requireVersion := goodIn_ca (goodIn_r _ [5, 6, 7, 8, 9, 10, 11, 4, 12, 13, 14, 15, 16, 17, 18, 19, 20, 21, 22, 23, 24, 25, 26, 38, 39, 40, 41, 42, 43, 44, 45, 46, 47, 48, 49, 50, 51, 52, 53, 54, 55, 56, 57, 58, 59, 60, 61, 62, 63] (by decide +kernel) (by decide +kernel)) (goodIn_sub (fun _ h => List.mem_cons_of_mem _ (List.mem_append_right _ h)) (by decide +kernel))
set_option maxRecDepth 20000 in
theorem gX2_told_X2_requireVersion : GoodIn wsX2_told (wsV RX2 49 RX2 yX2_requireVersion wsX2_requireVersion) := goodIn_app (goodIn_of _ (by decide +kernel)) ggX2_told_X2_requireVersion
set_option maxRecDepth 20000 in
theorem ggX2_told_X2_requireTriple : GoodIn wsX2_told wsX2_requireTriple := goodIn_ca (goodIn_r _ [29, 6, 7] (by decide +kernel) (by decide +kernel)) (goodIn_sub (fun _ h => List.mem_cons_of_mem _ (List.mem_append_right _ h)) (by decide +kernel))
set_option maxRecDepth 20000 in
theorem gX2_told_X2_requireTriple : GoodIn wsX2_told (va_wsS RX2 57 yX2_requireTriple wsX2_requireTriple) := goodIn_app (goodIn_of _ (by decide +kernel)) ggX2_told_X2_requireTriple
set_option maxRecDepth 20000 in
theorem ggX2_told_X2_isThere : GoodIn wsX2_told wsX2_isThere := goodIn_r _ [33, 34, 35, 36, 37, 38, 39, 40, 41, 42, 43, 44, 45, 46, 47, 48, 49, 50, 51, 52, 64, 65, 66] (by decide +kernel) (by decide +kernel)
set_option maxRecDepth 20000 in
theorem gX2_told_X2_isThere : GoodIn wsX2_told (wsV RX2 90 RX2 yX2_isThere wsX2_isThere) := goodIn_app (goodIn_of _ (by decide +kernel)) ggX2_told_X2_isThere
theorem dX2_told_0 : decode cX2_told 0 = .ok (.aload_n 0, 1) := by decide +kernel
theorem dX2_told_1 : decode cX2_told 1 = .ok (.iload_n 1, 1) := by decide +kernel
theorem dX2_told_2 : decode cX2_told 2 = .ok (.invokevirtual 49, 3) := by decide +kernel
theorem dX2_told_5 : decode cX2_told 5 = .ok (.iload_n 2, 1) := by decide +kernel
theorem dX2_told_6 : decode cX2_told 6 = .ok (.invokestatic 57, 3) := by decide +kernel
theorem dX2_told_9 : decode cX2_told 9 = .ok (.aload_n 0, 1) := by decide +kernel
theorem dX2_told_10 : decode cX2_told 10 = .ok (.iload_n 2, 1) := by decide +kernel
theorem dX2_told_11 : decode cX2_told 11 = .ok (.iload_n 1, 1) := by decide +kernel
theorem dX2_told_12 : decode cX2_told 12 = .ok (.invokevirtual 90, 3) := by decide +kernel
theorem dX2_told_15 : decode cX2_told 15 = .ok (.ireturn, 1) := by decide +kernel
set_option maxRecDepth 20000 in
theorem ggX2_commit_X2_known : GoodIn wsX2_commit wsX2_known := goodIn_ca (goodIn_r _ [5, 6, 7, 8, 9, 132, 133, 134, 135, 136, 137, 138, 139, 140, 141, 142, 143, 144, 145, 146] (by decide +kernel) (by decide +kernel)) (goodIn_sub (fun _ h => List.mem_cons_of_mem _ (List.mem_append_left _ (List.mem_append_right _ h))) (by decide +kernel))
set_option maxRecDepth 20000 in
theorem gX2_commit_X2_known : GoodIn wsX2_commit (wsV RX2 53 RX2 yX2_known wsX2_known) := goodIn_app (goodIn_of _ (by decide +kernel)) ggX2_commit_X2_known
set_option maxRecDepth 20000 in
theorem ggX2_commit_X2_requireNotEnded : GoodIn wsX2_commit wsX2_requireNotEnded := goodIn_ca (goodIn_r _ [12, 13, 14, 15, 16, 17, 18, 19, 20, 147, 148, 149, 150, 151, 152, 153, 154, 155, 156, 157] (by decide +kernel) (by decide +kernel)) (goodIn_sub (fun _ h => List.mem_cons_of_mem _ (List.mem_append_right _ h)) (by decide +kernel))
set_option maxRecDepth 20000 in
theorem gX2_commit_X2_requireNotEnded : GoodIn wsX2_commit (va_wsS RX2 84 yX2_requireNotEnded wsX2_requireNotEnded) := goodIn_app (goodIn_of _ (by decide +kernel)) ggX2_commit_X2_requireNotEnded
set_option maxRecDepth 20000 in
theorem ggX2_commit_X2_requireNotWaiting : GoodIn wsX2_commit wsX2_requireNotWaiting := goodIn_ca (goodIn_r _ [23, 13, 14, 24, 147, 148, 149, 150, 151, 152, 153, 154, 155, 156, 157] (by decide +kernel) (by decide +kernel)) (goodIn_sub (fun _ h => List.mem_cons_of_mem _ (List.mem_append_right _ h)) (by decide +kernel))
set_option maxRecDepth 20000 in
theorem gX2_commit_X2_requireNotWaiting : GoodIn wsX2_commit (va_wsS RX2 94 yX2_requireNotWaiting wsX2_requireNotWaiting) := goodIn_app (goodIn_of _ (by decide +kernel)) ggX2_commit_X2_requireNotWaiting
set_option maxRecDepth 20000 in
theorem ggX2_commit_X2_isRefused : GoodIn wsX2_commit wsX2_isRefused := goodIn_r _ [28, 24, 29, 30, 31, 4, 32, 33, 34, 35, 36, 37, 38, 39, 40, 41, 42, 43, 44, 147, 148, 149, 150, 151, 152, 153, 154, 155, 156, 157, 132, 133, 134, 135, 136, 137, 138, 139, 140, 141, 142, 143, 144, 145, 146, 158, 159, 160] (by decide +kernel) (by decide +kernel)
set_option maxRecDepth 20000 in
theorem gX2_commit_X2_isRefused : GoodIn wsX2_commit (wsV RX2 97 RX2 yX2_isRefused wsX2_isRefused) := goodIn_app (goodIn_of _ (by decide +kernel)) ggX2_commit_X2_isRefused
set_option maxRecDepth 20000 in
theorem ggX2_commit_X2_giveUp : GoodIn wsX2_commit wsX2_giveUp := goodIn_r _ [48, 24, 49, 29, 30, 31, 4, 32, 33, 34, 35, 36, 37, 38, 39, 40, 41, 42, 43, 44, 50, 51, 52, 53, 54, 55, 56, 57, 58, 59, 60, 61, 62, 63, 64, 8, 9, 65, 66, 67, 68, 69, 70, 71, 147, 148, 149, 150, 151, 152, 153, 154, 155, 156, 157, 132, 133, 134, 135, 136, 137, 138, 139, 140, 141, 142, 143, 144, 145, 146, 158, 159, 160] (by decide +kernel) (by decide +kernel)
set_option maxRecDepth 20000 in
theorem gX2_commit_X2_giveUp : GoodIn wsX2_commit (wsV RX2 101 RX2 yX2_giveUp wsX2_giveUp) := goodIn_app (goodIn_of _ (by decide +kernel)) ggX2_commit_X2_giveUp
set_option maxRecDepth 20000 in
theorem ggX2_commit_X2_makeVersion : GoodIn wsX2_commit wsX2_makeVersion := goodIn_r _ [75, 76, 34, 77, 78, 79, 4, 80, 55, 81, 43, 82, 83, 84, 85, 86, 87, 88, 89, 44, 90, 91, 92, 93, 94, 95, 96, 97, 98, 99, 100, 50, 51, 52, 53, 24, 54, 56, 57, 58, 59, 60, 61, 62, 63, 64, 8, 9, 65, 66, 67, 68, 69, 70, 71, 132, 133, 134, 135, 136, 137, 138, 139, 140, 141, 142, 143, 144, 145, 146, 147, 148, 149, 150, 151, 152, 153, 154, 155, 156, 157, 158, 159, 160] (by decide +kernel) (by decide +kernel)
set_option maxRecDepth 20000 in
theorem gX2_commit_X2_makeVersion : GoodIn wsX2_commit (wsV RX2 104 RX2 yX2_makeVersion wsX2_makeVersion) := goodIn_app (goodIn_of _ (by decide +kernel)) ggX2_commit_X2_makeVersion
set_option maxRecDepth 20000 in
theorem ggX2_commit_X2_retryQueued : GoodIn wsX2_commit wsX2_retryQueued := goodIn_r _ [104, 71, 69, 70, 24, 105, 106, 107, 108, 109, 4, 110, 54, 34, 111, 55, 81, 39, 40, 41, 42, 43, 44, 112, 113, 114, 115, 116, 60, 9, 117, 118, 119, 120, 121, 122, 123, 124, 125, 126, 127, 128, 129, 130, 131, 50, 51, 52, 53, 56, 57, 58, 59, 61, 62, 63, 64, 8, 65, 66, 67, 68, 132, 133, 134, 135, 136, 137, 138, 139, 140, 141, 142, 143, 144, 145, 146, 147, 148, 149, 150, 151, 152, 153, 154, 155, 156, 157, 158, 159, 160] (by decide +kernel) (by decide +kernel)
set_option maxRecDepth 20000 in
theorem gX2_commit_X2_retryQueued : GoodIn wsX2_commit (wsV RX2 68 RX2 yX2_retryQueued wsX2_retryQueued) := goodIn_app (goodIn_of _ (by decide +kernel)) ggX2_commit_X2_retryQueued
theorem dX2_commit_0 : decode cX2_commit 0 = .ok (.aload_n 0, 1) := by decide +kernel
theorem dX2_commit_1 : decode cX2_commit 1 = .ok (.iload_n 1, 1) := by decide +kernel
theorem dX2_commit_2 : decode cX2_commit 2 = .ok (.invokevirtual 53, 3) := by decide +kernel
theorem dX2_commit_5 : decode cX2_commit 5 = .ok (.astore_n 2, 1) := by decide +kernel
theorem dX2_commit_6 : decode cX2_commit 6 = .ok (.aload_n 2, 1) := by decide +kernel
theorem dX2_commit_7 : decode cX2_commit 7 = .ok (.invokestatic 84, 3) := by decide +kernel
theorem dX2_commit_10 : decode cX2_commit 10 = .ok (.aload_n 2, 1) := by decide +kernel
theorem dX2_commit_11 : decode cX2_commit 11 = .ok (.invokestatic 94, 3) := by decide +kernel
theorem dX2_commit_14 : decode cX2_commit 14 = .ok (.aload_n 0, 1) := by decide +kernel
theorem dX2_commit_15 : decode cX2_commit 15 = .ok (.aload_n 2, 1) := by decide +kernel
theorem dX2_commit_16 : decode cX2_commit 16 = .ok (.invokevirtual 97, 3) := by decide +kernel
theorem dX2_commit_19 : decode cX2_commit 19 = .ok (.ifCond .eq 11, 3) := by decide +kernel
theorem dX2_commit_22 : decode cX2_commit 22 = .ok (.aload_n 0, 1) := by decide +kernel
theorem dX2_commit_23 : decode cX2_commit 23 = .ok (.aload_n 2, 1) := by decide +kernel
theorem dX2_commit_24 : decode cX2_commit 24 = .ok (.invokevirtual 101, 3) := by decide +kernel
theorem dX2_commit_27 : decode cX2_commit 27 = .ok (.goto 8, 3) := by decide +kernel
theorem dX2_commit_30 : decode cX2_commit 30 = .ok (.aload_n 0, 1) := by decide +kernel
theorem dX2_commit_31 : decode cX2_commit 31 = .ok (.aload_n 2, 1) := by decide +kernel
theorem dX2_commit_32 : decode cX2_commit 32 = .ok (.invokevirtual 104, 3) := by decide +kernel
theorem dX2_commit_35 : decode cX2_commit 35 = .ok (.istore_n 3, 1) := by decide +kernel
theorem dX2_commit_36 : decode cX2_commit 36 = .ok (.aload_n 0, 1) := by decide +kernel
theorem dX2_commit_37 : decode cX2_commit 37 = .ok (.invokevirtual 68, 3) := by decide +kernel
theorem dX2_commit_40 : decode cX2_commit 40 = .ok (.iload_n 3, 1) := by decide +kernel
theorem dX2_commit_41 : decode cX2_commit 41 = .ok (.ireturn, 1) := by decide +kernel
set_option maxRecDepth 20000 in
theorem ggX2_abort_X2_known : GoodIn wsX2_abort wsX2_known := goodIn_ca (goodIn_r _ [5, 6, 7, 8, 9, 87, 88, 89, 90, 91, 92, 93, 94, 95, 96, 97, 98, 99, 100, 101] (by decide +kernel) (by decide +kernel)) (goodIn_sub (fun _ h => List.mem_cons_of_mem _ (List.mem_append_left _ (List.mem_append_right _ h))) (by decide +kernel))
set_option maxRecDepth 20000 in
theorem gX2_abort_X2_known : GoodIn wsX2_abort (wsV RX2 53 RX2 yX2_known wsX2_known) := goodIn_app (goodIn_of _ (by decide +kernel)) ggX2_abort_X2_known
set_option maxRecDepth 20000 in
theorem ggX2_abort_X2_requireNotEnded : GoodIn wsX2_abort wsX2_requireNotEnded := goodIn_ca (goodIn_r _ [12, 13, 14, 15, 16, 17, 18, 19, 20, 102, 103, 104, 105, 106, 107, 108, 109, 110, 111, 112] (by decide +kernel) (by decide +kernel)) (goodIn_sub (fun _ h => List.mem_cons_of_mem _ (List.mem_append_right _ h)) (by decide +kernel))
set_option maxRecDepth 20000 in
theorem gX2_abort_X2_requireNotEnded : GoodIn wsX2_abort (va_wsS RX2 84 yX2_requireNotEnded wsX2_requireNotEnded) := goodIn_app (goodIn_of _ (by decide +kernel)) ggX2_abort_X2_requireNotEnded
set_option maxRecDepth 20000 in
theorem ggX2_abort_X2_countOwnWrites : GoodIn wsX2_abort wsX2_countOwnWrites := goodIn_r _ [24, 25, 87, 88, 89, 90, 91, 92, 93, 94, 95, 96, 97, 98, 99, 100, 101] (by decide +kernel) (by decide +kernel)
set_option maxRecDepth 20000 in
theorem gX2_abort_X2_countOwnWrites : GoodIn wsX2_abort (wsV RX2 107 RX2 yX2_countOwnWrites wsX2_countOwnWrites) := goodIn_app (goodIn_of _ (by decide +kernel)) ggX2_abort_X2_countOwnWrites
set_option maxRecDepth 20000 in
theorem ggX2_abort_X2_finish : GoodIn wsX2_abort wsX2_finish := goodIn_r _ [29, 30, 31, 25, 32, 33, 34, 4, 35, 36, 37, 38, 39, 40, 8, 9, 41, 42, 43, 44, 45, 46, 47, 102, 103, 104, 105, 106, 107, 108, 109, 110, 111, 112, 87, 88, 89, 90, 91, 92, 93, 94, 95, 96, 97, 98, 99, 100, 101] (by decide +kernel) (by decide +kernel)
set_option maxRecDepth 20000 in
theorem gX2_abort_X2_finish : GoodIn wsX2_abort (wsV RX2 110 RX2 yX2_finish wsX2_finish) := goodIn_app (goodIn_of _ (by decide +kernel)) ggX2_abort_X2_finish
set_option maxRecDepth 20000 in
theorem ggX2_abort_X2_retryQueued : GoodIn wsX2_abort wsX2_retryQueued := goodIn_r _ [51, 47, 45, 46, 30, 52, 53, 54, 55, 56, 4, 57, 31, 58, 59, 25, 60, 61, 62, 63, 64, 65, 66, 67, 68, 69, 70, 71, 36, 9, 72, 73, 74, 75, 76, 77, 78, 79, 80, 81, 82, 83, 84, 85, 86, 26, 27, 28, 29, 32, 33, 34, 35, 37, 38, 39, 40, 8, 41, 42, 43, 44, 87, 88, 89, 90, 91, 92, 93, 94, 95, 96, 97, 98, 99, 100, 101, 102, 103, 104, 105, 106, 107, 108, 109, 110, 111, 112, 113, 114, 115] (by decide +kernel) (by decide +kernel)
set_option maxRecDepth 20000 in
theorem gX2_abort_X2_retryQueued : GoodIn wsX2_abort (wsV RX2 68 RX2 yX2_retryQueued wsX2_retryQueued) := goodIn_app (goodIn_of _ (by decide +kernel)) ggX2_abort_X2_retryQueued
theorem dX2_abort_0 : decode cX2_abort 0 = .ok (.aload_n 0, 1) := by decide +kernel
theorem dX2_abort_1 : decode cX2_abort 1 = .ok (.iload_n 1, 1) := by decide +kernel
theorem dX2_abort_2 : decode cX2_abort 2 = .ok (.invokevirtual 53, 3) := by decide +kernel
theorem dX2_abort_5 : decode cX2_abort 5 = .ok (.astore_n 2, 1) := by decide +kernel
theorem dX2_abort_6 : decode cX2_abort 6 = .ok (.aload_n 2, 1) := by decide +kernel
theorem dX2_abort_7 : decode cX2_abort 7 = .ok (.invokestatic 84, 3) := by decide +kernel
theorem dX2_abort_10 : decode cX2_abort 10 = .ok (.aload_n 0, 1) := by decide +kernel
theorem dX2_abort_11 : decode cX2_abort 11 = .ok (.aload_n 2, 1) := by decide +kernel
theorem dX2_abort_12 : decode cX2_abort 12 = .ok (.invokevirtual 107, 3) := by decide +kernel
theorem dX2_abort_15 : decode cX2_abort 15 = .ok (.istore_n 3, 1) := by decide +kernel
theorem dX2_abort_16 : decode cX2_abort 16 = .ok (.aload_n 0, 1) := by decide +kernel
theorem dX2_abort_17 : decode cX2_abort 17 = .ok (.aload_n 2, 1) := by decide +kernel
theorem dX2_abort_18 : decode cX2_abort 18 = .ok (.iconst 4, 1) := by decide +kernel
theorem dX2_abort_19 : decode cX2_abort 19 = .ok (.invokevirtual 110, 3) := by decide +kernel
theorem dX2_abort_22 : decode cX2_abort 22 = .ok (.aload_n 0, 1) := by decide +kernel
theorem dX2_abort_23 : decode cX2_abort 23 = .ok (.invokevirtual 68, 3) := by decide +kernel
theorem dX2_abort_26 : decode cX2_abort 26 = .ok (.iload_n 3, 1) := by decide +kernel
theorem dX2_abort_27 : decode cX2_abort 27 = .ok (.ireturn, 1) := by decide +kernel
set_option maxRecDepth 20000 in
theorem ggX2_pin_X2_requireVersion : GoodIn wsX2_pin wsX2_requireVersion := goodIn_ca (goodIn_r _ [6, 7, 8, 9, 10, 11, 12, 5, 13, 14, 15, 16, 17, 18, 19, 20, 1, 21, 22, 23, 24, 25, 26, 27, 28, 29, 30, 31, 32, 33, 34, 35, 36, 37, 38, 39, 40, 41, 42, 43, 44, 45, 46, 47, 48, 49, 50, 51, 52] (by decide +kernel) (by decide +kernel)) (goodIn_sub (fun _ h => List.mem_cons_of_mem _ (List.mem_append_right _ h)) (by decide +kernel))
set_option maxRecDepth 20000 in
theorem gX2_pin_X2_requireVersion : GoodIn wsX2_pin (wsV RX2 49 RX2 yX2_requireVersion wsX2_requireVersion) := goodIn_app (goodIn_of _ (by decide +kernel)) ggX2_pin_X2_requireVersion
theorem dX2_pin_0 : decode cX2_pin 0 = .ok (.aload_n 0, 1) := by decide +kernel
theorem dX2_pin_1 : decode cX2_pin 1 = .ok (.iload_n 1, 1) := by decide +kernel
theorem dX2_pin_2 : decode cX2_pin 2 = .ok (.invokevirtual 49, 3) := by decide +kernel
theorem dX2_pin_5 : decode cX2_pin 5 = .ok (.aload_n 0, 1) := by decide +kernel
theorem dX2_pin_6 : decode cX2_pin 6 = .ok (.getfield 21, 3) := by decide +kernel
theorem dX2_pin_9 : decode cX2_pin 9 = .ok (.iload_n 1, 1) := by decide +kernel
theorem dX2_pin_10 : decode cX2_pin 10 = .ok (.dup2, 1) := by decide +kernel
theorem dX2_pin_11 : decode cX2_pin 11 = .ok (.iaload, 1) := by decide +kernel
theorem dX2_pin_12 : decode cX2_pin 12 = .ok (.iconst 1, 1) := by decide +kernel
theorem dX2_pin_13 : decode cX2_pin 13 = .ok (.iadd, 1) := by decide +kernel
theorem dX2_pin_14 : decode cX2_pin 14 = .ok (.iastore, 1) := by decide +kernel
theorem dX2_pin_15 : decode cX2_pin 15 = .ok (.aload_n 0, 1) := by decide +kernel
theorem dX2_pin_16 : decode cX2_pin 16 = .ok (.getfield 21, 3) := by decide +kernel
theorem dX2_pin_19 : decode cX2_pin 19 = .ok (.iload_n 1, 1) := by decide +kernel
theorem dX2_pin_20 : decode cX2_pin 20 = .ok (.iaload, 1) := by decide +kernel
theorem dX2_pin_21 : decode cX2_pin 21 = .ok (.ireturn, 1) := by decide +kernel
set_option maxRecDepth 20000 in
theorem ggX2_unpin_X2_requirePinned : GoodIn wsX2_unpin wsX2_requirePinned := goodIn_ca (goodIn_r _ [6, 7, 8, 9, 1, 10, 11, 12, 13, 14, 15, 16, 17, 18, 19, 20, 21, 22, 23, 24] (by decide +kernel) (by decide +kernel)) (goodIn_sub (fun _ h => List.mem_cons_of_mem _ (List.mem_append_right _ h)) (by decide +kernel))
set_option maxRecDepth 20000 in
theorem gX2_unpin_X2_requirePinned : GoodIn wsX2_unpin (wsV RX2 114 RX2 yX2_requirePinned wsX2_requirePinned) := goodIn_app (goodIn_of _ (by decide +kernel)) ggX2_unpin_X2_requirePinned
theorem dX2_unpin_0 : decode cX2_unpin 0 = .ok (.aload_n 0, 1) := by decide +kernel
theorem dX2_unpin_1 : decode cX2_unpin 1 = .ok (.iload_n 1, 1) := by decide +kernel
theorem dX2_unpin_2 : decode cX2_unpin 2 = .ok (.invokevirtual 114, 3) := by decide +kernel
theorem dX2_unpin_5 : decode cX2_unpin 5 = .ok (.aload_n 0, 1) := by decide +kernel
theorem dX2_unpin_6 : decode cX2_unpin 6 = .ok (.getfield 21, 3) := by decide +kernel
theorem dX2_unpin_9 : decode cX2_unpin 9 = .ok (.iload_n 1, 1) := by decide +kernel
theorem dX2_unpin_10 : decode cX2_unpin 10 = .ok (.dup2, 1) := by decide +kernel
theorem dX2_unpin_11 : decode cX2_unpin 11 = .ok (.iaload, 1) := by decide +kernel
theorem dX2_unpin_12 : decode cX2_unpin 12 = .ok (.iconst 1, 1) := by decide +kernel
theorem dX2_unpin_13 : decode cX2_unpin 13 = .ok (.isub, 1) := by decide +kernel
theorem dX2_unpin_14 : decode cX2_unpin 14 = .ok (.iastore, 1) := by decide +kernel
theorem dX2_unpin_15 : decode cX2_unpin 15 = .ok (.aload_n 0, 1) := by decide +kernel
theorem dX2_unpin_16 : decode cX2_unpin 16 = .ok (.getfield 21, 3) := by decide +kernel
theorem dX2_unpin_19 : decode cX2_unpin 19 = .ok (.iload_n 1, 1) := by decide +kernel
theorem dX2_unpin_20 : decode cX2_unpin 20 = .ok (.iaload, 1) := by decide +kernel
theorem dX2_unpin_21 : decode cX2_unpin 21 = .ok (.ireturn, 1) := by decide +kernel
set_option maxRecDepth 20000 in
theorem ggX2_free_X2_leastKept : GoodIn wsX2_free wsX2_leastKept := goodIn_r _ [6, 7, 8, 9, 10, 11, 12, 13, 14, 15, 16, 17, 18, 19, 20, 21, 37, 38, 39, 40, 41, 42, 43, 44, 45, 46, 47, 48, 49, 50, 51, 52, 53, 54, 55, 56, 57, 58, 59, 60, 61, 62] (by decide +kernel) (by decide +kernel)
set_option maxRecDepth 20000 in
theorem gX2_free_X2_leastKept : GoodIn wsX2_free (wsV RX2 117 RX2 yX2_leastKept wsX2_leastKept) := goodIn_app (goodIn_of _ (by decide +kernel)) ggX2_free_X2_leastKept
set_option maxRecDepth 20000 in
theorem ggX2_free_X2_dropOldRows : GoodIn wsX2_free wsX2_dropOldRows := goodIn_r _ [25, 26, 27, 28, 29, 30, 31, 5, 32, 33, 34, 35, 36, 37, 38, 39, 40, 41, 42, 43, 44, 45, 46, 47, 48, 49, 50, 51, 63, 64, 65] (by decide +kernel) (by decide +kernel)
set_option maxRecDepth 20000 in
theorem gX2_free_X2_dropOldRows : GoodIn wsX2_free (wsV RX2 121 RX2 yX2_dropOldRows wsX2_dropOldRows) := goodIn_app (goodIn_of _ (by decide +kernel)) ggX2_free_X2_dropOldRows
theorem dX2_free_0 : decode cX2_free 0 = .ok (.aload_n 0, 1) := by decide +kernel
theorem dX2_free_1 : decode cX2_free 1 = .ok (.invokevirtual 117, 3) := by decide +kernel
theorem dX2_free_4 : decode cX2_free 4 = .ok (.istore_n 1, 1) := by decide +kernel
theorem dX2_free_5 : decode cX2_free 5 = .ok (.iconst 0, 1) := by decide +kernel
theorem dX2_free_6 : decode cX2_free 6 = .ok (.istore_n 2, 1) := by decide +kernel
theorem dX2_free_7 : decode cX2_free 7 = .ok (.iconst 0, 1) := by decide +kernel
theorem dX2_free_8 : decode cX2_free 8 = .ok (.istore_n 3, 1) := by decide +kernel
theorem dX2_free_9 : decode cX2_free 9 = .ok (.iload_n 3, 1) := by decide +kernel
theorem dX2_free_10 : decode cX2_free 10 = .ok (.sipush 200, 3) := by decide +kernel
theorem dX2_free_13 : decode cX2_free 13 = .ok (.if_icmp .ge 18, 3) := by decide +kernel
theorem dX2_free_16 : decode cX2_free 16 = .ok (.iload_n 2, 1) := by decide +kernel
theorem dX2_free_17 : decode cX2_free 17 = .ok (.aload_n 0, 1) := by decide +kernel
theorem dX2_free_18 : decode cX2_free 18 = .ok (.iload_n 3, 1) := by decide +kernel
theorem dX2_free_19 : decode cX2_free 19 = .ok (.iload_n 1, 1) := by decide +kernel
theorem dX2_free_20 : decode cX2_free 20 = .ok (.invokevirtual 121, 3) := by decide +kernel
theorem dX2_free_23 : decode cX2_free 23 = .ok (.iadd, 1) := by decide +kernel
theorem dX2_free_24 : decode cX2_free 24 = .ok (.istore_n 2, 1) := by decide +kernel
theorem dX2_free_25 : decode cX2_free 25 = .ok (.iinc 3 1, 3) := by decide +kernel
theorem dX2_free_28 : decode cX2_free 28 = .ok (.goto (-19), 3) := by decide +kernel
theorem dX2_free_31 : decode cX2_free 31 = .ok (.aload_n 0, 1) := by decide +kernel
theorem dX2_free_32 : decode cX2_free 32 = .ok (.dup, 1) := by decide +kernel
theorem dX2_free_33 : decode cX2_free 33 = .ok (.getfield 125, 3) := by decide +kernel
theorem dX2_free_36 : decode cX2_free 36 = .ok (.iload_n 2, 1) := by decide +kernel
theorem dX2_free_37 : decode cX2_free 37 = .ok (.isub, 1) := by decide +kernel
theorem dX2_free_38 : decode cX2_free 38 = .ok (.putfield 125, 3) := by decide +kernel
theorem dX2_free_41 : decode cX2_free 41 = .ok (.iload_n 2, 1) := by decide +kernel
theorem dX2_free_42 : decode cX2_free 42 = .ok (.ireturn, 1) := by decide +kernel
theorem dX2_rows_0 : decode cX2_rows 0 = .ok (.aload_n 0, 1) := by decide +kernel
theorem dX2_rows_1 : decode cX2_rows 1 = .ok (.getfield 125, 3) := by decide +kernel
theorem dX2_rows_4 : decode cX2_rows 4 = .ok (.ireturn, 1) := by decide +kernel
theorem dX2_latest_0 : decode cX2_latest 0 = .ok (.aload_n 0, 1) := by decide +kernel
theorem dX2_latest_1 : decode cX2_latest 1 = .ok (.getfield 41, 3) := by decide +kernel
theorem dX2_latest_4 : decode cX2_latest 4 = .ok (.ireturn, 1) := by decide +kernel
set_option maxRecDepth 20000 in
theorem ggX2_least_X2_leastKept : GoodIn wsX2_least wsX2_leastKept := goodIn_r _ [5, 6, 7, 8, 9, 10, 11, 12, 13, 14, 15, 16, 17, 18, 19, 20, 21, 22, 23, 24, 25, 26, 27, 28, 29, 30, 31, 32, 33, 34, 35, 36, 37, 38, 39, 40, 41, 42, 43, 44, 45, 46] (by decide +kernel) (by decide +kernel)
set_option maxRecDepth 20000 in
theorem gX2_least_X2_leastKept : GoodIn wsX2_least (wsV RX2 117 RX2 yX2_leastKept wsX2_leastKept) := goodIn_app (goodIn_of _ (by decide +kernel)) ggX2_least_X2_leastKept
theorem dX2_least_0 : decode cX2_least 0 = .ok (.aload_n 0, 1) := by decide +kernel
theorem dX2_least_1 : decode cX2_least 1 = .ok (.invokevirtual 117, 3) := by decide +kernel
theorem dX2_least_4 : decode cX2_least 4 = .ok (.ireturn, 1) := by decide +kernel
set_option maxRecDepth 20000 in
theorem ggX2_state_X2_known : GoodIn wsX2_state wsX2_known := goodIn_ca (goodIn_r _ [6, 7, 8, 9, 10, 22, 23, 24, 25, 26, 27, 28, 29, 30, 31, 32, 33, 34, 35, 36] (by decide +kernel) (by decide +kernel)) (goodIn_sub (fun _ h => List.mem_cons_of_mem _ (List.mem_append_right _ h)) (by decide +kernel))
set_option maxRecDepth 20000 in
theorem gX2_state_X2_known : GoodIn wsX2_state (wsV RX2 53 RX2 yX2_known wsX2_known) := goodIn_app (goodIn_of _ (by decide +kernel)) ggX2_state_X2_known
theorem dX2_state_0 : decode cX2_state 0 = .ok (.aload_n 0, 1) := by decide +kernel
theorem dX2_state_1 : decode cX2_state 1 = .ok (.iload_n 1, 1) := by decide +kernel
theorem dX2_state_2 : decode cX2_state 2 = .ok (.invokevirtual 53, 3) := by decide +kernel
theorem dX2_state_5 : decode cX2_state 5 = .ok (.getfield 128, 3) := by decide +kernel
theorem dX2_state_8 : decode cX2_state 8 = .ok (.ireturn, 1) := by decide +kernel
set_option maxRecDepth 20000 in
theorem ggX2_waits_X2_known : GoodIn wsX2_waits wsX2_known := goodIn_ca (goodIn_r _ [7, 8, 9, 10, 11, 23, 24, 25, 26, 27, 28, 29, 30, 31, 32, 33, 34, 35, 36, 37] (by decide +kernel) (by decide +kernel)) (goodIn_sub (fun _ h => List.mem_cons_of_mem _ (List.mem_append_right _ h)) (by decide +kernel))
set_option maxRecDepth 20000 in
theorem gX2_waits_X2_known : GoodIn wsX2_waits (wsV RX2 53 RX2 yX2_known wsX2_known) := goodIn_app (goodIn_of _ (by decide +kernel)) ggX2_waits_X2_known
theorem dX2_waits_0 : decode cX2_waits 0 = .ok (.aload_n 0, 1) := by decide +kernel
theorem dX2_waits_1 : decode cX2_waits 1 = .ok (.iload_n 1, 1) := by decide +kernel
theorem dX2_waits_2 : decode cX2_waits 2 = .ok (.invokevirtual 53, 3) := by decide +kernel
theorem dX2_waits_5 : decode cX2_waits 5 = .ok (.getfield 131, 3) := by decide +kernel
theorem dX2_waits_8 : decode cX2_waits 8 = .ok (.astore_n 2, 1) := by decide +kernel
theorem dX2_waits_9 : decode cX2_waits 9 = .ok (.aload_n 2, 1) := by decide +kernel
theorem dX2_waits_10 : decode cX2_waits 10 = .ok (.ifnonnull 7, 3) := by decide +kernel
theorem dX2_waits_13 : decode cX2_waits 13 = .ok (.iconst (-1), 1) := by decide +kernel
theorem dX2_waits_14 : decode cX2_waits 14 = .ok (.goto 7, 3) := by decide +kernel
theorem dX2_waits_17 : decode cX2_waits 17 = .ok (.aload_n 2, 1) := by decide +kernel
theorem dX2_waits_18 : decode cX2_waits 18 = .ok (.getfield 135, 3) := by decide +kernel
theorem dX2_waits_21 : decode cX2_waits 21 = .ok (.ireturn, 1) := by decide +kernel
theorem dX2_ring_0 : decode cX2_ring 0 = .ok (.iload_n 1, 1) := by decide +kernel
theorem dX2_ring_1 : decode cX2_ring 1 = .ok (.ifCond .lt 20, 3) := by decide +kernel
theorem dX2_ring_4 : decode cX2_ring 4 = .ok (.iload_n 1, 1) := by decide +kernel
theorem dX2_ring_5 : decode cX2_ring 5 = .ok (.aload_n 0, 1) := by decide +kernel
theorem dX2_ring_6 : decode cX2_ring 6 = .ok (.getfield 138, 3) := by decide +kernel
theorem dX2_ring_9 : decode cX2_ring 9 = .ok (.if_icmp .ge 12, 3) := by decide +kernel
theorem dX2_ring_12 : decode cX2_ring 12 = .ok (.aload_n 0, 1) := by decide +kernel
theorem dX2_ring_13 : decode cX2_ring 13 = .ok (.getfield 38, 3) := by decide +kernel
theorem dX2_ring_16 : decode cX2_ring 16 = .ok (.iload_n 1, 1) := by decide +kernel
theorem dX2_ring_17 : decode cX2_ring 17 = .ok (.iaload, 1) := by decide +kernel
theorem dX2_ring_18 : decode cX2_ring 18 = .ok (.goto 4, 3) := by decide +kernel
theorem dX2_ring_21 : decode cX2_ring 21 = .ok (.iconst (-1), 1) := by decide +kernel
theorem dX2_ring_22 : decode cX2_ring 22 = .ok (.ireturn, 1) := by decide +kernel
set_option maxRecDepth 20000 in
theorem ggX2_conflicts_X2_requireKind : GoodIn wsX2_conflicts wsX2_requireKind := goodIn_ca (goodIn_r _ [6, 7, 8] (by decide +kernel) (by decide +kernel)) (goodIn_sub (fun _ h => List.mem_cons_of_mem _ (List.mem_append_right _ h)) (by decide +kernel))
set_option maxRecDepth 20000 in
theorem gX2_conflicts_X2_requireKind : GoodIn wsX2_conflicts (va_wsS RX2 141 yX2_requireKind wsX2_requireKind) := goodIn_app (goodIn_of _ (by decide +kernel)) ggX2_conflicts_X2_requireKind
set_option maxRecDepth 20000 in
theorem ggX2_conflicts_X2_requireTriple : GoodIn wsX2_conflicts wsX2_requireTriple := goodIn_ca (goodIn_r _ [11, 7, 8] (by decide +kernel) (by decide +kernel)) (goodIn_sub (fun _ h => List.mem_cons_of_mem _ (List.mem_append_right _ h)) (by decide +kernel))
set_option maxRecDepth 20000 in
theorem gX2_conflicts_X2_requireTriple : GoodIn wsX2_conflicts (va_wsS RX2 57 yX2_requireTriple wsX2_requireTriple) := goodIn_app (goodIn_of _ (by decide +kernel)) ggX2_conflicts_X2_requireTriple
set_option maxRecDepth 20000 in
theorem ggX2_conflicts_X2_requireGraph : GoodIn wsX2_conflicts wsX2_requireGraph := goodIn_ca (goodIn_r _ [14, 7, 8] (by decide +kernel) (by decide +kernel)) (goodIn_sub (fun _ h => List.mem_cons_of_mem _ (List.mem_append_right _ h)) (by decide +kernel))
set_option maxRecDepth 20000 in
theorem gX2_conflicts_X2_requireGraph : GoodIn wsX2_conflicts (va_wsS RX2 75 yX2_requireGraph wsX2_requireGraph) := goodIn_app (goodIn_of _ (by decide +kernel)) ggX2_conflicts_X2_requireGraph
theorem dX2_conflicts_0 : decode cX2_conflicts 0 = .ok (.iload_n 1, 1) := by decide +kernel
theorem dX2_conflicts_1 : decode cX2_conflicts 1 = .ok (.invokestatic 141, 3) := by decide +kernel
theorem dX2_conflicts_4 : decode cX2_conflicts 4 = .ok (.iload_n 1, 1) := by decide +kernel
theorem dX2_conflicts_5 : decode cX2_conflicts 5 = .ok (.ifCond .ne 14, 3) := by decide +kernel
theorem dX2_conflicts_8 : decode cX2_conflicts 8 = .ok (.iload_n 2, 1) := by decide +kernel
theorem dX2_conflicts_9 : decode cX2_conflicts 9 = .ok (.invokestatic 57, 3) := by decide +kernel
theorem dX2_conflicts_12 : decode cX2_conflicts 12 = .ok (.aload_n 0, 1) := by decide +kernel
theorem dX2_conflicts_13 : decode cX2_conflicts 13 = .ok (.getfield 32, 3) := by decide +kernel
theorem dX2_conflicts_16 : decode cX2_conflicts 16 = .ok (.iload_n 2, 1) := by decide +kernel
theorem dX2_conflicts_17 : decode cX2_conflicts 17 = .ok (.iaload, 1) := by decide +kernel
theorem dX2_conflicts_18 : decode cX2_conflicts 18 = .ok (.ireturn, 1) := by decide +kernel
theorem dX2_conflicts_19 : decode cX2_conflicts 19 = .ok (.iload_n 2, 1) := by decide +kernel
theorem dX2_conflicts_20 : decode cX2_conflicts 20 = .ok (.invokestatic 75, 3) := by decide +kernel
theorem dX2_conflicts_23 : decode cX2_conflicts 23 = .ok (.aload_n 0, 1) := by decide +kernel
theorem dX2_conflicts_24 : decode cX2_conflicts 24 = .ok (.getfield 35, 3) := by decide +kernel
theorem dX2_conflicts_27 : decode cX2_conflicts 27 = .ok (.iload_n 2, 1) := by decide +kernel
theorem dX2_conflicts_28 : decode cX2_conflicts 28 = .ok (.iaload, 1) := by decide +kernel
theorem dX2_conflicts_29 : decode cX2_conflicts 29 = .ok (.ireturn, 1) := by decide +kernel
theorem dX2_known_0 : decode cX2_known 0 = .ok (.iload_n 1, 1) := by decide +kernel
theorem dX2_known_1 : decode cX2_known 1 = .ok (.ifCond .lt 11, 3) := by decide +kernel
theorem dX2_known_4 : decode cX2_known 4 = .ok (.iload_n 1, 1) := by decide +kernel
theorem dX2_known_5 : decode cX2_known 5 = .ok (.aload_n 0, 1) := by decide +kernel
theorem dX2_known_6 : decode cX2_known 6 = .ok (.getfield 144, 3) := by decide +kernel
theorem dX2_known_9 : decode cX2_known 9 = .ok (.if_icmp .lt 13, 3) := by decide +kernel
theorem dX2_known_12 : decode cX2_known 12 = .ok (.new 147, 3) := by decide +kernel
theorem dX2_known_15 : decode cX2_known 15 = .ok (.dup, 1) := by decide +kernel
theorem dX2_known_16 : decode cX2_known 16 = .ok (.ldc 149, 2) := by decide +kernel
theorem dX2_known_18 : decode cX2_known 18 = .ok (.invokespecial 151, 3) := by decide +kernel
theorem dX2_known_21 : decode cX2_known 21 = .ok (.athrow, 1) := by decide +kernel
theorem dX2_known_22 : decode cX2_known 22 = .ok (.aload_n 0, 1) := by decide +kernel
theorem dX2_known_23 : decode cX2_known 23 = .ok (.getfield 11, 3) := by decide +kernel
theorem dX2_known_26 : decode cX2_known 26 = .ok (.iload_n 1, 1) := by decide +kernel
theorem dX2_known_27 : decode cX2_known 27 = .ok (.aaload, 1) := by decide +kernel
theorem dX2_known_28 : decode cX2_known 28 = .ok (.areturn, 1) := by decide +kernel
theorem dX2_requireTriple_0 : decode cX2_requireTriple 0 = .ok (.iload_n 0, 1) := by decide +kernel
theorem dX2_requireTriple_1 : decode cX2_requireTriple 1 = .ok (.ifCond .lt 10, 3) := by decide +kernel
theorem dX2_requireTriple_4 : decode cX2_requireTriple 4 = .ok (.iload_n 0, 1) := by decide +kernel
theorem dX2_requireTriple_5 : decode cX2_requireTriple 5 = .ok (.sipush 200, 3) := by decide +kernel
theorem dX2_requireTriple_8 : decode cX2_requireTriple 8 = .ok (.if_icmp .lt 13, 3) := by decide +kernel
theorem dX2_requireTriple_11 : decode cX2_requireTriple 11 = .ok (.new 147, 3) := by decide +kernel
theorem dX2_requireTriple_14 : decode cX2_requireTriple 14 = .ok (.dup, 1) := by decide +kernel
theorem dX2_requireTriple_15 : decode cX2_requireTriple 15 = .ok (.ldc 154, 2) := by decide +kernel
theorem dX2_requireTriple_17 : decode cX2_requireTriple 17 = .ok (.invokespecial 151, 3) := by decide +kernel
theorem dX2_requireTriple_20 : decode cX2_requireTriple 20 = .ok (.athrow, 1) := by decide +kernel
theorem dX2_requireTriple_21 : decode cX2_requireTriple 21 = .ok (.return_, 1) := by decide +kernel
theorem dX2_requireGraph_0 : decode cX2_requireGraph 0 = .ok (.iload_n 0, 1) := by decide +kernel
theorem dX2_requireGraph_1 : decode cX2_requireGraph 1 = .ok (.ifCond .lt 8, 3) := by decide +kernel
theorem dX2_requireGraph_4 : decode cX2_requireGraph 4 = .ok (.iload_n 0, 1) := by decide +kernel
theorem dX2_requireGraph_5 : decode cX2_requireGraph 5 = .ok (.iconst 4, 1) := by decide +kernel
theorem dX2_requireGraph_6 : decode cX2_requireGraph 6 = .ok (.if_icmp .lt 13, 3) := by decide +kernel
theorem dX2_requireGraph_9 : decode cX2_requireGraph 9 = .ok (.new 147, 3) := by decide +kernel
theorem dX2_requireGraph_12 : decode cX2_requireGraph 12 = .ok (.dup, 1) := by decide +kernel
theorem dX2_requireGraph_13 : decode cX2_requireGraph 13 = .ok (.ldc 156, 2) := by decide +kernel
theorem dX2_requireGraph_15 : decode cX2_requireGraph 15 = .ok (.invokespecial 151, 3) := by decide +kernel
theorem dX2_requireGraph_18 : decode cX2_requireGraph 18 = .ok (.athrow, 1) := by decide +kernel
theorem dX2_requireGraph_19 : decode cX2_requireGraph 19 = .ok (.return_, 1) := by decide +kernel
theorem dX2_requireKind_0 : decode cX2_requireKind 0 = .ok (.iload_n 0, 1) := by decide +kernel
theorem dX2_requireKind_1 : decode cX2_requireKind 1 = .ok (.ifCond .eq 18, 3) := by decide +kernel
theorem dX2_requireKind_4 : decode cX2_requireKind 4 = .ok (.iload_n 0, 1) := by decide +kernel
theorem dX2_requireKind_5 : decode cX2_requireKind 5 = .ok (.iconst 1, 1) := by decide +kernel
theorem dX2_requireKind_6 : decode cX2_requireKind 6 = .ok (.if_icmp .eq 13, 3) := by decide +kernel
theorem dX2_requireKind_9 : decode cX2_requireKind 9 = .ok (.new 147, 3) := by decide +kernel
theorem dX2_requireKind_12 : decode cX2_requireKind 12 = .ok (.dup, 1) := by decide +kernel
theorem dX2_requireKind_13 : decode cX2_requireKind 13 = .ok (.ldc 158, 2) := by decide +kernel
theorem dX2_requireKind_15 : decode cX2_requireKind 15 = .ok (.invokespecial 151, 3) := by decide +kernel
theorem dX2_requireKind_18 : decode cX2_requireKind 18 = .ok (.athrow, 1) := by decide +kernel
theorem dX2_requireKind_19 : decode cX2_requireKind 19 = .ok (.return_, 1) := by decide +kernel
set_option maxRecDepth 20000 in
theorem ggX2_requireVersion_X2_leastKept : GoodIn wsX2_requireVersion wsX2_leastKept := goodIn_r _ [8, 3, 9, 10, 11, 12, 13, 14, 15, 16, 17, 18, 19, 20, 21, 22, 23, 24, 25, 26, 27, 28, 29, 30, 31, 32, 33, 34, 35, 36, 37, 38, 39, 40, 41, 42, 43, 44, 45, 46, 47, 48] (by decide +kernel) (by decide +kernel)
set_option maxRecDepth 20000 in
theorem gX2_requireVersion_X2_leastKept : GoodIn wsX2_requireVersion (wsV RX2 117 RX2 yX2_leastKept wsX2_leastKept) := goodIn_app (goodIn_of _ (by decide +kernel)) ggX2_requireVersion_X2_leastKept
theorem dX2_requireVersion_0 : decode cX2_requireVersion 0 = .ok (.iload_n 1, 1) := by decide +kernel
theorem dX2_requireVersion_1 : decode cX2_requireVersion 1 = .ok (.aload_n 0, 1) := by decide +kernel
theorem dX2_requireVersion_2 : decode cX2_requireVersion 2 = .ok (.invokevirtual 117, 3) := by decide +kernel
theorem dX2_requireVersion_5 : decode cX2_requireVersion 5 = .ok (.if_icmp .lt 11, 3) := by decide +kernel
theorem dX2_requireVersion_8 : decode cX2_requireVersion 8 = .ok (.iload_n 1, 1) := by decide +kernel
theorem dX2_requireVersion_9 : decode cX2_requireVersion 9 = .ok (.aload_n 0, 1) := by decide +kernel
theorem dX2_requireVersion_10 : decode cX2_requireVersion 10 = .ok (.getfield 41, 3) := by decide +kernel
theorem dX2_requireVersion_13 : decode cX2_requireVersion 13 = .ok (.if_icmp .le 13, 3) := by decide +kernel
theorem dX2_requireVersion_16 : decode cX2_requireVersion 16 = .ok (.new 147, 3) := by decide +kernel
theorem dX2_requireVersion_19 : decode cX2_requireVersion 19 = .ok (.dup, 1) := by decide +kernel
theorem dX2_requireVersion_20 : decode cX2_requireVersion 20 = .ok (.ldc 160, 2) := by decide +kernel
theorem dX2_requireVersion_22 : decode cX2_requireVersion 22 = .ok (.invokespecial 151, 3) := by decide +kernel
theorem dX2_requireVersion_25 : decode cX2_requireVersion 25 = .ok (.athrow, 1) := by decide +kernel
theorem dX2_requireVersion_26 : decode cX2_requireVersion 26 = .ok (.return_, 1) := by decide +kernel
theorem dX2_requirePinned_0 : decode cX2_requirePinned 0 = .ok (.iload_n 1, 1) := by decide +kernel
theorem dX2_requirePinned_1 : decode cX2_requirePinned 1 = .ok (.ifCond .lt 20, 3) := by decide +kernel
theorem dX2_requirePinned_4 : decode cX2_requirePinned 4 = .ok (.iload_n 1, 1) := by decide +kernel
theorem dX2_requirePinned_5 : decode cX2_requirePinned 5 = .ok (.aload_n 0, 1) := by decide +kernel
theorem dX2_requirePinned_6 : decode cX2_requirePinned 6 = .ok (.getfield 41, 3) := by decide +kernel
theorem dX2_requirePinned_9 : decode cX2_requirePinned 9 = .ok (.if_icmp .gt 12, 3) := by decide +kernel
theorem dX2_requirePinned_12 : decode cX2_requirePinned 12 = .ok (.aload_n 0, 1) := by decide +kernel
theorem dX2_requirePinned_13 : decode cX2_requirePinned 13 = .ok (.getfield 21, 3) := by decide +kernel
theorem dX2_requirePinned_16 : decode cX2_requirePinned 16 = .ok (.iload_n 1, 1) := by decide +kernel
theorem dX2_requirePinned_17 : decode cX2_requirePinned 17 = .ok (.iaload, 1) := by decide +kernel
theorem dX2_requirePinned_18 : decode cX2_requirePinned 18 = .ok (.ifCond .ne 13, 3) := by decide +kernel
theorem dX2_requirePinned_21 : decode cX2_requirePinned 21 = .ok (.new 147, 3) := by decide +kernel
theorem dX2_requirePinned_24 : decode cX2_requirePinned 24 = .ok (.dup, 1) := by decide +kernel
theorem dX2_requirePinned_25 : decode cX2_requirePinned 25 = .ok (.ldc 162, 2) := by decide +kernel
theorem dX2_requirePinned_27 : decode cX2_requirePinned 27 = .ok (.invokespecial 151, 3) := by decide +kernel
theorem dX2_requirePinned_30 : decode cX2_requirePinned 30 = .ok (.athrow, 1) := by decide +kernel
theorem dX2_requirePinned_31 : decode cX2_requirePinned 31 = .ok (.return_, 1) := by decide +kernel
set_option maxRecDepth 20000 in
theorem ggX2_requireNotEnded_X1_hasEnded : GoodIn wsX2_requireNotEnded wsX1_hasEnded := goodIn_r _ [7, 8, 9, 10, 11, 12, 13, 14, 15, 16, 17, 18, 19] (by decide +kernel) (by decide +kernel)
set_option maxRecDepth 20000 in
theorem gX2_requireNotEnded_X1_hasEnded : GoodIn wsX2_requireNotEnded (wsV RX2 164 RX1 yX1_hasEnded wsX1_hasEnded) := goodIn_app (goodIn_of _ (by decide +kernel)) ggX2_requireNotEnded_X1_hasEnded
theorem dX2_requireNotEnded_0 : decode cX2_requireNotEnded 0 = .ok (.aload_n 0, 1) := by decide +kernel
theorem dX2_requireNotEnded_1 : decode cX2_requireNotEnded 1 = .ok (.invokevirtual 164, 3) := by decide +kernel
theorem dX2_requireNotEnded_4 : decode cX2_requireNotEnded 4 = .ok (.ifCond .eq 13, 3) := by decide +kernel
theorem dX2_requireNotEnded_7 : decode cX2_requireNotEnded 7 = .ok (.new 168, 3) := by decide +kernel
theorem dX2_requireNotEnded_10 : decode cX2_requireNotEnded 10 = .ok (.dup, 1) := by decide +kernel
theorem dX2_requireNotEnded_11 : decode cX2_requireNotEnded 11 = .ok (.ldc 170, 2) := by decide +kernel
theorem dX2_requireNotEnded_13 : decode cX2_requireNotEnded 13 = .ok (.invokespecial 172, 3) := by decide +kernel
theorem dX2_requireNotEnded_16 : decode cX2_requireNotEnded 16 = .ok (.athrow, 1) := by decide +kernel
theorem dX2_requireNotEnded_17 : decode cX2_requireNotEnded 17 = .ok (.return_, 1) := by decide +kernel
theorem dX2_requireNotWaiting_0 : decode cX2_requireNotWaiting 0 = .ok (.aload_n 0, 1) := by decide +kernel
theorem dX2_requireNotWaiting_1 : decode cX2_requireNotWaiting 1 = .ok (.getfield 128, 3) := by decide +kernel
theorem dX2_requireNotWaiting_4 : decode cX2_requireNotWaiting 4 = .ok (.iconst 1, 1) := by decide +kernel
theorem dX2_requireNotWaiting_5 : decode cX2_requireNotWaiting 5 = .ok (.if_icmp .ne 13, 3) := by decide +kernel
theorem dX2_requireNotWaiting_8 : decode cX2_requireNotWaiting 8 = .ok (.new 168, 3) := by decide +kernel
theorem dX2_requireNotWaiting_11 : decode cX2_requireNotWaiting 11 = .ok (.dup, 1) := by decide +kernel
theorem dX2_requireNotWaiting_12 : decode cX2_requireNotWaiting 12 = .ok (.ldc 173, 2) := by decide +kernel
theorem dX2_requireNotWaiting_14 : decode cX2_requireNotWaiting 14 = .ok (.invokespecial 172, 3) := by decide +kernel
theorem dX2_requireNotWaiting_17 : decode cX2_requireNotWaiting 17 = .ok (.athrow, 1) := by decide +kernel
theorem dX2_requireNotWaiting_18 : decode cX2_requireNotWaiting 18 = .ok (.return_, 1) := by decide +kernel
theorem dX2_requireOpenWriter_0 : decode cX2_requireOpenWriter 0 = .ok (.aload_n 0, 1) := by decide +kernel
theorem dX2_requireOpenWriter_1 : decode cX2_requireOpenWriter 1 = .ok (.getfield 175, 3) := by decide +kernel
theorem dX2_requireOpenWriter_4 : decode cX2_requireOpenWriter 4 = .ok (.ifCond .eq 10, 3) := by decide +kernel
theorem dX2_requireOpenWriter_7 : decode cX2_requireOpenWriter 7 = .ok (.aload_n 0, 1) := by decide +kernel
theorem dX2_requireOpenWriter_8 : decode cX2_requireOpenWriter 8 = .ok (.getfield 128, 3) := by decide +kernel
theorem dX2_requireOpenWriter_11 : decode cX2_requireOpenWriter 11 = .ok (.ifCond .eq 13, 3) := by decide +kernel
theorem dX2_requireOpenWriter_14 : decode cX2_requireOpenWriter 14 = .ok (.new 168, 3) := by decide +kernel
theorem dX2_requireOpenWriter_17 : decode cX2_requireOpenWriter 17 = .ok (.dup, 1) := by decide +kernel
theorem dX2_requireOpenWriter_18 : decode cX2_requireOpenWriter 18 = .ok (.ldc 179, 2) := by decide +kernel
theorem dX2_requireOpenWriter_20 : decode cX2_requireOpenWriter 20 = .ok (.invokespecial 172, 3) := by decide +kernel
theorem dX2_requireOpenWriter_23 : decode cX2_requireOpenWriter 23 = .ok (.athrow, 1) := by decide +kernel
theorem dX2_requireOpenWriter_24 : decode cX2_requireOpenWriter 24 = .ok (.return_, 1) := by decide +kernel
set_option maxRecDepth 20000 in
theorem ggX2_enter_X1_init : GoodIn wsX2_enter wsX1_init := goodIn_r _ [10, 11, 12, 13, 14, 15, 16, 17, 18, 19, 35, 36, 37, 38, 39, 40, 41, 42, 43, 44, 45] (by decide +kernel) (by decide +kernel)
set_option maxRecDepth 20000 in
theorem gX2_enter_X1_init : GoodIn wsX2_enter (wsX1_init) := ggX2_enter_X1_init
theorem dX2_enter_0 : decode cX2_enter 0 = .ok (.aload_n 0, 1) := by decide +kernel
theorem dX2_enter_1 : decode cX2_enter 1 = .ok (.getfield 144, 3) := by decide +kernel
theorem dX2_enter_4 : decode cX2_enter 4 = .ok (.bipush 60, 2) := by decide +kernel
theorem dX2_enter_6 : decode cX2_enter 6 = .ok (.if_icmp .lt 13, 3) := by decide +kernel
theorem dX2_enter_9 : decode cX2_enter 9 = .ok (.new 168, 3) := by decide +kernel
theorem dX2_enter_12 : decode cX2_enter 12 = .ok (.dup, 1) := by decide +kernel
theorem dX2_enter_13 : decode cX2_enter 13 = .ok (.ldc 181, 2) := by decide +kernel
theorem dX2_enter_15 : decode cX2_enter 15 = .ok (.invokespecial 172, 3) := by decide +kernel
theorem dX2_enter_18 : decode cX2_enter 18 = .ok (.athrow, 1) := by decide +kernel
theorem dX2_enter_19 : decode cX2_enter 19 = .ok (.aload_n 0, 1) := by decide +kernel
theorem dX2_enter_20 : decode cX2_enter 20 = .ok (.getfield 144, 3) := by decide +kernel
theorem dX2_enter_23 : decode cX2_enter 23 = .ok (.istore_n 3, 1) := by decide +kernel
theorem dX2_enter_24 : decode cX2_enter 24 = .ok (.aload_n 0, 1) := by decide +kernel
theorem dX2_enter_25 : decode cX2_enter 25 = .ok (.getfield 11, 3) := by decide +kernel
theorem dX2_enter_28 : decode cX2_enter 28 = .ok (.iload_n 3, 1) := by decide +kernel
theorem dX2_enter_29 : decode cX2_enter 29 = .ok (.new 9, 3) := by decide +kernel
theorem dX2_enter_32 : decode cX2_enter 32 = .ok (.dup, 1) := by decide +kernel
theorem dX2_enter_33 : decode cX2_enter 33 = .ok (.iload_n 3, 1) := by decide +kernel
theorem dX2_enter_34 : decode cX2_enter 34 = .ok (.iload_n 1, 1) := by decide +kernel
theorem dX2_enter_35 : decode cX2_enter 35 = .ok (.iload_n 2, 1) := by decide +kernel
theorem dX2_enter_36 : decode cX2_enter 36 = .ok (.invokespecial 183, 3) := by decide +kernel
theorem dX2_enter_39 : decode cX2_enter 39 = .ok (.aastore, 1) := by decide +kernel
theorem dX2_enter_40 : decode cX2_enter 40 = .ok (.aload_n 0, 1) := by decide +kernel
theorem dX2_enter_41 : decode cX2_enter 41 = .ok (.dup, 1) := by decide +kernel
theorem dX2_enter_42 : decode cX2_enter 42 = .ok (.getfield 144, 3) := by decide +kernel
theorem dX2_enter_45 : decode cX2_enter 45 = .ok (.iconst 1, 1) := by decide +kernel
theorem dX2_enter_46 : decode cX2_enter 46 = .ok (.iadd, 1) := by decide +kernel
theorem dX2_enter_47 : decode cX2_enter 47 = .ok (.putfield 144, 3) := by decide +kernel
theorem dX2_enter_50 : decode cX2_enter 50 = .ok (.iload_n 3, 1) := by decide +kernel
theorem dX2_enter_51 : decode cX2_enter 51 = .ok (.ireturn, 1) := by decide +kernel
set_option maxRecDepth 20000 in
theorem ggX2_finish_X2_queueThoseWaitingFor : GoodIn wsX2_finish wsX2_queueThoseWaitingFor := goodIn_r _ [8, 9, 10, 11, 12, 7, 13, 14, 15, 2, 16, 17, 18, 19, 20, 21, 22, 23, 24, 25, 26, 27, 28, 29, 30, 31, 32, 33, 34, 35, 36, 37, 38, 39, 40, 41, 42, 43, 44, 45, 46, 47, 48] (by decide +kernel) (by decide +kernel)
set_option maxRecDepth 20000 in
theorem gX2_finish_X2_queueThoseWaitingFor : GoodIn wsX2_finish (wsV RX2 186 RX2 yX2_queueThoseWaitingFor wsX2_queueThoseWaitingFor) := goodIn_app (goodIn_of _ (by decide +kernel)) ggX2_finish_X2_queueThoseWaitingFor
theorem dX2_finish_0 : decode cX2_finish 0 = .ok (.aload_n 1, 1) := by decide +kernel
theorem dX2_finish_1 : decode cX2_finish 1 = .ok (.iload_n 2, 1) := by decide +kernel
theorem dX2_finish_2 : decode cX2_finish 2 = .ok (.putfield 128, 3) := by decide +kernel
theorem dX2_finish_5 : decode cX2_finish 5 = .ok (.aload_n 1, 1) := by decide +kernel
theorem dX2_finish_6 : decode cX2_finish 6 = .ok (.aconst_null, 1) := by decide +kernel
theorem dX2_finish_7 : decode cX2_finish 7 = .ok (.putfield 131, 3) := by decide +kernel
theorem dX2_finish_10 : decode cX2_finish 10 = .ok (.iconst 0, 1) := by decide +kernel
theorem dX2_finish_11 : decode cX2_finish 11 = .ok (.istore_n 3, 1) := by decide +kernel
theorem dX2_finish_12 : decode cX2_finish 12 = .ok (.iload_n 3, 1) := by decide +kernel
theorem dX2_finish_13 : decode cX2_finish 13 = .ok (.sipush 200, 3) := by decide +kernel
theorem dX2_finish_16 : decode cX2_finish 16 = .ok (.if_icmp .ge 26, 3) := by decide +kernel
theorem dX2_finish_19 : decode cX2_finish 19 = .ok (.aload_n 0, 1) := by decide +kernel
theorem dX2_finish_20 : decode cX2_finish 20 = .ok (.getfield 25, 3) := by decide +kernel
theorem dX2_finish_23 : decode cX2_finish 23 = .ok (.iload_n 3, 1) := by decide +kernel
theorem dX2_finish_24 : decode cX2_finish 24 = .ok (.aaload, 1) := by decide +kernel
theorem dX2_finish_25 : decode cX2_finish 25 = .ok (.aload_n 1, 1) := by decide +kernel
theorem dX2_finish_26 : decode cX2_finish 26 = .ok (.if_acmp .ne 10, 3) := by decide +kernel
theorem dX2_finish_29 : decode cX2_finish 29 = .ok (.aload_n 0, 1) := by decide +kernel
theorem dX2_finish_30 : decode cX2_finish 30 = .ok (.getfield 25, 3) := by decide +kernel
theorem dX2_finish_33 : decode cX2_finish 33 = .ok (.iload_n 3, 1) := by decide +kernel
theorem dX2_finish_34 : decode cX2_finish 34 = .ok (.aconst_null, 1) := by decide +kernel
theorem dX2_finish_35 : decode cX2_finish 35 = .ok (.aastore, 1) := by decide +kernel
theorem dX2_finish_36 : decode cX2_finish 36 = .ok (.iinc 3 1, 3) := by decide +kernel
theorem dX2_finish_39 : decode cX2_finish 39 = .ok (.goto (-27), 3) := by decide +kernel
theorem dX2_finish_42 : decode cX2_finish 42 = .ok (.aload_n 0, 1) := by decide +kernel
theorem dX2_finish_43 : decode cX2_finish 43 = .ok (.aload_n 1, 1) := by decide +kernel
theorem dX2_finish_44 : decode cX2_finish 44 = .ok (.invokevirtual 186, 3) := by decide +kernel
theorem dX2_finish_47 : decode cX2_finish 47 = .ok (.return_, 1) := by decide +kernel
theorem dX2_countOwnWrites_0 : decode cX2_countOwnWrites 0 = .ok (.iconst 0, 1) := by decide +kernel
theorem dX2_countOwnWrites_1 : decode cX2_countOwnWrites 1 = .ok (.istore_n 2, 1) := by decide +kernel
theorem dX2_countOwnWrites_2 : decode cX2_countOwnWrites 2 = .ok (.iconst 0, 1) := by decide +kernel
theorem dX2_countOwnWrites_3 : decode cX2_countOwnWrites 3 = .ok (.istore_n 3, 1) := by decide +kernel
theorem dX2_countOwnWrites_4 : decode cX2_countOwnWrites 4 = .ok (.iload_n 3, 1) := by decide +kernel
theorem dX2_countOwnWrites_5 : decode cX2_countOwnWrites 5 = .ok (.sipush 200, 3) := by decide +kernel
theorem dX2_countOwnWrites_8 : decode cX2_countOwnWrites 8 = .ok (.if_icmp .ge 22, 3) := by decide +kernel
theorem dX2_countOwnWrites_11 : decode cX2_countOwnWrites 11 = .ok (.aload_n 0, 1) := by decide +kernel
theorem dX2_countOwnWrites_12 : decode cX2_countOwnWrites 12 = .ok (.getfield 25, 3) := by decide +kernel
theorem dX2_countOwnWrites_15 : decode cX2_countOwnWrites 15 = .ok (.iload_n 3, 1) := by decide +kernel
theorem dX2_countOwnWrites_16 : decode cX2_countOwnWrites 16 = .ok (.aaload, 1) := by decide +kernel
theorem dX2_countOwnWrites_17 : decode cX2_countOwnWrites 17 = .ok (.aload_n 1, 1) := by decide +kernel
theorem dX2_countOwnWrites_18 : decode cX2_countOwnWrites 18 = .ok (.if_acmp .ne 6, 3) := by decide +kernel
theorem dX2_countOwnWrites_21 : decode cX2_countOwnWrites 21 = .ok (.iinc 2 1, 3) := by decide +kernel
theorem dX2_countOwnWrites_24 : decode cX2_countOwnWrites 24 = .ok (.iinc 3 1, 3) := by decide +kernel
theorem dX2_countOwnWrites_27 : decode cX2_countOwnWrites 27 = .ok (.goto (-23), 3) := by decide +kernel
theorem dX2_countOwnWrites_30 : decode cX2_countOwnWrites 30 = .ok (.iload_n 2, 1) := by decide +kernel
theorem dX2_countOwnWrites_31 : decode cX2_countOwnWrites 31 = .ok (.ireturn, 1) := by decide +kernel
set_option maxRecDepth 20000 in
theorem ggX2_isRefused_X2_leastChangedNote : GoodIn wsX2_isRefused wsX2_leastChangedNote := goodIn_r _ [6, 7, 8, 9, 10, 11, 5, 12, 13, 14, 15, 16, 17, 18, 19, 20, 21, 22, 23, 24, 25, 26, 27, 28, 29, 30, 31, 32, 33, 34, 35, 36, 37, 38, 39, 40, 41, 42, 43, 44, 45, 46, 47] (by decide +kernel) (by decide +kernel)
set_option maxRecDepth 20000 in
theorem gX2_isRefused_X2_leastChangedNote : GoodIn wsX2_isRefused (wsV RX2 189 RX2 yX2_leastChangedNote wsX2_leastChangedNote) := goodIn_app (goodIn_of _ (by decide +kernel)) ggX2_isRefused_X2_leastChangedNote
theorem dX2_isRefused_0 : decode cX2_isRefused 0 = .ok (.aload_n 1, 1) := by decide +kernel
theorem dX2_isRefused_1 : decode cX2_isRefused 1 = .ok (.getfield 128, 3) := by decide +kernel
theorem dX2_isRefused_4 : decode cX2_isRefused 4 = .ok (.iconst 2, 1) := by decide +kernel
theorem dX2_isRefused_5 : decode cX2_isRefused 5 = .ok (.if_icmp .eq 11, 3) := by decide +kernel
theorem dX2_isRefused_8 : decode cX2_isRefused 8 = .ok (.aload_n 0, 1) := by decide +kernel
theorem dX2_isRefused_9 : decode cX2_isRefused 9 = .ok (.aload_n 1, 1) := by decide +kernel
theorem dX2_isRefused_10 : decode cX2_isRefused 10 = .ok (.invokevirtual 189, 3) := by decide +kernel
theorem dX2_isRefused_13 : decode cX2_isRefused 13 = .ok (.ifCond .lt 7, 3) := by decide +kernel
theorem dX2_isRefused_16 : decode cX2_isRefused 16 = .ok (.iconst 1, 1) := by decide +kernel
theorem dX2_isRefused_17 : decode cX2_isRefused 17 = .ok (.goto 4, 3) := by decide +kernel
theorem dX2_isRefused_20 : decode cX2_isRefused 20 = .ok (.iconst 0, 1) := by decide +kernel
theorem dX2_isRefused_21 : decode cX2_isRefused 21 = .ok (.ireturn, 1) := by decide +kernel
set_option maxRecDepth 20000 in
theorem ggX2_giveUp_X2_leastChangedNote : GoodIn wsX2_giveUp wsX2_leastChangedNote := goodIn_r _ [7, 8, 9, 10, 11, 12, 6, 13, 14, 15, 16, 17, 18, 19, 44, 45, 46, 47, 48, 49, 50, 51, 52, 53, 54, 55, 56, 57, 58, 59, 60, 61, 62, 63, 64, 65, 66, 67, 68, 69, 70, 71, 72] (by decide +kernel) (by decide +kernel)
set_option maxRecDepth 20000 in
theorem gX2_giveUp_X2_leastChangedNote : GoodIn wsX2_giveUp (wsV RX2 189 RX2 yX2_leastChangedNote wsX2_leastChangedNote) := goodIn_app (goodIn_of _ (by decide +kernel)) ggX2_giveUp_X2_leastChangedNote
set_option maxRecDepth 20000 in
theorem ggX2_giveUp_X2_finish : GoodIn wsX2_giveUp wsX2_finish := goodIn_r _ [23, 1, 24, 25, 26, 27, 28, 6, 29, 30, 31, 32, 33, 34, 35, 36, 37, 38, 39, 40, 41, 42, 43, 44, 45, 46, 47, 48, 49, 50, 51, 52, 53, 54, 55, 56, 57, 58, 59, 60, 61, 62, 63, 64, 65, 66, 67, 68, 69] (by decide +kernel) (by decide +kernel)
set_option maxRecDepth 20000 in
theorem gX2_giveUp_X2_finish : GoodIn wsX2_giveUp (wsV RX2 110 RX2 yX2_finish wsX2_finish) := goodIn_app (goodIn_of _ (by decide +kernel)) ggX2_giveUp_X2_finish
theorem dX2_giveUp_0 : decode cX2_giveUp 0 = .ok (.aload_n 1, 1) := by decide +kernel
theorem dX2_giveUp_1 : decode cX2_giveUp 1 = .ok (.getfield 128, 3) := by decide +kernel
theorem dX2_giveUp_4 : decode cX2_giveUp 4 = .ok (.iconst 2, 1) := by decide +kernel
theorem dX2_giveUp_5 : decode cX2_giveUp 5 = .ok (.if_icmp .eq 23, 3) := by decide +kernel
theorem dX2_giveUp_8 : decode cX2_giveUp 8 = .ok (.aload_n 0, 1) := by decide +kernel
theorem dX2_giveUp_9 : decode cX2_giveUp 9 = .ok (.aload_n 1, 1) := by decide +kernel
theorem dX2_giveUp_10 : decode cX2_giveUp 10 = .ok (.invokevirtual 189, 3) := by decide +kernel
theorem dX2_giveUp_13 : decode cX2_giveUp 13 = .ok (.istore_n 2, 1) := by decide +kernel
theorem dX2_giveUp_14 : decode cX2_giveUp 14 = .ok (.iload_n 2, 1) := by decide +kernel
theorem dX2_giveUp_15 : decode cX2_giveUp 15 = .ok (.ifCond .lt 13, 3) := by decide +kernel
theorem dX2_giveUp_18 : decode cX2_giveUp 18 = .ok (.aload_n 0, 1) := by decide +kernel
theorem dX2_giveUp_19 : decode cX2_giveUp 19 = .ok (.getfield 35, 3) := by decide +kernel
theorem dX2_giveUp_22 : decode cX2_giveUp 22 = .ok (.iload_n 2, 1) := by decide +kernel
theorem dX2_giveUp_23 : decode cX2_giveUp 23 = .ok (.dup2, 1) := by decide +kernel
theorem dX2_giveUp_24 : decode cX2_giveUp 24 = .ok (.iaload, 1) := by decide +kernel
theorem dX2_giveUp_25 : decode cX2_giveUp 25 = .ok (.iconst 1, 1) := by decide +kernel
theorem dX2_giveUp_26 : decode cX2_giveUp 26 = .ok (.iadd, 1) := by decide +kernel
theorem dX2_giveUp_27 : decode cX2_giveUp 27 = .ok (.iastore, 1) := by decide +kernel
theorem dX2_giveUp_28 : decode cX2_giveUp 28 = .ok (.aload_n 0, 1) := by decide +kernel
theorem dX2_giveUp_29 : decode cX2_giveUp 29 = .ok (.aload_n 1, 1) := by decide +kernel
theorem dX2_giveUp_30 : decode cX2_giveUp 30 = .ok (.iconst 4, 1) := by decide +kernel
theorem dX2_giveUp_31 : decode cX2_giveUp 31 = .ok (.invokevirtual 110, 3) := by decide +kernel
theorem dX2_giveUp_34 : decode cX2_giveUp 34 = .ok (.iconst 0, 1) := by decide +kernel
theorem dX2_giveUp_35 : decode cX2_giveUp 35 = .ok (.ireturn, 1) := by decide +kernel
set_option maxRecDepth 20000 in
theorem ggX2_makeVersion_X2_addChanges : GoodIn wsX2_makeVersion wsX2_addChanges := goodIn_r _ [7, 8, 9, 2, 10, 11, 12, 13, 14, 15, 16, 17, 6, 18, 19, 20, 21, 22, 23, 24, 25, 26, 27, 28, 29, 30, 55, 56, 57, 58, 59, 60, 61, 62, 63, 64, 65, 66, 67, 68, 69, 70, 71, 72, 73, 74, 75, 76, 77, 78, 79, 80, 81, 82, 83] (by decide +kernel) (by decide +kernel)
set_option maxRecDepth 20000 in
theorem gX2_makeVersion_X2_addChanges : GoodIn wsX2_makeVersion (wsV RX2 192 RX2 yX2_addChanges wsX2_addChanges) := goodIn_app (goodIn_of _ (by decide +kernel)) ggX2_makeVersion_X2_addChanges
set_option maxRecDepth 20000 in
theorem ggX2_makeVersion_X2_finish : GoodIn wsX2_makeVersion wsX2_finish := goodIn_r _ [34, 35, 36, 8, 37, 38, 39, 6, 40, 41, 42, 43, 44, 45, 46, 47, 48, 49, 50, 51, 52, 53, 54, 70, 71, 72, 73, 74, 75, 76, 77, 78, 79, 80, 55, 56, 57, 58, 59, 60, 61, 62, 63, 64, 65, 66, 67, 68, 69] (by decide +kernel) (by decide +kernel)
set_option maxRecDepth 20000 in
theorem gX2_makeVersion_X2_finish : GoodIn wsX2_makeVersion (wsV RX2 110 RX2 yX2_finish wsX2_finish) := goodIn_app (goodIn_of _ (by decide +kernel)) ggX2_makeVersion_X2_finish
theorem dX2_makeVersion_0 : decode cX2_makeVersion 0 = .ok (.aload_n 0, 1) := by decide +kernel
theorem dX2_makeVersion_1 : decode cX2_makeVersion 1 = .ok (.getfield 41, 3) := by decide +kernel
theorem dX2_makeVersion_4 : decode cX2_makeVersion 4 = .ok (.iconst 1, 1) := by decide +kernel
theorem dX2_makeVersion_5 : decode cX2_makeVersion 5 = .ok (.iadd, 1) := by decide +kernel
theorem dX2_makeVersion_6 : decode cX2_makeVersion 6 = .ok (.istore_n 2, 1) := by decide +kernel
theorem dX2_makeVersion_7 : decode cX2_makeVersion 7 = .ok (.aload_n 0, 1) := by decide +kernel
theorem dX2_makeVersion_8 : decode cX2_makeVersion 8 = .ok (.aload_n 1, 1) := by decide +kernel
theorem dX2_makeVersion_9 : decode cX2_makeVersion 9 = .ok (.iload_n 2, 1) := by decide +kernel
theorem dX2_makeVersion_10 : decode cX2_makeVersion 10 = .ok (.invokevirtual 192, 3) := by decide +kernel
theorem dX2_makeVersion_13 : decode cX2_makeVersion 13 = .ok (.ifCond .le 11, 3) := by decide +kernel
theorem dX2_makeVersion_16 : decode cX2_makeVersion 16 = .ok (.aload_n 0, 1) := by decide +kernel
theorem dX2_makeVersion_17 : decode cX2_makeVersion 17 = .ok (.iload_n 2, 1) := by decide +kernel
theorem dX2_makeVersion_18 : decode cX2_makeVersion 18 = .ok (.putfield 41, 3) := by decide +kernel
theorem dX2_makeVersion_21 : decode cX2_makeVersion 21 = .ok (.goto 8, 3) := by decide +kernel
theorem dX2_makeVersion_24 : decode cX2_makeVersion 24 = .ok (.aload_n 1, 1) := by decide +kernel
theorem dX2_makeVersion_25 : decode cX2_makeVersion 25 = .ok (.getfield 87, 3) := by decide +kernel
theorem dX2_makeVersion_28 : decode cX2_makeVersion 28 = .ok (.istore_n 2, 1) := by decide +kernel
theorem dX2_makeVersion_29 : decode cX2_makeVersion 29 = .ok (.aload_n 0, 1) := by decide +kernel
theorem dX2_makeVersion_30 : decode cX2_makeVersion 30 = .ok (.aload_n 1, 1) := by decide +kernel
theorem dX2_makeVersion_31 : decode cX2_makeVersion 31 = .ok (.iconst 3, 1) := by decide +kernel
theorem dX2_makeVersion_32 : decode cX2_makeVersion 32 = .ok (.invokevirtual 110, 3) := by decide +kernel
theorem dX2_makeVersion_35 : decode cX2_makeVersion 35 = .ok (.iload_n 2, 1) := by decide +kernel
theorem dX2_makeVersion_36 : decode cX2_makeVersion 36 = .ok (.ireturn, 1) := by decide +kernel
set_option maxRecDepth 20000 in
theorem ggX2_addChanges_X2_isThere : GoodIn wsX2_addChanges wsX2_isThere := goodIn_r _ [13, 4, 14, 15, 16, 26, 27, 28, 29, 30, 31, 32, 33, 34, 35, 36, 37, 38, 39, 40, 52, 53, 54] (by decide +kernel) (by decide +kernel)
set_option maxRecDepth 20000 in
theorem gX2_addChanges_X2_isThere : GoodIn wsX2_addChanges (wsV RX2 90 RX2 yX2_isThere wsX2_isThere) := goodIn_app (goodIn_of _ (by decide +kernel)) ggX2_addChanges_X2_isThere
set_option maxRecDepth 20000 in
theorem ggX2_addChanges_X0_init : GoodIn wsX2_addChanges wsX0_init := goodIn_r _ [19, 20, 21, 22, 23, 24, 25, 52, 53, 54] (by decide +kernel) (by decide +kernel)
set_option maxRecDepth 20000 in
theorem gX2_addChanges_X0_init : GoodIn wsX2_addChanges (wsX0_init) := ggX2_addChanges_X0_init
theorem dX2_addChanges_0 : decode cX2_addChanges 0 = .ok (.iconst 0, 1) := by decide +kernel
theorem dX2_addChanges_1 : decode cX2_addChanges 1 = .ok (.istore_n 3, 1) := by decide +kernel
theorem dX2_addChanges_2 : decode cX2_addChanges 2 = .ok (.iconst 0, 1) := by decide +kernel
theorem dX2_addChanges_3 : decode cX2_addChanges 3 = .ok (.istore 4, 2) := by decide +kernel
theorem dX2_addChanges_5 : decode cX2_addChanges 5 = .ok (.iload 4, 2) := by decide +kernel
theorem dX2_addChanges_7 : decode cX2_addChanges 7 = .ok (.sipush 200, 3) := by decide +kernel
theorem dX2_addChanges_10 : decode cX2_addChanges 10 = .ok (.if_icmp .ge 72, 3) := by decide +kernel
theorem dX2_addChanges_13 : decode cX2_addChanges 13 = .ok (.aload_n 0, 1) := by decide +kernel
theorem dX2_addChanges_14 : decode cX2_addChanges 14 = .ok (.getfield 25, 3) := by decide +kernel
theorem dX2_addChanges_17 : decode cX2_addChanges 17 = .ok (.iload 4, 2) := by decide +kernel
theorem dX2_addChanges_19 : decode cX2_addChanges 19 = .ok (.aaload, 1) := by decide +kernel
theorem dX2_addChanges_20 : decode cX2_addChanges 20 = .ok (.aload_n 1, 1) := by decide +kernel
theorem dX2_addChanges_21 : decode cX2_addChanges 21 = .ok (.if_acmp .ne 55, 3) := by decide +kernel
theorem dX2_addChanges_24 : decode cX2_addChanges 24 = .ok (.aload_n 0, 1) := by decide +kernel
theorem dX2_addChanges_25 : decode cX2_addChanges 25 = .ok (.getfield 28, 3) := by decide +kernel
theorem dX2_addChanges_28 : decode cX2_addChanges 28 = .ok (.iload 4, 2) := by decide +kernel
theorem dX2_addChanges_30 : decode cX2_addChanges 30 = .ok (.baload, 1) := by decide +kernel
theorem dX2_addChanges_31 : decode cX2_addChanges 31 = .ok (.aload_n 0, 1) := by decide +kernel
theorem dX2_addChanges_32 : decode cX2_addChanges 32 = .ok (.iload 4, 2) := by decide +kernel
theorem dX2_addChanges_34 : decode cX2_addChanges 34 = .ok (.aload_n 1, 1) := by decide +kernel
theorem dX2_addChanges_35 : decode cX2_addChanges 35 = .ok (.getfield 87, 3) := by decide +kernel
theorem dX2_addChanges_38 : decode cX2_addChanges 38 = .ok (.invokevirtual 90, 3) := by decide +kernel
theorem dX2_addChanges_41 : decode cX2_addChanges 41 = .ok (.if_icmp .eq 35, 3) := by decide +kernel
theorem dX2_addChanges_44 : decode cX2_addChanges 44 = .ok (.aload_n 0, 1) := by decide +kernel
theorem dX2_addChanges_45 : decode cX2_addChanges 45 = .ok (.getfield 17, 3) := by decide +kernel
theorem dX2_addChanges_48 : decode cX2_addChanges 48 = .ok (.iload 4, 2) := by decide +kernel
theorem dX2_addChanges_50 : decode cX2_addChanges 50 = .ok (.new 15, 3) := by decide +kernel
theorem dX2_addChanges_53 : decode cX2_addChanges 53 = .ok (.dup, 1) := by decide +kernel
theorem dX2_addChanges_54 : decode cX2_addChanges 54 = .ok (.iload_n 2, 1) := by decide +kernel
theorem dX2_addChanges_55 : decode cX2_addChanges 55 = .ok (.aload_n 0, 1) := by decide +kernel
theorem dX2_addChanges_56 : decode cX2_addChanges 56 = .ok (.getfield 28, 3) := by decide +kernel
theorem dX2_addChanges_59 : decode cX2_addChanges 59 = .ok (.iload 4, 2) := by decide +kernel
theorem dX2_addChanges_61 : decode cX2_addChanges 61 = .ok (.baload, 1) := by decide +kernel
theorem dX2_addChanges_62 : decode cX2_addChanges 62 = .ok (.aload_n 0, 1) := by decide +kernel
theorem dX2_addChanges_63 : decode cX2_addChanges 63 = .ok (.getfield 17, 3) := by decide +kernel
theorem dX2_addChanges_66 : decode cX2_addChanges 66 = .ok (.iload 4, 2) := by decide +kernel
theorem dX2_addChanges_68 : decode cX2_addChanges 68 = .ok (.aaload, 1) := by decide +kernel
theorem dX2_addChanges_69 : decode cX2_addChanges 69 = .ok (.invokespecial 196, 3) := by decide +kernel
theorem dX2_addChanges_72 : decode cX2_addChanges 72 = .ok (.aastore, 1) := by decide +kernel
theorem dX2_addChanges_73 : decode cX2_addChanges 73 = .ok (.iinc 3 1, 3) := by decide +kernel
theorem dX2_addChanges_76 : decode cX2_addChanges 76 = .ok (.iinc 4 1, 3) := by decide +kernel
theorem dX2_addChanges_79 : decode cX2_addChanges 79 = .ok (.goto (-74), 3) := by decide +kernel
theorem dX2_addChanges_82 : decode cX2_addChanges 82 = .ok (.aload_n 0, 1) := by decide +kernel
theorem dX2_addChanges_83 : decode cX2_addChanges 83 = .ok (.dup, 1) := by decide +kernel
theorem dX2_addChanges_84 : decode cX2_addChanges 84 = .ok (.getfield 125, 3) := by decide +kernel
theorem dX2_addChanges_87 : decode cX2_addChanges 87 = .ok (.iload_n 3, 1) := by decide +kernel
theorem dX2_addChanges_88 : decode cX2_addChanges 88 = .ok (.iadd, 1) := by decide +kernel
theorem dX2_addChanges_89 : decode cX2_addChanges 89 = .ok (.putfield 125, 3) := by decide +kernel
theorem dX2_addChanges_92 : decode cX2_addChanges 92 = .ok (.iload_n 3, 1) := by decide +kernel
theorem dX2_addChanges_93 : decode cX2_addChanges 93 = .ok (.ireturn, 1) := by decide +kernel
set_option maxRecDepth 20000 in
theorem ggX2_leastChangedNote_X2_isGraphChangedSince : GoodIn wsX2_leastChangedNote wsX2_isGraphChangedSince := goodIn_r _ [7, 8, 9, 10, 6, 11, 12, 13, 25, 26, 27, 28, 29, 30, 31, 32, 33, 34, 35, 36, 37, 38, 39, 40, 41, 42] (by decide +kernel) (by decide +kernel)
set_option maxRecDepth 20000 in
theorem gX2_leastChangedNote_X2_isGraphChangedSince : GoodIn wsX2_leastChangedNote (wsV RX2 199 RX2 yX2_isGraphChangedSince wsX2_isGraphChangedSince) := goodIn_app (goodIn_of _ (by decide +kernel)) ggX2_leastChangedNote_X2_isGraphChangedSince
theorem dX2_leastChangedNote_0 : decode cX2_leastChangedNote 0 = .ok (.iconst 0, 1) := by decide +kernel
theorem dX2_leastChangedNote_1 : decode cX2_leastChangedNote 1 = .ok (.istore_n 2, 1) := by decide +kernel
theorem dX2_leastChangedNote_2 : decode cX2_leastChangedNote 2 = .ok (.iload_n 2, 1) := by decide +kernel
theorem dX2_leastChangedNote_3 : decode cX2_leastChangedNote 3 = .ok (.iconst 4, 1) := by decide +kernel
theorem dX2_leastChangedNote_4 : decode cX2_leastChangedNote 4 = .ok (.if_icmp .ge 32, 3) := by decide +kernel
theorem dX2_leastChangedNote_7 : decode cX2_leastChangedNote 7 = .ok (.aload_n 1, 1) := by decide +kernel
theorem dX2_leastChangedNote_8 : decode cX2_leastChangedNote 8 = .ok (.getfield 78, 3) := by decide +kernel
theorem dX2_leastChangedNote_11 : decode cX2_leastChangedNote 11 = .ok (.iload_n 2, 1) := by decide +kernel
theorem dX2_leastChangedNote_12 : decode cX2_leastChangedNote 12 = .ok (.baload, 1) := by decide +kernel
theorem dX2_leastChangedNote_13 : decode cX2_leastChangedNote 13 = .ok (.ifCond .eq 17, 3) := by decide +kernel
theorem dX2_leastChangedNote_16 : decode cX2_leastChangedNote 16 = .ok (.aload_n 0, 1) := by decide +kernel
theorem dX2_leastChangedNote_17 : decode cX2_leastChangedNote 17 = .ok (.iload_n 2, 1) := by decide +kernel
theorem dX2_leastChangedNote_18 : decode cX2_leastChangedNote 18 = .ok (.aload_n 1, 1) := by decide +kernel
theorem dX2_leastChangedNote_19 : decode cX2_leastChangedNote 19 = .ok (.getfield 87, 3) := by decide +kernel
theorem dX2_leastChangedNote_22 : decode cX2_leastChangedNote 22 = .ok (.invokevirtual 199, 3) := by decide +kernel
theorem dX2_leastChangedNote_25 : decode cX2_leastChangedNote 25 = .ok (.ifCond .eq 5, 3) := by decide +kernel
theorem dX2_leastChangedNote_28 : decode cX2_leastChangedNote 28 = .ok (.iload_n 2, 1) := by decide +kernel
theorem dX2_leastChangedNote_29 : decode cX2_leastChangedNote 29 = .ok (.ireturn, 1) := by decide +kernel
theorem dX2_leastChangedNote_30 : decode cX2_leastChangedNote 30 = .ok (.iinc 2 1, 3) := by decide +kernel
theorem dX2_leastChangedNote_33 : decode cX2_leastChangedNote 33 = .ok (.goto (-31), 3) := by decide +kernel
theorem dX2_leastChangedNote_36 : decode cX2_leastChangedNote 36 = .ok (.iconst (-1), 1) := by decide +kernel
theorem dX2_leastChangedNote_37 : decode cX2_leastChangedNote 37 = .ok (.ireturn, 1) := by decide +kernel
set_option maxRecDepth 20000 in
theorem ggX2_isGraphChangedSince_X2_isChangedSince : GoodIn wsX2_isGraphChangedSince wsX2_isChangedSince := goodIn_r _ [5, 6, 7, 8, 9, 10, 11, 12, 13, 14, 15, 16, 17, 18, 19, 20, 21, 22, 23, 24, 25] (by decide +kernel) (by decide +kernel)
set_option maxRecDepth 20000 in
theorem gX2_isGraphChangedSince_X2_isChangedSince : GoodIn wsX2_isGraphChangedSince (wsV RX2 202 RX2 yX2_isChangedSince wsX2_isChangedSince) := goodIn_app (goodIn_of _ (by decide +kernel)) ggX2_isGraphChangedSince_X2_isChangedSince
theorem dX2_isGraphChangedSince_0 : decode cX2_isGraphChangedSince 0 = .ok (.iload_n 1, 1) := by decide +kernel
theorem dX2_isGraphChangedSince_1 : decode cX2_isGraphChangedSince 1 = .ok (.bipush 50, 2) := by decide +kernel
theorem dX2_isGraphChangedSince_3 : decode cX2_isGraphChangedSince 3 = .ok (.imul, 1) := by decide +kernel
theorem dX2_isGraphChangedSince_4 : decode cX2_isGraphChangedSince 4 = .ok (.istore_n 3, 1) := by decide +kernel
theorem dX2_isGraphChangedSince_5 : decode cX2_isGraphChangedSince 5 = .ok (.iload_n 3, 1) := by decide +kernel
theorem dX2_isGraphChangedSince_6 : decode cX2_isGraphChangedSince 6 = .ok (.istore 4, 2) := by decide +kernel
theorem dX2_isGraphChangedSince_8 : decode cX2_isGraphChangedSince 8 = .ok (.iload 4, 2) := by decide +kernel
theorem dX2_isGraphChangedSince_10 : decode cX2_isGraphChangedSince 10 = .ok (.iload_n 3, 1) := by decide +kernel
theorem dX2_isGraphChangedSince_11 : decode cX2_isGraphChangedSince 11 = .ok (.bipush 50, 2) := by decide +kernel
theorem dX2_isGraphChangedSince_13 : decode cX2_isGraphChangedSince 13 = .ok (.iadd, 1) := by decide +kernel
theorem dX2_isGraphChangedSince_14 : decode cX2_isGraphChangedSince 14 = .ok (.if_icmp .ge 21, 3) := by decide +kernel
theorem dX2_isGraphChangedSince_17 : decode cX2_isGraphChangedSince 17 = .ok (.aload_n 0, 1) := by decide +kernel
theorem dX2_isGraphChangedSince_18 : decode cX2_isGraphChangedSince 18 = .ok (.iload 4, 2) := by decide +kernel
theorem dX2_isGraphChangedSince_20 : decode cX2_isGraphChangedSince 20 = .ok (.iload_n 2, 1) := by decide +kernel
theorem dX2_isGraphChangedSince_21 : decode cX2_isGraphChangedSince 21 = .ok (.invokevirtual 202, 3) := by decide +kernel
theorem dX2_isGraphChangedSince_24 : decode cX2_isGraphChangedSince 24 = .ok (.ifCond .eq 5, 3) := by decide +kernel
theorem dX2_isGraphChangedSince_27 : decode cX2_isGraphChangedSince 27 = .ok (.iconst 1, 1) := by decide +kernel
theorem dX2_isGraphChangedSince_28 : decode cX2_isGraphChangedSince 28 = .ok (.ireturn, 1) := by decide +kernel
theorem dX2_isGraphChangedSince_29 : decode cX2_isGraphChangedSince 29 = .ok (.iinc 4 1, 3) := by decide +kernel
theorem dX2_isGraphChangedSince_32 : decode cX2_isGraphChangedSince 32 = .ok (.goto (-24), 3) := by decide +kernel
theorem dX2_isGraphChangedSince_35 : decode cX2_isGraphChangedSince 35 = .ok (.iconst 0, 1) := by decide +kernel
theorem dX2_isGraphChangedSince_36 : decode cX2_isGraphChangedSince 36 = .ok (.ireturn, 1) := by decide +kernel
theorem dX2_isChangedSince_0 : decode cX2_isChangedSince 0 = .ok (.aload_n 0, 1) := by decide +kernel
theorem dX2_isChangedSince_1 : decode cX2_isChangedSince 1 = .ok (.getfield 17, 3) := by decide +kernel
theorem dX2_isChangedSince_4 : decode cX2_isChangedSince 4 = .ok (.iload_n 1, 1) := by decide +kernel
theorem dX2_isChangedSince_5 : decode cX2_isChangedSince 5 = .ok (.aaload, 1) := by decide +kernel
theorem dX2_isChangedSince_6 : decode cX2_isChangedSince 6 = .ok (.ifnull 20, 3) := by decide +kernel
theorem dX2_isChangedSince_9 : decode cX2_isChangedSince 9 = .ok (.aload_n 0, 1) := by decide +kernel
theorem dX2_isChangedSince_10 : decode cX2_isChangedSince 10 = .ok (.getfield 17, 3) := by decide +kernel
theorem dX2_isChangedSince_13 : decode cX2_isChangedSince 13 = .ok (.iload_n 1, 1) := by decide +kernel
theorem dX2_isChangedSince_14 : decode cX2_isChangedSince 14 = .ok (.aaload, 1) := by decide +kernel
theorem dX2_isChangedSince_15 : decode cX2_isChangedSince 15 = .ok (.getfield 205, 3) := by decide +kernel
theorem dX2_isChangedSince_18 : decode cX2_isChangedSince 18 = .ok (.iload_n 2, 1) := by decide +kernel
theorem dX2_isChangedSince_19 : decode cX2_isChangedSince 19 = .ok (.if_icmp .le 7, 3) := by decide +kernel
theorem dX2_isChangedSince_22 : decode cX2_isChangedSince 22 = .ok (.iconst 1, 1) := by decide +kernel
theorem dX2_isChangedSince_23 : decode cX2_isChangedSince 23 = .ok (.goto 4, 3) := by decide +kernel
theorem dX2_isChangedSince_26 : decode cX2_isChangedSince 26 = .ok (.iconst 0, 1) := by decide +kernel
theorem dX2_isChangedSince_27 : decode cX2_isChangedSince 27 = .ok (.ireturn, 1) := by decide +kernel
theorem dX2_isThere_0 : decode cX2_isThere 0 = .ok (.aload_n 0, 1) := by decide +kernel
theorem dX2_isThere_1 : decode cX2_isThere 1 = .ok (.getfield 17, 3) := by decide +kernel
theorem dX2_isThere_4 : decode cX2_isThere 4 = .ok (.iload_n 1, 1) := by decide +kernel
theorem dX2_isThere_5 : decode cX2_isThere 5 = .ok (.aaload, 1) := by decide +kernel
theorem dX2_isThere_6 : decode cX2_isThere 6 = .ok (.astore_n 3, 1) := by decide +kernel
theorem dX2_isThere_7 : decode cX2_isThere 7 = .ok (.aload_n 3, 1) := by decide +kernel
theorem dX2_isThere_8 : decode cX2_isThere 8 = .ok (.ifnull 19, 3) := by decide +kernel
theorem dX2_isThere_11 : decode cX2_isThere 11 = .ok (.aload_n 3, 1) := by decide +kernel
theorem dX2_isThere_12 : decode cX2_isThere 12 = .ok (.getfield 205, 3) := by decide +kernel
theorem dX2_isThere_15 : decode cX2_isThere 15 = .ok (.iload_n 2, 1) := by decide +kernel
theorem dX2_isThere_16 : decode cX2_isThere 16 = .ok (.if_icmp .le 11, 3) := by decide +kernel
theorem dX2_isThere_19 : decode cX2_isThere 19 = .ok (.aload_n 3, 1) := by decide +kernel
theorem dX2_isThere_20 : decode cX2_isThere 20 = .ok (.getfield 208, 3) := by decide +kernel
theorem dX2_isThere_23 : decode cX2_isThere 23 = .ok (.astore_n 3, 1) := by decide +kernel
theorem dX2_isThere_24 : decode cX2_isThere 24 = .ok (.goto (-17), 3) := by decide +kernel
theorem dX2_isThere_27 : decode cX2_isThere 27 = .ok (.aload_n 3, 1) := by decide +kernel
theorem dX2_isThere_28 : decode cX2_isThere 28 = .ok (.ifnull 14, 3) := by decide +kernel
theorem dX2_isThere_31 : decode cX2_isThere 31 = .ok (.aload_n 3, 1) := by decide +kernel
theorem dX2_isThere_32 : decode cX2_isThere 32 = .ok (.getfield 212, 3) := by decide +kernel
theorem dX2_isThere_35 : decode cX2_isThere 35 = .ok (.ifCond .eq 7, 3) := by decide +kernel
theorem dX2_isThere_38 : decode cX2_isThere 38 = .ok (.iconst 1, 1) := by decide +kernel
theorem dX2_isThere_39 : decode cX2_isThere 39 = .ok (.goto 4, 3) := by decide +kernel
theorem dX2_isThere_42 : decode cX2_isThere 42 = .ok (.iconst 0, 1) := by decide +kernel
theorem dX2_isThere_43 : decode cX2_isThere 43 = .ok (.ireturn, 1) := by decide +kernel
set_option maxRecDepth 20000 in
theorem ggX2_leastKept_X1_hasEnded : GoodIn wsX2_leastKept wsX1_hasEnded := goodIn_r _ [14, 15, 31, 32, 33, 34, 35, 36, 37, 38, 39, 40, 41] (by decide +kernel) (by decide +kernel)
set_option maxRecDepth 20000 in
theorem gX2_leastKept_X1_hasEnded : GoodIn wsX2_leastKept (wsV RX2 164 RX1 yX1_hasEnded wsX1_hasEnded) := goodIn_app (goodIn_of _ (by decide +kernel)) ggX2_leastKept_X1_hasEnded
theorem dX2_leastKept_0 : decode cX2_leastKept 0 = .ok (.aload_n 0, 1) := by decide +kernel
theorem dX2_leastKept_1 : decode cX2_leastKept 1 = .ok (.getfield 41, 3) := by decide +kernel
theorem dX2_leastKept_4 : decode cX2_leastKept 4 = .ok (.istore_n 1, 1) := by decide +kernel
theorem dX2_leastKept_5 : decode cX2_leastKept 5 = .ok (.iconst 0, 1) := by decide +kernel
theorem dX2_leastKept_6 : decode cX2_leastKept 6 = .ok (.istore_n 2, 1) := by decide +kernel
theorem dX2_leastKept_7 : decode cX2_leastKept 7 = .ok (.iload_n 2, 1) := by decide +kernel
theorem dX2_leastKept_8 : decode cX2_leastKept 8 = .ok (.aload_n 0, 1) := by decide +kernel
theorem dX2_leastKept_9 : decode cX2_leastKept 9 = .ok (.getfield 144, 3) := by decide +kernel
theorem dX2_leastKept_12 : decode cX2_leastKept 12 = .ok (.if_icmp .ge 35, 3) := by decide +kernel
theorem dX2_leastKept_15 : decode cX2_leastKept 15 = .ok (.aload_n 0, 1) := by decide +kernel
theorem dX2_leastKept_16 : decode cX2_leastKept 16 = .ok (.getfield 11, 3) := by decide +kernel
theorem dX2_leastKept_19 : decode cX2_leastKept 19 = .ok (.iload_n 2, 1) := by decide +kernel
theorem dX2_leastKept_20 : decode cX2_leastKept 20 = .ok (.aaload, 1) := by decide +kernel
theorem dX2_leastKept_21 : decode cX2_leastKept 21 = .ok (.invokevirtual 164, 3) := by decide +kernel
theorem dX2_leastKept_24 : decode cX2_leastKept 24 = .ok (.ifCond .ne 17, 3) := by decide +kernel
theorem dX2_leastKept_27 : decode cX2_leastKept 27 = .ok (.iload_n 1, 1) := by decide +kernel
theorem dX2_leastKept_28 : decode cX2_leastKept 28 = .ok (.aload_n 0, 1) := by decide +kernel
theorem dX2_leastKept_29 : decode cX2_leastKept 29 = .ok (.getfield 11, 3) := by decide +kernel
theorem dX2_leastKept_32 : decode cX2_leastKept 32 = .ok (.iload_n 2, 1) := by decide +kernel
theorem dX2_leastKept_33 : decode cX2_leastKept 33 = .ok (.aaload, 1) := by decide +kernel
theorem dX2_leastKept_34 : decode cX2_leastKept 34 = .ok (.getfield 87, 3) := by decide +kernel
theorem dX2_leastKept_37 : decode cX2_leastKept 37 = .ok (.invokestatic 215, 3) := by decide +kernel
theorem dX2_leastKept_40 : decode cX2_leastKept 40 = .ok (.istore_n 1, 1) := by decide +kernel
theorem dX2_leastKept_41 : decode cX2_leastKept 41 = .ok (.iinc 2 1, 3) := by decide +kernel
theorem dX2_leastKept_44 : decode cX2_leastKept 44 = .ok (.goto (-37), 3) := by decide +kernel
theorem dX2_leastKept_47 : decode cX2_leastKept 47 = .ok (.iconst 0, 1) := by decide +kernel
theorem dX2_leastKept_48 : decode cX2_leastKept 48 = .ok (.istore_n 2, 1) := by decide +kernel
theorem dX2_leastKept_49 : decode cX2_leastKept 49 = .ok (.iload_n 2, 1) := by decide +kernel
theorem dX2_leastKept_50 : decode cX2_leastKept 50 = .ok (.iload_n 1, 1) := by decide +kernel
theorem dX2_leastKept_51 : decode cX2_leastKept 51 = .ok (.if_icmp .ge 20, 3) := by decide +kernel
theorem dX2_leastKept_54 : decode cX2_leastKept 54 = .ok (.aload_n 0, 1) := by decide +kernel
theorem dX2_leastKept_55 : decode cX2_leastKept 55 = .ok (.getfield 21, 3) := by decide +kernel
theorem dX2_leastKept_58 : decode cX2_leastKept 58 = .ok (.iload_n 2, 1) := by decide +kernel
theorem dX2_leastKept_59 : decode cX2_leastKept 59 = .ok (.iaload, 1) := by decide +kernel
theorem dX2_leastKept_60 : decode cX2_leastKept 60 = .ok (.ifCond .le 5, 3) := by decide +kernel
theorem dX2_leastKept_63 : decode cX2_leastKept 63 = .ok (.iload_n 2, 1) := by decide +kernel
theorem dX2_leastKept_64 : decode cX2_leastKept 64 = .ok (.ireturn, 1) := by decide +kernel
theorem dX2_leastKept_65 : decode cX2_leastKept 65 = .ok (.iinc 2 1, 3) := by decide +kernel
theorem dX2_leastKept_68 : decode cX2_leastKept 68 = .ok (.goto (-19), 3) := by decide +kernel
theorem dX2_leastKept_71 : decode cX2_leastKept 71 = .ok (.iload_n 1, 1) := by decide +kernel
theorem dX2_leastKept_72 : decode cX2_leastKept 72 = .ok (.ireturn, 1) := by decide +kernel
set_option maxRecDepth 20000 in
theorem ggX2_dropOldRows_X2_countRows : GoodIn wsX2_dropOldRows wsX2_countRows := goodIn_r _ [8, 3, 28, 29, 30] (by decide +kernel) (by decide +kernel)
set_option maxRecDepth 20000 in
theorem gX2_dropOldRows_X2_countRows : GoodIn wsX2_dropOldRows (va_wsS RX2 220 yX2_countRows wsX2_countRows) := goodIn_app (goodIn_of _ (by decide +kernel)) ggX2_dropOldRows_X2_countRows
set_option maxRecDepth 20000 in
theorem ggX2_dropOldRows_X2_cutBelow : GoodIn wsX2_dropOldRows wsX2_cutBelow := goodIn_r _ [12, 1, 3, 13, 14, 15, 16, 17, 18, 19, 20, 21, 22, 23, 24, 25, 26, 27, 28, 29, 30] (by decide +kernel) (by decide +kernel)
set_option maxRecDepth 20000 in
theorem gX2_dropOldRows_X2_cutBelow : GoodIn wsX2_dropOldRows (wsV RX2 224 RX2 yX2_cutBelow wsX2_cutBelow) := goodIn_app (goodIn_of _ (by decide +kernel)) ggX2_dropOldRows_X2_cutBelow
theorem dX2_dropOldRows_0 : decode cX2_dropOldRows 0 = .ok (.aconst_null, 1) := by decide +kernel
theorem dX2_dropOldRows_1 : decode cX2_dropOldRows 1 = .ok (.astore_n 3, 1) := by decide +kernel
theorem dX2_dropOldRows_2 : decode cX2_dropOldRows 2 = .ok (.aload_n 0, 1) := by decide +kernel
theorem dX2_dropOldRows_3 : decode cX2_dropOldRows 3 = .ok (.getfield 17, 3) := by decide +kernel
theorem dX2_dropOldRows_6 : decode cX2_dropOldRows 6 = .ok (.iload_n 1, 1) := by decide +kernel
theorem dX2_dropOldRows_7 : decode cX2_dropOldRows 7 = .ok (.aaload, 1) := by decide +kernel
theorem dX2_dropOldRows_8 : decode cX2_dropOldRows 8 = .ok (.astore 4, 2) := by decide +kernel
theorem dX2_dropOldRows_10 : decode cX2_dropOldRows 10 = .ok (.aload 4, 2) := by decide +kernel
theorem dX2_dropOldRows_12 : decode cX2_dropOldRows 12 = .ok (.ifnull 25, 3) := by decide +kernel
theorem dX2_dropOldRows_15 : decode cX2_dropOldRows 15 = .ok (.aload 4, 2) := by decide +kernel
theorem dX2_dropOldRows_17 : decode cX2_dropOldRows 17 = .ok (.getfield 205, 3) := by decide +kernel
theorem dX2_dropOldRows_20 : decode cX2_dropOldRows 20 = .ok (.iload_n 2, 1) := by decide +kernel
theorem dX2_dropOldRows_21 : decode cX2_dropOldRows 21 = .ok (.if_icmp .le 16, 3) := by decide +kernel
theorem dX2_dropOldRows_24 : decode cX2_dropOldRows 24 = .ok (.aload 4, 2) := by decide +kernel
theorem dX2_dropOldRows_26 : decode cX2_dropOldRows 26 = .ok (.astore_n 3, 1) := by decide +kernel
theorem dX2_dropOldRows_27 : decode cX2_dropOldRows 27 = .ok (.aload 4, 2) := by decide +kernel
theorem dX2_dropOldRows_29 : decode cX2_dropOldRows 29 = .ok (.getfield 208, 3) := by decide +kernel
theorem dX2_dropOldRows_32 : decode cX2_dropOldRows 32 = .ok (.astore 4, 2) := by decide +kernel
theorem dX2_dropOldRows_34 : decode cX2_dropOldRows 34 = .ok (.goto (-24), 3) := by decide +kernel
theorem dX2_dropOldRows_37 : decode cX2_dropOldRows 37 = .ok (.aload 4, 2) := by decide +kernel
theorem dX2_dropOldRows_39 : decode cX2_dropOldRows 39 = .ok (.ifnonnull 5, 3) := by decide +kernel
theorem dX2_dropOldRows_42 : decode cX2_dropOldRows 42 = .ok (.iconst 0, 1) := by decide +kernel
theorem dX2_dropOldRows_43 : decode cX2_dropOldRows 43 = .ok (.ireturn, 1) := by decide +kernel
theorem dX2_dropOldRows_44 : decode cX2_dropOldRows 44 = .ok (.aload 4, 2) := by decide +kernel
theorem dX2_dropOldRows_46 : decode cX2_dropOldRows 46 = .ok (.getfield 208, 3) := by decide +kernel
theorem dX2_dropOldRows_49 : decode cX2_dropOldRows 49 = .ok (.invokestatic 220, 3) := by decide +kernel
theorem dX2_dropOldRows_52 : decode cX2_dropOldRows 52 = .ok (.istore 5, 2) := by decide +kernel
theorem dX2_dropOldRows_54 : decode cX2_dropOldRows 54 = .ok (.aload 4, 2) := by decide +kernel
theorem dX2_dropOldRows_56 : decode cX2_dropOldRows 56 = .ok (.aconst_null, 1) := by decide +kernel
theorem dX2_dropOldRows_57 : decode cX2_dropOldRows 57 = .ok (.putfield 208, 3) := by decide +kernel
theorem dX2_dropOldRows_60 : decode cX2_dropOldRows 60 = .ok (.aload 4, 2) := by decide +kernel
theorem dX2_dropOldRows_62 : decode cX2_dropOldRows 62 = .ok (.getfield 212, 3) := by decide +kernel
theorem dX2_dropOldRows_65 : decode cX2_dropOldRows 65 = .ok (.ifCond .ne 12, 3) := by decide +kernel
theorem dX2_dropOldRows_68 : decode cX2_dropOldRows 68 = .ok (.aload_n 0, 1) := by decide +kernel
theorem dX2_dropOldRows_69 : decode cX2_dropOldRows 69 = .ok (.iload_n 1, 1) := by decide +kernel
theorem dX2_dropOldRows_70 : decode cX2_dropOldRows 70 = .ok (.aload_n 3, 1) := by decide +kernel
theorem dX2_dropOldRows_71 : decode cX2_dropOldRows 71 = .ok (.invokevirtual 224, 3) := by decide +kernel
theorem dX2_dropOldRows_74 : decode cX2_dropOldRows 74 = .ok (.iinc 5 1, 3) := by decide +kernel
theorem dX2_dropOldRows_77 : decode cX2_dropOldRows 77 = .ok (.iload 5, 2) := by decide +kernel
theorem dX2_dropOldRows_79 : decode cX2_dropOldRows 79 = .ok (.ireturn, 1) := by decide +kernel
theorem dX2_cutBelow_0 : decode cX2_cutBelow 0 = .ok (.aload_n 2, 1) := by decide +kernel
theorem dX2_cutBelow_1 : decode cX2_cutBelow 1 = .ok (.ifnonnull 13, 3) := by decide +kernel
theorem dX2_cutBelow_4 : decode cX2_cutBelow 4 = .ok (.aload_n 0, 1) := by decide +kernel
theorem dX2_cutBelow_5 : decode cX2_cutBelow 5 = .ok (.getfield 17, 3) := by decide +kernel
theorem dX2_cutBelow_8 : decode cX2_cutBelow 8 = .ok (.iload_n 1, 1) := by decide +kernel
theorem dX2_cutBelow_9 : decode cX2_cutBelow 9 = .ok (.aconst_null, 1) := by decide +kernel
theorem dX2_cutBelow_10 : decode cX2_cutBelow 10 = .ok (.aastore, 1) := by decide +kernel
theorem dX2_cutBelow_11 : decode cX2_cutBelow 11 = .ok (.goto 8, 3) := by decide +kernel
theorem dX2_cutBelow_14 : decode cX2_cutBelow 14 = .ok (.aload_n 2, 1) := by decide +kernel
theorem dX2_cutBelow_15 : decode cX2_cutBelow 15 = .ok (.aconst_null, 1) := by decide +kernel
theorem dX2_cutBelow_16 : decode cX2_cutBelow 16 = .ok (.putfield 208, 3) := by decide +kernel
theorem dX2_cutBelow_19 : decode cX2_cutBelow 19 = .ok (.return_, 1) := by decide +kernel
theorem dX2_countRows_0 : decode cX2_countRows 0 = .ok (.iconst 0, 1) := by decide +kernel
theorem dX2_countRows_1 : decode cX2_countRows 1 = .ok (.istore_n 1, 1) := by decide +kernel
theorem dX2_countRows_2 : decode cX2_countRows 2 = .ok (.aload_n 0, 1) := by decide +kernel
theorem dX2_countRows_3 : decode cX2_countRows 3 = .ok (.astore_n 2, 1) := by decide +kernel
theorem dX2_countRows_4 : decode cX2_countRows 4 = .ok (.aload_n 2, 1) := by decide +kernel
theorem dX2_countRows_5 : decode cX2_countRows 5 = .ok (.ifnull 14, 3) := by decide +kernel
theorem dX2_countRows_8 : decode cX2_countRows 8 = .ok (.iinc 1 1, 3) := by decide +kernel
theorem dX2_countRows_11 : decode cX2_countRows 11 = .ok (.aload_n 2, 1) := by decide +kernel
theorem dX2_countRows_12 : decode cX2_countRows 12 = .ok (.getfield 208, 3) := by decide +kernel
theorem dX2_countRows_15 : decode cX2_countRows 15 = .ok (.astore_n 2, 1) := by decide +kernel
theorem dX2_countRows_16 : decode cX2_countRows 16 = .ok (.goto (-12), 3) := by decide +kernel
theorem dX2_countRows_19 : decode cX2_countRows 19 = .ok (.iload_n 1, 1) := by decide +kernel
theorem dX2_countRows_20 : decode cX2_countRows 20 = .ok (.ireturn, 1) := by decide +kernel
set_option maxRecDepth 20000 in
theorem ggX2_tryWrite_X2_isChangedSince : GoodIn wsX2_tryWrite wsX2_isChangedSince := goodIn_r _ [11, 12, 13, 69, 70, 71, 72, 73, 74, 75, 76, 77, 78, 79, 80, 81, 82, 83, 84, 85, 86] (by decide +kernel) (by decide +kernel)
set_option maxRecDepth 20000 in
theorem gX2_tryWrite_X2_isChangedSince : GoodIn wsX2_tryWrite (wsV RX2 202 RX2 yX2_isChangedSince wsX2_isChangedSince) := goodIn_app (goodIn_of _ (by decide +kernel)) ggX2_tryWrite_X2_isChangedSince
set_option maxRecDepth 20000 in
theorem ggX2_tryWrite_X2_beginToWait : GoodIn wsX2_tryWrite wsX2_beginToWait := goodIn_r _ [17, 18, 1, 5, 2, 19, 20, 21, 22, 23, 24, 25, 26, 10, 27, 28, 29, 30, 31, 32, 33, 34, 35, 36, 37, 38, 39, 40, 41, 42, 43, 44, 45, 46, 47, 48, 49, 50, 51, 52, 53, 54, 55, 56, 57, 69, 70, 71, 72, 73, 74, 75, 76, 77, 78, 79, 80, 81, 82, 83, 58, 59, 60, 61, 62, 63, 64, 65, 66, 67, 68] (by decide +kernel) (by decide +kernel)
set_option maxRecDepth 20000 in
theorem gX2_tryWrite_X2_beginToWait : GoodIn wsX2_tryWrite (wsV RX2 228 RX2 yX2_beginToWait wsX2_beginToWait) := goodIn_app (goodIn_of _ (by decide +kernel)) ggX2_tryWrite_X2_beginToWait
theorem dX2_tryWrite_0 : decode cX2_tryWrite 0 = .ok (.aload_n 1, 1) := by decide +kernel
theorem dX2_tryWrite_1 : decode cX2_tryWrite 1 = .ok (.iconst 0, 1) := by decide +kernel
theorem dX2_tryWrite_2 : decode cX2_tryWrite 2 = .ok (.putfield 128, 3) := by decide +kernel
theorem dX2_tryWrite_5 : decode cX2_tryWrite 5 = .ok (.aload_n 1, 1) := by decide +kernel
theorem dX2_tryWrite_6 : decode cX2_tryWrite 6 = .ok (.aconst_null, 1) := by decide +kernel
theorem dX2_tryWrite_7 : decode cX2_tryWrite 7 = .ok (.putfield 131, 3) := by decide +kernel
theorem dX2_tryWrite_10 : decode cX2_tryWrite 10 = .ok (.aload_n 0, 1) := by decide +kernel
theorem dX2_tryWrite_11 : decode cX2_tryWrite 11 = .ok (.iload_n 2, 1) := by decide +kernel
theorem dX2_tryWrite_12 : decode cX2_tryWrite 12 = .ok (.aload_n 1, 1) := by decide +kernel
theorem dX2_tryWrite_13 : decode cX2_tryWrite 13 = .ok (.getfield 87, 3) := by decide +kernel
theorem dX2_tryWrite_16 : decode cX2_tryWrite 16 = .ok (.invokevirtual 202, 3) := by decide +kernel
theorem dX2_tryWrite_19 : decode cX2_tryWrite 19 = .ok (.ifCond .eq 21, 3) := by decide +kernel
theorem dX2_tryWrite_22 : decode cX2_tryWrite 22 = .ok (.aload_n 1, 1) := by decide +kernel
theorem dX2_tryWrite_23 : decode cX2_tryWrite 23 = .ok (.iconst 2, 1) := by decide +kernel
theorem dX2_tryWrite_24 : decode cX2_tryWrite 24 = .ok (.putfield 128, 3) := by decide +kernel
theorem dX2_tryWrite_27 : decode cX2_tryWrite 27 = .ok (.aload_n 0, 1) := by decide +kernel
theorem dX2_tryWrite_28 : decode cX2_tryWrite 28 = .ok (.getfield 32, 3) := by decide +kernel
theorem dX2_tryWrite_31 : decode cX2_tryWrite 31 = .ok (.iload_n 2, 1) := by decide +kernel
theorem dX2_tryWrite_32 : decode cX2_tryWrite 32 = .ok (.dup2, 1) := by decide +kernel
theorem dX2_tryWrite_33 : decode cX2_tryWrite 33 = .ok (.iaload, 1) := by decide +kernel
theorem dX2_tryWrite_34 : decode cX2_tryWrite 34 = .ok (.iconst 1, 1) := by decide +kernel
theorem dX2_tryWrite_35 : decode cX2_tryWrite 35 = .ok (.iadd, 1) := by decide +kernel
theorem dX2_tryWrite_36 : decode cX2_tryWrite 36 = .ok (.iastore, 1) := by decide +kernel
theorem dX2_tryWrite_37 : decode cX2_tryWrite 37 = .ok (.goto 46, 3) := by decide +kernel
theorem dX2_tryWrite_40 : decode cX2_tryWrite 40 = .ok (.aload_n 0, 1) := by decide +kernel
theorem dX2_tryWrite_41 : decode cX2_tryWrite 41 = .ok (.getfield 25, 3) := by decide +kernel
theorem dX2_tryWrite_44 : decode cX2_tryWrite 44 = .ok (.iload_n 2, 1) := by decide +kernel
theorem dX2_tryWrite_45 : decode cX2_tryWrite 45 = .ok (.aaload, 1) := by decide +kernel
theorem dX2_tryWrite_46 : decode cX2_tryWrite 46 = .ok (.ifnull 23, 3) := by decide +kernel
theorem dX2_tryWrite_49 : decode cX2_tryWrite 49 = .ok (.aload_n 0, 1) := by decide +kernel
theorem dX2_tryWrite_50 : decode cX2_tryWrite 50 = .ok (.getfield 25, 3) := by decide +kernel
theorem dX2_tryWrite_53 : decode cX2_tryWrite 53 = .ok (.iload_n 2, 1) := by decide +kernel
theorem dX2_tryWrite_54 : decode cX2_tryWrite 54 = .ok (.aaload, 1) := by decide +kernel
theorem dX2_tryWrite_55 : decode cX2_tryWrite 55 = .ok (.aload_n 1, 1) := by decide +kernel
theorem dX2_tryWrite_56 : decode cX2_tryWrite 56 = .ok (.if_acmp .eq 13, 3) := by decide +kernel
theorem dX2_tryWrite_59 : decode cX2_tryWrite 59 = .ok (.aload_n 0, 1) := by decide +kernel
theorem dX2_tryWrite_60 : decode cX2_tryWrite 60 = .ok (.aload_n 1, 1) := by decide +kernel
theorem dX2_tryWrite_61 : decode cX2_tryWrite 61 = .ok (.iload_n 2, 1) := by decide +kernel
theorem dX2_tryWrite_62 : decode cX2_tryWrite 62 = .ok (.iload_n 3, 1) := by decide +kernel
theorem dX2_tryWrite_63 : decode cX2_tryWrite 63 = .ok (.invokevirtual 228, 3) := by decide +kernel
theorem dX2_tryWrite_66 : decode cX2_tryWrite 66 = .ok (.goto 17, 3) := by decide +kernel
theorem dX2_tryWrite_69 : decode cX2_tryWrite 69 = .ok (.aload_n 0, 1) := by decide +kernel
theorem dX2_tryWrite_70 : decode cX2_tryWrite 70 = .ok (.getfield 25, 3) := by decide +kernel
theorem dX2_tryWrite_73 : decode cX2_tryWrite 73 = .ok (.iload_n 2, 1) := by decide +kernel
theorem dX2_tryWrite_74 : decode cX2_tryWrite 74 = .ok (.aload_n 1, 1) := by decide +kernel
theorem dX2_tryWrite_75 : decode cX2_tryWrite 75 = .ok (.aastore, 1) := by decide +kernel
theorem dX2_tryWrite_76 : decode cX2_tryWrite 76 = .ok (.aload_n 0, 1) := by decide +kernel
theorem dX2_tryWrite_77 : decode cX2_tryWrite 77 = .ok (.getfield 28, 3) := by decide +kernel
theorem dX2_tryWrite_80 : decode cX2_tryWrite 80 = .ok (.iload_n 2, 1) := by decide +kernel
theorem dX2_tryWrite_81 : decode cX2_tryWrite 81 = .ok (.iload_n 3, 1) := by decide +kernel
theorem dX2_tryWrite_82 : decode cX2_tryWrite 82 = .ok (.bastore, 1) := by decide +kernel
theorem dX2_tryWrite_83 : decode cX2_tryWrite 83 = .ok (.return_, 1) := by decide +kernel
theorem dX2_outcomeOfWrite_0 : decode cX2_outcomeOfWrite 0 = .ok (.aload_n 0, 1) := by decide +kernel
theorem dX2_outcomeOfWrite_1 : decode cX2_outcomeOfWrite 1 = .ok (.getfield 128, 3) := by decide +kernel
theorem dX2_outcomeOfWrite_4 : decode cX2_outcomeOfWrite 4 = .ok (.tableswitch 39 1 4 #[32, 34, 39, 36], 32) := by decide +kernel
theorem dX2_outcomeOfWrite_36 : decode cX2_outcomeOfWrite 36 = .ok (.iconst 0, 1) := by decide +kernel
theorem dX2_outcomeOfWrite_37 : decode cX2_outcomeOfWrite 37 = .ok (.ireturn, 1) := by decide +kernel
theorem dX2_outcomeOfWrite_38 : decode cX2_outcomeOfWrite 38 = .ok (.iconst (-1), 1) := by decide +kernel
theorem dX2_outcomeOfWrite_39 : decode cX2_outcomeOfWrite 39 = .ok (.ireturn, 1) := by decide +kernel
theorem dX2_outcomeOfWrite_40 : decode cX2_outcomeOfWrite 40 = .ok (.bipush (-2), 2) := by decide +kernel
theorem dX2_outcomeOfWrite_42 : decode cX2_outcomeOfWrite 42 = .ok (.ireturn, 1) := by decide +kernel
theorem dX2_outcomeOfWrite_43 : decode cX2_outcomeOfWrite 43 = .ok (.iconst 1, 1) := by decide +kernel
theorem dX2_outcomeOfWrite_44 : decode cX2_outcomeOfWrite 44 = .ok (.ireturn, 1) := by decide +kernel
set_option maxRecDepth 20000 in
theorem ggX2_beginToWait_X2_sizeOfRingThrough : GoodIn wsX2_beginToWait wsX2_sizeOfRingThrough := goodIn_r _ [14, 4, 60, 61, 62, 63, 64, 65, 66, 67, 68, 69, 70] (by decide +kernel) (by decide +kernel)
set_option maxRecDepth 20000 in
theorem gX2_beginToWait_X2_sizeOfRingThrough : GoodIn wsX2_beginToWait (wsV RX2 243 RX2 yX2_sizeOfRingThrough wsX2_sizeOfRingThrough) := goodIn_app (goodIn_of _ (by decide +kernel)) ggX2_beginToWait_X2_sizeOfRingThrough
set_option maxRecDepth 20000 in
theorem ggX2_beginToWait_X2_keepRing : GoodIn wsX2_beginToWait wsX2_keepRing := goodIn_r _ [18, 19, 20, 4, 21, 22, 23, 13, 24, 9, 45, 46, 47, 48, 49, 50, 51, 52, 53, 54, 55, 56, 57, 58, 59, 60, 61, 62, 63, 64, 65, 66, 67, 68, 69, 70] (by decide +kernel) (by decide +kernel)
set_option maxRecDepth 20000 in
theorem gX2_beginToWait_X2_keepRing : GoodIn wsX2_beginToWait (wsV RX2 246 RX2 yX2_keepRing wsX2_keepRing) := goodIn_app (goodIn_of _ (by decide +kernel)) ggX2_beginToWait_X2_keepRing
set_option maxRecDepth 20000 in
theorem ggX2_beginToWait_X2_finish : GoodIn wsX2_beginToWait wsX2_finish := goodIn_r _ [28, 2, 4, 3, 29, 30, 31, 13, 32, 7, 33, 34, 35, 36, 37, 8, 38, 39, 40, 41, 42, 43, 44, 60, 61, 62, 63, 64, 65, 66, 67, 68, 69, 70, 45, 46, 47, 48, 49, 50, 51, 52, 53, 54, 55, 56, 57, 58, 59] (by decide +kernel) (by decide +kernel)
set_option maxRecDepth 20000 in
theorem gX2_beginToWait_X2_finish : GoodIn wsX2_beginToWait (wsV RX2 110 RX2 yX2_finish wsX2_finish) := goodIn_app (goodIn_of _ (by decide +kernel)) ggX2_beginToWait_X2_finish
theorem dX2_beginToWait_0 : decode cX2_beginToWait 0 = .ok (.aload_n 0, 1) := by decide +kernel
theorem dX2_beginToWait_1 : decode cX2_beginToWait 1 = .ok (.dup, 1) := by decide +kernel
theorem dX2_beginToWait_2 : decode cX2_beginToWait 2 = .ok (.getfield 231, 3) := by decide +kernel
theorem dX2_beginToWait_5 : decode cX2_beginToWait 5 = .ok (.iconst 1, 1) := by decide +kernel
theorem dX2_beginToWait_6 : decode cX2_beginToWait 6 = .ok (.iadd, 1) := by decide +kernel
theorem dX2_beginToWait_7 : decode cX2_beginToWait 7 = .ok (.putfield 231, 3) := by decide +kernel
theorem dX2_beginToWait_10 : decode cX2_beginToWait 10 = .ok (.aload_n 1, 1) := by decide +kernel
theorem dX2_beginToWait_11 : decode cX2_beginToWait 11 = .ok (.iconst 1, 1) := by decide +kernel
theorem dX2_beginToWait_12 : decode cX2_beginToWait 12 = .ok (.putfield 128, 3) := by decide +kernel
theorem dX2_beginToWait_15 : decode cX2_beginToWait 15 = .ok (.aload_n 1, 1) := by decide +kernel
theorem dX2_beginToWait_16 : decode cX2_beginToWait 16 = .ok (.aload_n 0, 1) := by decide +kernel
theorem dX2_beginToWait_17 : decode cX2_beginToWait 17 = .ok (.getfield 25, 3) := by decide +kernel
theorem dX2_beginToWait_20 : decode cX2_beginToWait 20 = .ok (.iload_n 2, 1) := by decide +kernel
theorem dX2_beginToWait_21 : decode cX2_beginToWait 21 = .ok (.aaload, 1) := by decide +kernel
theorem dX2_beginToWait_22 : decode cX2_beginToWait 22 = .ok (.putfield 131, 3) := by decide +kernel
theorem dX2_beginToWait_25 : decode cX2_beginToWait 25 = .ok (.aload_n 1, 1) := by decide +kernel
theorem dX2_beginToWait_26 : decode cX2_beginToWait 26 = .ok (.iload_n 2, 1) := by decide +kernel
theorem dX2_beginToWait_27 : decode cX2_beginToWait 27 = .ok (.putfield 234, 3) := by decide +kernel
theorem dX2_beginToWait_30 : decode cX2_beginToWait 30 = .ok (.aload_n 1, 1) := by decide +kernel
theorem dX2_beginToWait_31 : decode cX2_beginToWait 31 = .ok (.iload_n 3, 1) := by decide +kernel
theorem dX2_beginToWait_32 : decode cX2_beginToWait 32 = .ok (.putfield 237, 3) := by decide +kernel
theorem dX2_beginToWait_35 : decode cX2_beginToWait 35 = .ok (.aload_n 1, 1) := by decide +kernel
theorem dX2_beginToWait_36 : decode cX2_beginToWait 36 = .ok (.aload_n 0, 1) := by decide +kernel
theorem dX2_beginToWait_37 : decode cX2_beginToWait 37 = .ok (.getfield 231, 3) := by decide +kernel
theorem dX2_beginToWait_40 : decode cX2_beginToWait 40 = .ok (.putfield 240, 3) := by decide +kernel
theorem dX2_beginToWait_43 : decode cX2_beginToWait 43 = .ok (.aload_n 0, 1) := by decide +kernel
theorem dX2_beginToWait_44 : decode cX2_beginToWait 44 = .ok (.aload_n 1, 1) := by decide +kernel
theorem dX2_beginToWait_45 : decode cX2_beginToWait 45 = .ok (.invokevirtual 243, 3) := by decide +kernel
theorem dX2_beginToWait_48 : decode cX2_beginToWait 48 = .ok (.istore 4, 2) := by decide +kernel
theorem dX2_beginToWait_50 : decode cX2_beginToWait 50 = .ok (.iload 4, 2) := by decide +kernel
theorem dX2_beginToWait_52 : decode cX2_beginToWait 52 = .ok (.ifCond .le 29, 3) := by decide +kernel
theorem dX2_beginToWait_55 : decode cX2_beginToWait 55 = .ok (.aload_n 0, 1) := by decide +kernel
theorem dX2_beginToWait_56 : decode cX2_beginToWait 56 = .ok (.aload_n 1, 1) := by decide +kernel
theorem dX2_beginToWait_57 : decode cX2_beginToWait 57 = .ok (.iload 4, 2) := by decide +kernel
theorem dX2_beginToWait_59 : decode cX2_beginToWait 59 = .ok (.invokevirtual 246, 3) := by decide +kernel
theorem dX2_beginToWait_62 : decode cX2_beginToWait 62 = .ok (.aload_n 0, 1) := by decide +kernel
theorem dX2_beginToWait_63 : decode cX2_beginToWait 63 = .ok (.aload_n 0, 1) := by decide +kernel
theorem dX2_beginToWait_64 : decode cX2_beginToWait 64 = .ok (.getfield 11, 3) := by decide +kernel
theorem dX2_beginToWait_67 : decode cX2_beginToWait 67 = .ok (.aload_n 0, 1) := by decide +kernel
theorem dX2_beginToWait_68 : decode cX2_beginToWait 68 = .ok (.getfield 38, 3) := by decide +kernel
theorem dX2_beginToWait_71 : decode cX2_beginToWait 71 = .ok (.iload 4, 2) := by decide +kernel
theorem dX2_beginToWait_73 : decode cX2_beginToWait 73 = .ok (.iconst 1, 1) := by decide +kernel
theorem dX2_beginToWait_74 : decode cX2_beginToWait 74 = .ok (.isub, 1) := by decide +kernel
theorem dX2_beginToWait_75 : decode cX2_beginToWait 75 = .ok (.iaload, 1) := by decide +kernel
theorem dX2_beginToWait_76 : decode cX2_beginToWait 76 = .ok (.aaload, 1) := by decide +kernel
theorem dX2_beginToWait_77 : decode cX2_beginToWait 77 = .ok (.iconst 4, 1) := by decide +kernel
theorem dX2_beginToWait_78 : decode cX2_beginToWait 78 = .ok (.invokevirtual 110, 3) := by decide +kernel
theorem dX2_beginToWait_81 : decode cX2_beginToWait 81 = .ok (.return_, 1) := by decide +kernel
theorem dX2_sizeOfRingThrough_0 : decode cX2_sizeOfRingThrough 0 = .ok (.aload_n 1, 1) := by decide +kernel
theorem dX2_sizeOfRingThrough_1 : decode cX2_sizeOfRingThrough 1 = .ok (.getfield 131, 3) := by decide +kernel
theorem dX2_sizeOfRingThrough_4 : decode cX2_sizeOfRingThrough 4 = .ok (.astore_n 2, 1) := by decide +kernel
theorem dX2_sizeOfRingThrough_5 : decode cX2_sizeOfRingThrough 5 = .ok (.iconst 1, 1) := by decide +kernel
theorem dX2_sizeOfRingThrough_6 : decode cX2_sizeOfRingThrough 6 = .ok (.istore_n 3, 1) := by decide +kernel
theorem dX2_sizeOfRingThrough_7 : decode cX2_sizeOfRingThrough 7 = .ok (.iload_n 3, 1) := by decide +kernel
theorem dX2_sizeOfRingThrough_8 : decode cX2_sizeOfRingThrough 8 = .ok (.bipush 60, 2) := by decide +kernel
theorem dX2_sizeOfRingThrough_10 : decode cX2_sizeOfRingThrough 10 = .ok (.if_icmp .gt 25, 3) := by decide +kernel
theorem dX2_sizeOfRingThrough_13 : decode cX2_sizeOfRingThrough 13 = .ok (.aload_n 2, 1) := by decide +kernel
theorem dX2_sizeOfRingThrough_14 : decode cX2_sizeOfRingThrough 14 = .ok (.ifnull 21, 3) := by decide +kernel
theorem dX2_sizeOfRingThrough_17 : decode cX2_sizeOfRingThrough 17 = .ok (.aload_n 2, 1) := by decide +kernel
theorem dX2_sizeOfRingThrough_18 : decode cX2_sizeOfRingThrough 18 = .ok (.aload_n 1, 1) := by decide +kernel
theorem dX2_sizeOfRingThrough_19 : decode cX2_sizeOfRingThrough 19 = .ok (.if_acmp .ne 5, 3) := by decide +kernel
theorem dX2_sizeOfRingThrough_22 : decode cX2_sizeOfRingThrough 22 = .ok (.iload_n 3, 1) := by decide +kernel
theorem dX2_sizeOfRingThrough_23 : decode cX2_sizeOfRingThrough 23 = .ok (.ireturn, 1) := by decide +kernel
theorem dX2_sizeOfRingThrough_24 : decode cX2_sizeOfRingThrough 24 = .ok (.aload_n 2, 1) := by decide +kernel
theorem dX2_sizeOfRingThrough_25 : decode cX2_sizeOfRingThrough 25 = .ok (.getfield 131, 3) := by decide +kernel
theorem dX2_sizeOfRingThrough_28 : decode cX2_sizeOfRingThrough 28 = .ok (.astore_n 2, 1) := by decide +kernel
theorem dX2_sizeOfRingThrough_29 : decode cX2_sizeOfRingThrough 29 = .ok (.iinc 3 1, 3) := by decide +kernel
theorem dX2_sizeOfRingThrough_32 : decode cX2_sizeOfRingThrough 32 = .ok (.goto (-25), 3) := by decide +kernel
theorem dX2_sizeOfRingThrough_35 : decode cX2_sizeOfRingThrough 35 = .ok (.iconst 0, 1) := by decide +kernel
theorem dX2_sizeOfRingThrough_36 : decode cX2_sizeOfRingThrough 36 = .ok (.ireturn, 1) := by decide +kernel
set_option maxRecDepth 20000 in
theorem ggX2_keepRing_X2_addRingMember : GoodIn wsX2_keepRing wsX2_addRingMember := goodIn_r _ [8, 1, 9, 10, 11, 12, 13, 14, 15, 16, 17, 18, 19, 20, 21, 22, 23, 24] (by decide +kernel) (by decide +kernel)
set_option maxRecDepth 20000 in
theorem gX2_keepRing_X2_addRingMember : GoodIn wsX2_keepRing (wsV RX2 249 RX2 yX2_addRingMember wsX2_addRingMember) := goodIn_app (goodIn_of _ (by decide +kernel)) ggX2_keepRing_X2_addRingMember
theorem dX2_keepRing_0 : decode cX2_keepRing 0 = .ok (.aload_n 0, 1) := by decide +kernel
theorem dX2_keepRing_1 : decode cX2_keepRing 1 = .ok (.iconst 0, 1) := by decide +kernel
theorem dX2_keepRing_2 : decode cX2_keepRing 2 = .ok (.putfield 138, 3) := by decide +kernel
theorem dX2_keepRing_5 : decode cX2_keepRing 5 = .ok (.aload_n 1, 1) := by decide +kernel
theorem dX2_keepRing_6 : decode cX2_keepRing 6 = .ok (.astore_n 3, 1) := by decide +kernel
theorem dX2_keepRing_7 : decode cX2_keepRing 7 = .ok (.iconst 0, 1) := by decide +kernel
theorem dX2_keepRing_8 : decode cX2_keepRing 8 = .ok (.istore 4, 2) := by decide +kernel
theorem dX2_keepRing_10 : decode cX2_keepRing 10 = .ok (.iload 4, 2) := by decide +kernel
theorem dX2_keepRing_12 : decode cX2_keepRing 12 = .ok (.iload_n 2, 1) := by decide +kernel
theorem dX2_keepRing_13 : decode cX2_keepRing 13 = .ok (.if_icmp .ge 26, 3) := by decide +kernel
theorem dX2_keepRing_16 : decode cX2_keepRing 16 = .ok (.aload_n 3, 1) := by decide +kernel
theorem dX2_keepRing_17 : decode cX2_keepRing 17 = .ok (.ifnull 22, 3) := by decide +kernel
theorem dX2_keepRing_20 : decode cX2_keepRing 20 = .ok (.aload_n 0, 1) := by decide +kernel
theorem dX2_keepRing_21 : decode cX2_keepRing 21 = .ok (.aload_n 3, 1) := by decide +kernel
theorem dX2_keepRing_22 : decode cX2_keepRing 22 = .ok (.getfield 135, 3) := by decide +kernel
theorem dX2_keepRing_25 : decode cX2_keepRing 25 = .ok (.invokevirtual 249, 3) := by decide +kernel
theorem dX2_keepRing_28 : decode cX2_keepRing 28 = .ok (.aload_n 3, 1) := by decide +kernel
theorem dX2_keepRing_29 : decode cX2_keepRing 29 = .ok (.getfield 131, 3) := by decide +kernel
theorem dX2_keepRing_32 : decode cX2_keepRing 32 = .ok (.astore_n 3, 1) := by decide +kernel
theorem dX2_keepRing_33 : decode cX2_keepRing 33 = .ok (.iinc 4 1, 3) := by decide +kernel
theorem dX2_keepRing_36 : decode cX2_keepRing 36 = .ok (.goto (-26), 3) := by decide +kernel
theorem dX2_keepRing_39 : decode cX2_keepRing 39 = .ok (.return_, 1) := by decide +kernel
theorem dX2_addRingMember_0 : decode cX2_addRingMember 0 = .ok (.aload_n 0, 1) := by decide +kernel
theorem dX2_addRingMember_1 : decode cX2_addRingMember 1 = .ok (.getfield 138, 3) := by decide +kernel
theorem dX2_addRingMember_4 : decode cX2_addRingMember 4 = .ok (.istore_n 2, 1) := by decide +kernel
theorem dX2_addRingMember_5 : decode cX2_addRingMember 5 = .ok (.iload_n 2, 1) := by decide +kernel
theorem dX2_addRingMember_6 : decode cX2_addRingMember 6 = .ok (.ifCond .le 35, 3) := by decide +kernel
theorem dX2_addRingMember_9 : decode cX2_addRingMember 9 = .ok (.aload_n 0, 1) := by decide +kernel
theorem dX2_addRingMember_10 : decode cX2_addRingMember 10 = .ok (.getfield 38, 3) := by decide +kernel
theorem dX2_addRingMember_13 : decode cX2_addRingMember 13 = .ok (.iload_n 2, 1) := by decide +kernel
theorem dX2_addRingMember_14 : decode cX2_addRingMember 14 = .ok (.iconst 1, 1) := by decide +kernel
theorem dX2_addRingMember_15 : decode cX2_addRingMember 15 = .ok (.isub, 1) := by decide +kernel
theorem dX2_addRingMember_16 : decode cX2_addRingMember 16 = .ok (.iaload, 1) := by decide +kernel
theorem dX2_addRingMember_17 : decode cX2_addRingMember 17 = .ok (.iload_n 1, 1) := by decide +kernel
theorem dX2_addRingMember_18 : decode cX2_addRingMember 18 = .ok (.if_icmp .le 23, 3) := by decide +kernel
theorem dX2_addRingMember_21 : decode cX2_addRingMember 21 = .ok (.aload_n 0, 1) := by decide +kernel
theorem dX2_addRingMember_22 : decode cX2_addRingMember 22 = .ok (.getfield 38, 3) := by decide +kernel
theorem dX2_addRingMember_25 : decode cX2_addRingMember 25 = .ok (.iload_n 2, 1) := by decide +kernel
theorem dX2_addRingMember_26 : decode cX2_addRingMember 26 = .ok (.aload_n 0, 1) := by decide +kernel
theorem dX2_addRingMember_27 : decode cX2_addRingMember 27 = .ok (.getfield 38, 3) := by decide +kernel
theorem dX2_addRingMember_30 : decode cX2_addRingMember 30 = .ok (.iload_n 2, 1) := by decide +kernel
theorem dX2_addRingMember_31 : decode cX2_addRingMember 31 = .ok (.iconst 1, 1) := by decide +kernel
theorem dX2_addRingMember_32 : decode cX2_addRingMember 32 = .ok (.isub, 1) := by decide +kernel
theorem dX2_addRingMember_33 : decode cX2_addRingMember 33 = .ok (.iaload, 1) := by decide +kernel
theorem dX2_addRingMember_34 : decode cX2_addRingMember 34 = .ok (.iastore, 1) := by decide +kernel
theorem dX2_addRingMember_35 : decode cX2_addRingMember 35 = .ok (.iinc 2 (-1), 3) := by decide +kernel
theorem dX2_addRingMember_38 : decode cX2_addRingMember 38 = .ok (.goto (-33), 3) := by decide +kernel
theorem dX2_addRingMember_41 : decode cX2_addRingMember 41 = .ok (.aload_n 0, 1) := by decide +kernel
theorem dX2_addRingMember_42 : decode cX2_addRingMember 42 = .ok (.getfield 38, 3) := by decide +kernel
theorem dX2_addRingMember_45 : decode cX2_addRingMember 45 = .ok (.iload_n 2, 1) := by decide +kernel
theorem dX2_addRingMember_46 : decode cX2_addRingMember 46 = .ok (.iload_n 1, 1) := by decide +kernel
theorem dX2_addRingMember_47 : decode cX2_addRingMember 47 = .ok (.iastore, 1) := by decide +kernel
theorem dX2_addRingMember_48 : decode cX2_addRingMember 48 = .ok (.aload_n 0, 1) := by decide +kernel
theorem dX2_addRingMember_49 : decode cX2_addRingMember 49 = .ok (.dup, 1) := by decide +kernel
theorem dX2_addRingMember_50 : decode cX2_addRingMember 50 = .ok (.getfield 138, 3) := by decide +kernel
theorem dX2_addRingMember_53 : decode cX2_addRingMember 53 = .ok (.iconst 1, 1) := by decide +kernel
theorem dX2_addRingMember_54 : decode cX2_addRingMember 54 = .ok (.iadd, 1) := by decide +kernel
theorem dX2_addRingMember_55 : decode cX2_addRingMember 55 = .ok (.putfield 138, 3) := by decide +kernel
theorem dX2_addRingMember_58 : decode cX2_addRingMember 58 = .ok (.return_, 1) := by decide +kernel
set_option maxRecDepth 20000 in
theorem ggX2_queueThoseWaitingFor_X2_firstWaitingFor : GoodIn wsX2_queueThoseWaitingFor wsX2_firstWaitingFor := goodIn_r _ [6, 7, 8, 9, 1, 28, 29, 30, 31, 32, 33, 34, 35, 36, 37, 38, 39, 40, 41, 42, 17, 18, 19, 20, 21, 22, 23, 24, 25, 26, 27] (by decide +kernel) (by decide +kernel)
set_option maxRecDepth 20000 in
theorem gX2_queueThoseWaitingFor_X2_firstWaitingFor : GoodIn wsX2_queueThoseWaitingFor (wsV RX2 252 RX2 yX2_firstWaitingFor wsX2_firstWaitingFor) := goodIn_app (goodIn_of _ (by decide +kernel)) ggX2_queueThoseWaitingFor_X2_firstWaitingFor
set_option maxRecDepth 20000 in
theorem ggX2_queueThoseWaitingFor_X2_addToQueue : GoodIn wsX2_queueThoseWaitingFor wsX2_addToQueue := goodIn_r _ [13, 14, 15, 16, 17, 18, 19, 20, 21, 22, 23, 24, 25, 26, 27, 28, 29, 30, 31, 32, 33, 34, 35, 36, 37, 38, 39, 40, 41, 42] (by decide +kernel) (by decide +kernel)
set_option maxRecDepth 20000 in
theorem gX2_queueThoseWaitingFor_X2_addToQueue : GoodIn wsX2_queueThoseWaitingFor (wsV RX2 256 RX2 yX2_addToQueue wsX2_addToQueue) := goodIn_app (goodIn_of _ (by decide +kernel)) ggX2_queueThoseWaitingFor_X2_addToQueue
theorem dX2_queueThoseWaitingFor_0 : decode cX2_queueThoseWaitingFor 0 = .ok (.aload_n 0, 1) := by decide +kernel
theorem dX2_queueThoseWaitingFor_1 : decode cX2_queueThoseWaitingFor 1 = .ok (.aload_n 1, 1) := by decide +kernel
theorem dX2_queueThoseWaitingFor_2 : decode cX2_queueThoseWaitingFor 2 = .ok (.iconst 0, 1) := by decide +kernel
theorem dX2_queueThoseWaitingFor_3 : decode cX2_queueThoseWaitingFor 3 = .ok (.invokevirtual 252, 3) := by decide +kernel
theorem dX2_queueThoseWaitingFor_6 : decode cX2_queueThoseWaitingFor 6 = .ok (.astore_n 2, 1) := by decide +kernel
theorem dX2_queueThoseWaitingFor_7 : decode cX2_queueThoseWaitingFor 7 = .ok (.iconst 0, 1) := by decide +kernel
theorem dX2_queueThoseWaitingFor_8 : decode cX2_queueThoseWaitingFor 8 = .ok (.istore_n 3, 1) := by decide +kernel
theorem dX2_queueThoseWaitingFor_9 : decode cX2_queueThoseWaitingFor 9 = .ok (.iload_n 3, 1) := by decide +kernel
theorem dX2_queueThoseWaitingFor_10 : decode cX2_queueThoseWaitingFor 10 = .ok (.bipush 60, 2) := by decide +kernel
theorem dX2_queueThoseWaitingFor_12 : decode cX2_queueThoseWaitingFor 12 = .ok (.if_icmp .ge 28, 3) := by decide +kernel
theorem dX2_queueThoseWaitingFor_15 : decode cX2_queueThoseWaitingFor 15 = .ok (.aload_n 2, 1) := by decide +kernel
theorem dX2_queueThoseWaitingFor_16 : decode cX2_queueThoseWaitingFor 16 = .ok (.ifnull 24, 3) := by decide +kernel
theorem dX2_queueThoseWaitingFor_19 : decode cX2_queueThoseWaitingFor 19 = .ok (.aload_n 0, 1) := by decide +kernel
theorem dX2_queueThoseWaitingFor_20 : decode cX2_queueThoseWaitingFor 20 = .ok (.aload_n 2, 1) := by decide +kernel
theorem dX2_queueThoseWaitingFor_21 : decode cX2_queueThoseWaitingFor 21 = .ok (.invokevirtual 256, 3) := by decide +kernel
theorem dX2_queueThoseWaitingFor_24 : decode cX2_queueThoseWaitingFor 24 = .ok (.aload_n 0, 1) := by decide +kernel
theorem dX2_queueThoseWaitingFor_25 : decode cX2_queueThoseWaitingFor 25 = .ok (.aload_n 1, 1) := by decide +kernel
theorem dX2_queueThoseWaitingFor_26 : decode cX2_queueThoseWaitingFor 26 = .ok (.aload_n 2, 1) := by decide +kernel
theorem dX2_queueThoseWaitingFor_27 : decode cX2_queueThoseWaitingFor 27 = .ok (.getfield 240, 3) := by decide +kernel
theorem dX2_queueThoseWaitingFor_30 : decode cX2_queueThoseWaitingFor 30 = .ok (.invokevirtual 252, 3) := by decide +kernel
theorem dX2_queueThoseWaitingFor_33 : decode cX2_queueThoseWaitingFor 33 = .ok (.astore_n 2, 1) := by decide +kernel
theorem dX2_queueThoseWaitingFor_34 : decode cX2_queueThoseWaitingFor 34 = .ok (.iinc 3 1, 3) := by decide +kernel
theorem dX2_queueThoseWaitingFor_37 : decode cX2_queueThoseWaitingFor 37 = .ok (.goto (-28), 3) := by decide +kernel
theorem dX2_queueThoseWaitingFor_40 : decode cX2_queueThoseWaitingFor 40 = .ok (.return_, 1) := by decide +kernel
theorem dX2_firstWaitingFor_0 : decode cX2_firstWaitingFor 0 = .ok (.aconst_null, 1) := by decide +kernel
theorem dX2_firstWaitingFor_1 : decode cX2_firstWaitingFor 1 = .ok (.astore_n 3, 1) := by decide +kernel
theorem dX2_firstWaitingFor_2 : decode cX2_firstWaitingFor 2 = .ok (.iconst 0, 1) := by decide +kernel
theorem dX2_firstWaitingFor_3 : decode cX2_firstWaitingFor 3 = .ok (.istore 4, 2) := by decide +kernel
theorem dX2_firstWaitingFor_5 : decode cX2_firstWaitingFor 5 = .ok (.iload 4, 2) := by decide +kernel
theorem dX2_firstWaitingFor_7 : decode cX2_firstWaitingFor 7 = .ok (.aload_n 0, 1) := by decide +kernel
theorem dX2_firstWaitingFor_8 : decode cX2_firstWaitingFor 8 = .ok (.getfield 144, 3) := by decide +kernel
theorem dX2_firstWaitingFor_11 : decode cX2_firstWaitingFor 11 = .ok (.if_icmp .ge 55, 3) := by decide +kernel
theorem dX2_firstWaitingFor_14 : decode cX2_firstWaitingFor 14 = .ok (.aload_n 0, 1) := by decide +kernel
theorem dX2_firstWaitingFor_15 : decode cX2_firstWaitingFor 15 = .ok (.getfield 11, 3) := by decide +kernel
theorem dX2_firstWaitingFor_18 : decode cX2_firstWaitingFor 18 = .ok (.iload 4, 2) := by decide +kernel
theorem dX2_firstWaitingFor_20 : decode cX2_firstWaitingFor 20 = .ok (.aaload, 1) := by decide +kernel
theorem dX2_firstWaitingFor_21 : decode cX2_firstWaitingFor 21 = .ok (.astore 5, 2) := by decide +kernel
theorem dX2_firstWaitingFor_23 : decode cX2_firstWaitingFor 23 = .ok (.aload 5, 2) := by decide +kernel
theorem dX2_firstWaitingFor_25 : decode cX2_firstWaitingFor 25 = .ok (.getfield 131, 3) := by decide +kernel
theorem dX2_firstWaitingFor_28 : decode cX2_firstWaitingFor 28 = .ok (.aload_n 1, 1) := by decide +kernel
theorem dX2_firstWaitingFor_29 : decode cX2_firstWaitingFor 29 = .ok (.if_acmp .ne 31, 3) := by decide +kernel
theorem dX2_firstWaitingFor_32 : decode cX2_firstWaitingFor 32 = .ok (.aload 5, 2) := by decide +kernel
theorem dX2_firstWaitingFor_34 : decode cX2_firstWaitingFor 34 = .ok (.getfield 240, 3) := by decide +kernel
theorem dX2_firstWaitingFor_37 : decode cX2_firstWaitingFor 37 = .ok (.iload_n 2, 1) := by decide +kernel
theorem dX2_firstWaitingFor_38 : decode cX2_firstWaitingFor 38 = .ok (.if_icmp .le 22, 3) := by decide +kernel
theorem dX2_firstWaitingFor_41 : decode cX2_firstWaitingFor 41 = .ok (.aload_n 3, 1) := by decide +kernel
theorem dX2_firstWaitingFor_42 : decode cX2_firstWaitingFor 42 = .ok (.ifnull 15, 3) := by decide +kernel
theorem dX2_firstWaitingFor_45 : decode cX2_firstWaitingFor 45 = .ok (.aload 5, 2) := by decide +kernel
theorem dX2_firstWaitingFor_47 : decode cX2_firstWaitingFor 47 = .ok (.getfield 240, 3) := by decide +kernel
theorem dX2_firstWaitingFor_50 : decode cX2_firstWaitingFor 50 = .ok (.aload_n 3, 1) := by decide +kernel
theorem dX2_firstWaitingFor_51 : decode cX2_firstWaitingFor 51 = .ok (.getfield 240, 3) := by decide +kernel
theorem dX2_firstWaitingFor_54 : decode cX2_firstWaitingFor 54 = .ok (.if_icmp .ge 6, 3) := by decide +kernel
theorem dX2_firstWaitingFor_57 : decode cX2_firstWaitingFor 57 = .ok (.aload 5, 2) := by decide +kernel
theorem dX2_firstWaitingFor_59 : decode cX2_firstWaitingFor 59 = .ok (.astore_n 3, 1) := by decide +kernel
theorem dX2_firstWaitingFor_60 : decode cX2_firstWaitingFor 60 = .ok (.iinc 4 1, 3) := by decide +kernel
theorem dX2_firstWaitingFor_63 : decode cX2_firstWaitingFor 63 = .ok (.goto (-58), 3) := by decide +kernel
theorem dX2_firstWaitingFor_66 : decode cX2_firstWaitingFor 66 = .ok (.aload_n 3, 1) := by decide +kernel
theorem dX2_firstWaitingFor_67 : decode cX2_firstWaitingFor 67 = .ok (.areturn, 1) := by decide +kernel
theorem dX2_addToQueue_0 : decode cX2_addToQueue 0 = .ok (.aload_n 1, 1) := by decide +kernel
theorem dX2_addToQueue_1 : decode cX2_addToQueue 1 = .ok (.aconst_null, 1) := by decide +kernel
theorem dX2_addToQueue_2 : decode cX2_addToQueue 2 = .ok (.putfield 259, 3) := by decide +kernel
theorem dX2_addToQueue_5 : decode cX2_addToQueue 5 = .ok (.aload_n 0, 1) := by decide +kernel
theorem dX2_addToQueue_6 : decode cX2_addToQueue 6 = .ok (.getfield 262, 3) := by decide +kernel
theorem dX2_addToQueue_9 : decode cX2_addToQueue 9 = .ok (.ifnonnull 11, 3) := by decide +kernel
theorem dX2_addToQueue_12 : decode cX2_addToQueue 12 = .ok (.aload_n 0, 1) := by decide +kernel
theorem dX2_addToQueue_13 : decode cX2_addToQueue 13 = .ok (.aload_n 1, 1) := by decide +kernel
theorem dX2_addToQueue_14 : decode cX2_addToQueue 14 = .ok (.putfield 265, 3) := by decide +kernel
theorem dX2_addToQueue_17 : decode cX2_addToQueue 17 = .ok (.goto 11, 3) := by decide +kernel
theorem dX2_addToQueue_20 : decode cX2_addToQueue 20 = .ok (.aload_n 0, 1) := by decide +kernel
theorem dX2_addToQueue_21 : decode cX2_addToQueue 21 = .ok (.getfield 262, 3) := by decide +kernel
theorem dX2_addToQueue_24 : decode cX2_addToQueue 24 = .ok (.aload_n 1, 1) := by decide +kernel
theorem dX2_addToQueue_25 : decode cX2_addToQueue 25 = .ok (.putfield 259, 3) := by decide +kernel
theorem dX2_addToQueue_28 : decode cX2_addToQueue 28 = .ok (.aload_n 0, 1) := by decide +kernel
theorem dX2_addToQueue_29 : decode cX2_addToQueue 29 = .ok (.aload_n 1, 1) := by decide +kernel
theorem dX2_addToQueue_30 : decode cX2_addToQueue 30 = .ok (.putfield 262, 3) := by decide +kernel
theorem dX2_addToQueue_33 : decode cX2_addToQueue 33 = .ok (.return_, 1) := by decide +kernel
set_option maxRecDepth 20000 in
theorem ggX2_retryQueued_X2_tryWrite : GoodIn wsX2_retryQueued wsX2_tryWrite := goodIn_r _ [11, 4, 12, 13, 14, 15, 16, 17, 18, 19, 10, 20, 21, 22, 23, 24, 25, 26, 27, 5, 6, 28, 29, 30, 31, 32, 33, 34, 35, 36, 37, 38, 39, 40, 41, 42, 43, 44, 45, 46, 47, 48, 49, 50, 51, 52, 53, 54, 55, 56, 57, 58, 59, 60, 61, 2, 3, 1, 77, 78, 79, 80, 81, 82, 83, 84, 85, 86, 87, 62, 63, 64, 65, 66, 67, 68, 69, 70, 71, 72, 73, 74, 75, 76, 88, 89, 90] (by decide +kernel) (by decide +kernel)
set_option maxRecDepth 20000 in
theorem gX2_retryQueued_X2_tryWrite : GoodIn wsX2_retryQueued (wsV RX2 64 RX2 yX2_tryWrite wsX2_tryWrite) := goodIn_app (goodIn_of _ (by decide +kernel)) ggX2_retryQueued_X2_tryWrite
theorem dX2_retryQueued_0 : decode cX2_retryQueued 0 = .ok (.iconst 0, 1) := by decide +kernel
theorem dX2_retryQueued_1 : decode cX2_retryQueued 1 = .ok (.istore_n 1, 1) := by decide +kernel
theorem dX2_retryQueued_2 : decode cX2_retryQueued 2 = .ok (.iload_n 1, 1) := by decide +kernel
theorem dX2_retryQueued_3 : decode cX2_retryQueued 3 = .ok (.sipush 3600, 3) := by decide +kernel
theorem dX2_retryQueued_6 : decode cX2_retryQueued 6 = .ok (.if_icmp .ge 62, 3) := by decide +kernel
theorem dX2_retryQueued_9 : decode cX2_retryQueued 9 = .ok (.aload_n 0, 1) := by decide +kernel
theorem dX2_retryQueued_10 : decode cX2_retryQueued 10 = .ok (.getfield 265, 3) := by decide +kernel
theorem dX2_retryQueued_13 : decode cX2_retryQueued 13 = .ok (.ifnull 55, 3) := by decide +kernel
theorem dX2_retryQueued_16 : decode cX2_retryQueued 16 = .ok (.aload_n 0, 1) := by decide +kernel
theorem dX2_retryQueued_17 : decode cX2_retryQueued 17 = .ok (.getfield 265, 3) := by decide +kernel
theorem dX2_retryQueued_20 : decode cX2_retryQueued 20 = .ok (.astore_n 2, 1) := by decide +kernel
theorem dX2_retryQueued_21 : decode cX2_retryQueued 21 = .ok (.aload_n 0, 1) := by decide +kernel
theorem dX2_retryQueued_22 : decode cX2_retryQueued 22 = .ok (.aload_n 2, 1) := by decide +kernel
theorem dX2_retryQueued_23 : decode cX2_retryQueued 23 = .ok (.getfield 259, 3) := by decide +kernel
theorem dX2_retryQueued_26 : decode cX2_retryQueued 26 = .ok (.putfield 265, 3) := by decide +kernel
theorem dX2_retryQueued_29 : decode cX2_retryQueued 29 = .ok (.aload_n 0, 1) := by decide +kernel
theorem dX2_retryQueued_30 : decode cX2_retryQueued 30 = .ok (.getfield 265, 3) := by decide +kernel
theorem dX2_retryQueued_33 : decode cX2_retryQueued 33 = .ok (.ifnonnull 8, 3) := by decide +kernel
theorem dX2_retryQueued_36 : decode cX2_retryQueued 36 = .ok (.aload_n 0, 1) := by decide +kernel
theorem dX2_retryQueued_37 : decode cX2_retryQueued 37 = .ok (.aconst_null, 1) := by decide +kernel
theorem dX2_retryQueued_38 : decode cX2_retryQueued 38 = .ok (.putfield 262, 3) := by decide +kernel
theorem dX2_retryQueued_41 : decode cX2_retryQueued 41 = .ok (.aload_n 2, 1) := by decide +kernel
theorem dX2_retryQueued_42 : decode cX2_retryQueued 42 = .ok (.getfield 128, 3) := by decide +kernel
theorem dX2_retryQueued_45 : decode cX2_retryQueued 45 = .ok (.iconst 1, 1) := by decide +kernel
theorem dX2_retryQueued_46 : decode cX2_retryQueued 46 = .ok (.if_icmp .ne 16, 3) := by decide +kernel
theorem dX2_retryQueued_49 : decode cX2_retryQueued 49 = .ok (.aload_n 0, 1) := by decide +kernel
theorem dX2_retryQueued_50 : decode cX2_retryQueued 50 = .ok (.aload_n 2, 1) := by decide +kernel
theorem dX2_retryQueued_51 : decode cX2_retryQueued 51 = .ok (.aload_n 2, 1) := by decide +kernel
theorem dX2_retryQueued_52 : decode cX2_retryQueued 52 = .ok (.getfield 234, 3) := by decide +kernel
theorem dX2_retryQueued_55 : decode cX2_retryQueued 55 = .ok (.aload_n 2, 1) := by decide +kernel
theorem dX2_retryQueued_56 : decode cX2_retryQueued 56 = .ok (.getfield 237, 3) := by decide +kernel
theorem dX2_retryQueued_59 : decode cX2_retryQueued 59 = .ok (.invokevirtual 64, 3) := by decide +kernel
theorem dX2_retryQueued_62 : decode cX2_retryQueued 62 = .ok (.iinc 1 1, 3) := by decide +kernel
theorem dX2_retryQueued_65 : decode cX2_retryQueued 65 = .ok (.goto (-63), 3) := by decide +kernel
theorem dX2_retryQueued_68 : decode cX2_retryQueued 68 = .ok (.return_, 1) := by decide +kernel
