theorem dX1_closingOnWitness_54 : decode cX1_closingOnWitness 54 = .ok (.aload_n 0, 1) := by decide +kernel
theorem dX1_closingOnWitness_55 : decode cX1_closingOnWitness 55 = .ok (.aload_n 1, 1) := by decide +kernel
theorem dX1_closingOnWitness_56 : decode cX1_closingOnWitness 56 = .ok (.getfield 41, 3) := by decide +kernel
theorem dX1_closingOnWitness_59 : decode cX1_closingOnWitness 59 = .ok (.iload 5, 2) := by decide +kernel
theorem dX1_closingOnWitness_61 : decode cX1_closingOnWitness 61 = .ok (.iaload, 1) := by decide +kernel
theorem dX1_closingOnWitness_62 : decode cX1_closingOnWitness 62 = .ok (.iload_n 3, 1) := by decide +kernel
theorem dX1_closingOnWitness_63 : decode cX1_closingOnWitness 63 = .ok (.invokevirtual 20, 3) := by decide +kernel
theorem dX1_closingOnWitness_66 : decode cX1_closingOnWitness 66 = .ok (.istore 7, 2) := by decide +kernel
theorem dX1_closingOnWitness_68 : decode cX1_closingOnWitness 68 = .ok (.iload 6, 2) := by decide +kernel
theorem dX1_closingOnWitness_70 : decode cX1_closingOnWitness 70 = .ok (.iload 7, 2) := by decide +kernel
theorem dX1_closingOnWitness_72 : decode cX1_closingOnWitness 72 = .ok (.iadd, 1) := by decide +kernel
theorem dX1_closingOnWitness_73 : decode cX1_closingOnWitness 73 = .ok (.iconst 2, 1) := by decide +kernel
theorem dX1_closingOnWitness_74 : decode cX1_closingOnWitness 74 = .ok (.iadd, 1) := by decide +kernel
theorem dX1_closingOnWitness_75 : decode cX1_closingOnWitness 75 = .ok (.iload 4, 2) := by decide +kernel
theorem dX1_closingOnWitness_77 : decode cX1_closingOnWitness 77 = .ok (.if_icmp .ne 6, 3) := by decide +kernel
theorem dX1_closingOnWitness_80 : decode cX1_closingOnWitness 80 = .ok (.iload 5, 2) := by decide +kernel
theorem dX1_closingOnWitness_82 : decode cX1_closingOnWitness 82 = .ok (.ireturn, 1) := by decide +kernel
theorem dX1_closingOnWitness_83 : decode cX1_closingOnWitness 83 = .ok (.iinc 5 1, 3) := by decide +kernel
theorem dX1_closingOnWitness_86 : decode cX1_closingOnWitness 86 = .ok (.goto (-70), 3) := by decide +kernel
theorem dX1_closingOnWitness_89 : decode cX1_closingOnWitness 89 = .ok (.bipush (-9), 2) := by decide +kernel
theorem dX1_closingOnWitness_91 : decode cX1_closingOnWitness 91 = .ok (.ireturn, 1) := by decide +kernel
theorem dX2_init_0 : decode cX2_init 0 = .ok (.aload_n 0, 1) := by decide +kernel
theorem dX2_init_1 : decode cX2_init 1 = .ok (.invokespecial 3, 3) := by decide +kernel
theorem dX2_init_4 : decode cX2_init 4 = .ok (.aload_n 0, 1) := by decide +kernel
theorem dX2_init_5 : decode cX2_init 5 = .ok (.iload_n 1, 1) := by decide +kernel
theorem dX2_init_6 : decode cX2_init 6 = .ok (.newarray .int, 2) := by decide +kernel
theorem dX2_init_8 : decode cX2_init 8 = .ok (.putfield 9, 3) := by decide +kernel
theorem dX2_init_11 : decode cX2_init 11 = .ok (.aload_n 0, 1) := by decide +kernel
theorem dX2_init_12 : decode cX2_init 12 = .ok (.iload_n 1, 1) := by decide +kernel
theorem dX2_init_13 : decode cX2_init 13 = .ok (.newarray .int, 2) := by decide +kernel
theorem dX2_init_15 : decode cX2_init 15 = .ok (.putfield 15, 3) := by decide +kernel
theorem dX2_init_18 : decode cX2_init 18 = .ok (.aload_n 0, 1) := by decide +kernel
theorem dX2_init_19 : decode cX2_init 19 = .ok (.iload_n 1, 1) := by decide +kernel
theorem dX2_init_20 : decode cX2_init 20 = .ok (.newarray .int, 2) := by decide +kernel
theorem dX2_init_22 : decode cX2_init 22 = .ok (.putfield 18, 3) := by decide +kernel
theorem dX2_init_25 : decode cX2_init 25 = .ok (.aload_n 0, 1) := by decide +kernel
theorem dX2_init_26 : decode cX2_init 26 = .ok (.iconst 0, 1) := by decide +kernel
theorem dX2_init_27 : decode cX2_init 27 = .ok (.putfield 21, 3) := by decide +kernel
theorem dX2_init_30 : decode cX2_init 30 = .ok (.return_, 1) := by decide +kernel
theorem dX2_holds_0 : decode cX2_holds 0 = .ok (.iload_n 1, 1) := by decide +kernel
theorem dX2_holds_1 : decode cX2_holds 1 = .ok (.ifCond .lt 15, 3) := by decide +kernel
theorem dX2_holds_4 : decode cX2_holds 4 = .ok (.iload_n 1, 1) := by decide +kernel
theorem dX2_holds_5 : decode cX2_holds 5 = .ok (.aload_n 0, 1) := by decide +kernel
theorem dX2_holds_6 : decode cX2_holds 6 = .ok (.getfield 21, 3) := by decide +kernel
theorem dX2_holds_9 : decode cX2_holds 9 = .ok (.if_icmp .ge 7, 3) := by decide +kernel
theorem dX2_holds_12 : decode cX2_holds 12 = .ok (.iconst 1, 1) := by decide +kernel
theorem dX2_holds_13 : decode cX2_holds 13 = .ok (.goto 4, 3) := by decide +kernel
theorem dX2_holds_16 : decode cX2_holds 16 = .ok (.iconst 0, 1) := by decide +kernel
theorem dX2_holds_17 : decode cX2_holds 17 = .ok (.ireturn, 1) := by decide +kernel
theorem dX2_isFull_0 : decode cX2_isFull 0 = .ok (.aload_n 0, 1) := by decide +kernel
theorem dX2_isFull_1 : decode cX2_isFull 1 = .ok (.getfield 21, 3) := by decide +kernel
theorem dX2_isFull_4 : decode cX2_isFull 4 = .ok (.aload_n 0, 1) := by decide +kernel
theorem dX2_isFull_5 : decode cX2_isFull 5 = .ok (.getfield 9, 3) := by decide +kernel
theorem dX2_isFull_8 : decode cX2_isFull 8 = .ok (.arraylength, 1) := by decide +kernel
theorem dX2_isFull_9 : decode cX2_isFull 9 = .ok (.if_icmp .lt 7, 3) := by decide +kernel
theorem dX2_isFull_12 : decode cX2_isFull 12 = .ok (.iconst 1, 1) := by decide +kernel
theorem dX2_isFull_13 : decode cX2_isFull 13 = .ok (.goto 4, 3) := by decide +kernel
theorem dX2_isFull_16 : decode cX2_isFull 16 = .ok (.iconst 0, 1) := by decide +kernel
theorem dX2_isFull_17 : decode cX2_isFull 17 = .ok (.ireturn, 1) := by decide +kernel
set_option maxRecDepth 20000 in
theorem ggX2_put_X2_isFull : GoodIn wsX2_put wsX2_isFull := goodIn_r _ [9, 2, 1, 10, 11, 12, 13] (by decide +kernel) (by decide +kernel)
set_option maxRecDepth 20000 in
theorem gX2_put_X2_isFull : GoodIn wsX2_put (wsV RX2 25 RX2 yX2_isFull wsX2_isFull) := goodIn_app (goodIn_of _ (by decide +kernel)) ggX2_put_X2_isFull
theorem dX2_put_0 : decode cX2_put 0 = .ok (.aload_n 0, 1) := by decide +kernel
theorem dX2_put_1 : decode cX2_put 1 = .ok (.invokevirtual 25, 3) := by decide +kernel
theorem dX2_put_4 : decode cX2_put 4 = .ok (.ifCond .eq 4, 3) := by decide +kernel
theorem dX2_put_7 : decode cX2_put 7 = .ok (.return_, 1) := by decide +kernel
theorem dX2_put_8 : decode cX2_put 8 = .ok (.aload_n 0, 1) := by decide +kernel
theorem dX2_put_9 : decode cX2_put 9 = .ok (.getfield 9, 3) := by decide +kernel
theorem dX2_put_12 : decode cX2_put 12 = .ok (.aload_n 0, 1) := by decide +kernel
theorem dX2_put_13 : decode cX2_put 13 = .ok (.getfield 21, 3) := by decide +kernel
theorem dX2_put_16 : decode cX2_put 16 = .ok (.iload_n 1, 1) := by decide +kernel
theorem dX2_put_17 : decode cX2_put 17 = .ok (.iastore, 1) := by decide +kernel
theorem dX2_put_18 : decode cX2_put 18 = .ok (.aload_n 0, 1) := by decide +kernel
theorem dX2_put_19 : decode cX2_put 19 = .ok (.getfield 15, 3) := by decide +kernel
theorem dX2_put_22 : decode cX2_put 22 = .ok (.aload_n 0, 1) := by decide +kernel
theorem dX2_put_23 : decode cX2_put 23 = .ok (.getfield 21, 3) := by decide +kernel
theorem dX2_put_26 : decode cX2_put 26 = .ok (.iload_n 2, 1) := by decide +kernel
theorem dX2_put_27 : decode cX2_put 27 = .ok (.iastore, 1) := by decide +kernel
theorem dX2_put_28 : decode cX2_put 28 = .ok (.aload_n 0, 1) := by decide +kernel
theorem dX2_put_29 : decode cX2_put 29 = .ok (.getfield 18, 3) := by decide +kernel
theorem dX2_put_32 : decode cX2_put 32 = .ok (.aload_n 0, 1) := by decide +kernel
theorem dX2_put_33 : decode cX2_put 33 = .ok (.getfield 21, 3) := by decide +kernel
theorem dX2_put_36 : decode cX2_put 36 = .ok (.iload_n 3, 1) := by decide +kernel
theorem dX2_put_37 : decode cX2_put 37 = .ok (.iastore, 1) := by decide +kernel
theorem dX2_put_38 : decode cX2_put 38 = .ok (.aload_n 0, 1) := by decide +kernel
theorem dX2_put_39 : decode cX2_put 39 = .ok (.dup, 1) := by decide +kernel
theorem dX2_put_40 : decode cX2_put 40 = .ok (.getfield 21, 3) := by decide +kernel
theorem dX2_put_43 : decode cX2_put 43 = .ok (.iconst 1, 1) := by decide +kernel
theorem dX2_put_44 : decode cX2_put 44 = .ok (.iadd, 1) := by decide +kernel
theorem dX2_put_45 : decode cX2_put 45 = .ok (.putfield 21, 3) := by decide +kernel
theorem dX2_put_48 : decode cX2_put 48 = .ok (.return_, 1) := by decide +kernel
set_option maxRecDepth 20000 in
theorem ggX2_drop_X2_holds : GoodIn wsX2_drop wsX2_holds := goodIn_r _ [9, 1, 10, 11, 12, 13] (by decide +kernel) (by decide +kernel)
set_option maxRecDepth 20000 in
theorem gX2_drop_X2_holds : GoodIn wsX2_drop (wsV RX2 29 RX2 yX2_holds wsX2_holds) := goodIn_app (goodIn_of _ (by decide +kernel)) ggX2_drop_X2_holds
theorem dX2_drop_0 : decode cX2_drop 0 = .ok (.aload_n 0, 1) := by decide +kernel
theorem dX2_drop_1 : decode cX2_drop 1 = .ok (.iload_n 1, 1) := by decide +kernel
theorem dX2_drop_2 : decode cX2_drop 2 = .ok (.invokevirtual 29, 3) := by decide +kernel
theorem dX2_drop_5 : decode cX2_drop 5 = .ok (.ifCond .ne 4, 3) := by decide +kernel
theorem dX2_drop_8 : decode cX2_drop 8 = .ok (.return_, 1) := by decide +kernel
theorem dX2_drop_9 : decode cX2_drop 9 = .ok (.iload_n 1, 1) := by decide +kernel
theorem dX2_drop_10 : decode cX2_drop 10 = .ok (.iconst 1, 1) := by decide +kernel
theorem dX2_drop_11 : decode cX2_drop 11 = .ok (.iadd, 1) := by decide +kernel
theorem dX2_drop_12 : decode cX2_drop 12 = .ok (.istore_n 2, 1) := by decide +kernel
theorem dX2_drop_13 : decode cX2_drop 13 = .ok (.iload_n 2, 1) := by decide +kernel
theorem dX2_drop_14 : decode cX2_drop 14 = .ok (.aload_n 0, 1) := by decide +kernel
theorem dX2_drop_15 : decode cX2_drop 15 = .ok (.getfield 21, 3) := by decide +kernel
theorem dX2_drop_18 : decode cX2_drop 18 = .ok (.if_icmp .ge 51, 3) := by decide +kernel
theorem dX2_drop_21 : decode cX2_drop 21 = .ok (.aload_n 0, 1) := by decide +kernel
theorem dX2_drop_22 : decode cX2_drop 22 = .ok (.getfield 9, 3) := by decide +kernel
theorem dX2_drop_25 : decode cX2_drop 25 = .ok (.iload_n 2, 1) := by decide +kernel
theorem dX2_drop_26 : decode cX2_drop 26 = .ok (.iconst 1, 1) := by decide +kernel
theorem dX2_drop_27 : decode cX2_drop 27 = .ok (.isub, 1) := by decide +kernel
theorem dX2_drop_28 : decode cX2_drop 28 = .ok (.aload_n 0, 1) := by decide +kernel
theorem dX2_drop_29 : decode cX2_drop 29 = .ok (.getfield 9, 3) := by decide +kernel
theorem dX2_drop_32 : decode cX2_drop 32 = .ok (.iload_n 2, 1) := by decide +kernel
theorem dX2_drop_33 : decode cX2_drop 33 = .ok (.iaload, 1) := by decide +kernel
theorem dX2_drop_34 : decode cX2_drop 34 = .ok (.iastore, 1) := by decide +kernel
theorem dX2_drop_35 : decode cX2_drop 35 = .ok (.aload_n 0, 1) := by decide +kernel
theorem dX2_drop_36 : decode cX2_drop 36 = .ok (.getfield 15, 3) := by decide +kernel
theorem dX2_drop_39 : decode cX2_drop 39 = .ok (.iload_n 2, 1) := by decide +kernel
theorem dX2_drop_40 : decode cX2_drop 40 = .ok (.iconst 1, 1) := by decide +kernel
theorem dX2_drop_41 : decode cX2_drop 41 = .ok (.isub, 1) := by decide +kernel
theorem dX2_drop_42 : decode cX2_drop 42 = .ok (.aload_n 0, 1) := by decide +kernel
theorem dX2_drop_43 : decode cX2_drop 43 = .ok (.getfield 15, 3) := by decide +kernel
theorem dX2_drop_46 : decode cX2_drop 46 = .ok (.iload_n 2, 1) := by decide +kernel
theorem dX2_drop_47 : decode cX2_drop 47 = .ok (.iaload, 1) := by decide +kernel
theorem dX2_drop_48 : decode cX2_drop 48 = .ok (.iastore, 1) := by decide +kernel
theorem dX2_drop_49 : decode cX2_drop 49 = .ok (.aload_n 0, 1) := by decide +kernel
theorem dX2_drop_50 : decode cX2_drop 50 = .ok (.getfield 18, 3) := by decide +kernel
theorem dX2_drop_53 : decode cX2_drop 53 = .ok (.iload_n 2, 1) := by decide +kernel
theorem dX2_drop_54 : decode cX2_drop 54 = .ok (.iconst 1, 1) := by decide +kernel
theorem dX2_drop_55 : decode cX2_drop 55 = .ok (.isub, 1) := by decide +kernel
theorem dX2_drop_56 : decode cX2_drop 56 = .ok (.aload_n 0, 1) := by decide +kernel
theorem dX2_drop_57 : decode cX2_drop 57 = .ok (.getfield 18, 3) := by decide +kernel
theorem dX2_drop_60 : decode cX2_drop 60 = .ok (.iload_n 2, 1) := by decide +kernel
theorem dX2_drop_61 : decode cX2_drop 61 = .ok (.iaload, 1) := by decide +kernel
theorem dX2_drop_62 : decode cX2_drop 62 = .ok (.iastore, 1) := by decide +kernel
theorem dX2_drop_63 : decode cX2_drop 63 = .ok (.iinc 2 1, 3) := by decide +kernel
theorem dX2_drop_66 : decode cX2_drop 66 = .ok (.goto (-53), 3) := by decide +kernel
theorem dX2_drop_69 : decode cX2_drop 69 = .ok (.aload_n 0, 1) := by decide +kernel
theorem dX2_drop_70 : decode cX2_drop 70 = .ok (.dup, 1) := by decide +kernel
theorem dX2_drop_71 : decode cX2_drop 71 = .ok (.getfield 21, 3) := by decide +kernel
theorem dX2_drop_74 : decode cX2_drop 74 = .ok (.iconst 1, 1) := by decide +kernel
theorem dX2_drop_75 : decode cX2_drop 75 = .ok (.isub, 1) := by decide +kernel
theorem dX2_drop_76 : decode cX2_drop 76 = .ok (.putfield 21, 3) := by decide +kernel
theorem dX2_drop_79 : decode cX2_drop 79 = .ok (.return_, 1) := by decide +kernel
set_option maxRecDepth 20000 in
theorem ggX2_take_X2_put : GoodIn wsX2_take wsX2_put := goodIn_r _ [9, 2, 1, 3, 4, 10, 11, 12, 8, 13, 14, 15, 16, 17] (by decide +kernel) (by decide +kernel)
set_option maxRecDepth 20000 in
theorem gX2_take_X2_put : GoodIn wsX2_take (wsV RX2 33 RX2 yX2_put wsX2_put) := goodIn_app (goodIn_of _ (by decide +kernel)) ggX2_take_X2_put
theorem dX2_take_0 : decode cX2_take 0 = .ok (.aload_n 0, 1) := by decide +kernel
theorem dX2_take_1 : decode cX2_take 1 = .ok (.iconst 0, 1) := by decide +kernel
theorem dX2_take_2 : decode cX2_take 2 = .ok (.putfield 21, 3) := by decide +kernel
theorem dX2_take_5 : decode cX2_take 5 = .ok (.iconst 0, 1) := by decide +kernel
theorem dX2_take_6 : decode cX2_take 6 = .ok (.istore_n 2, 1) := by decide +kernel
theorem dX2_take_7 : decode cX2_take 7 = .ok (.iload_n 2, 1) := by decide +kernel
theorem dX2_take_8 : decode cX2_take 8 = .ok (.aload_n 1, 1) := by decide +kernel
theorem dX2_take_9 : decode cX2_take 9 = .ok (.getfield 21, 3) := by decide +kernel
theorem dX2_take_12 : decode cX2_take 12 = .ok (.if_icmp .ge 31, 3) := by decide +kernel
theorem dX2_take_15 : decode cX2_take 15 = .ok (.aload_n 0, 1) := by decide +kernel
theorem dX2_take_16 : decode cX2_take 16 = .ok (.aload_n 1, 1) := by decide +kernel
theorem dX2_take_17 : decode cX2_take 17 = .ok (.getfield 9, 3) := by decide +kernel
theorem dX2_take_20 : decode cX2_take 20 = .ok (.iload_n 2, 1) := by decide +kernel
theorem dX2_take_21 : decode cX2_take 21 = .ok (.iaload, 1) := by decide +kernel
theorem dX2_take_22 : decode cX2_take 22 = .ok (.aload_n 1, 1) := by decide +kernel
theorem dX2_take_23 : decode cX2_take 23 = .ok (.getfield 15, 3) := by decide +kernel
theorem dX2_take_26 : decode cX2_take 26 = .ok (.iload_n 2, 1) := by decide +kernel
theorem dX2_take_27 : decode cX2_take 27 = .ok (.iaload, 1) := by decide +kernel
theorem dX2_take_28 : decode cX2_take 28 = .ok (.aload_n 1, 1) := by decide +kernel
theorem dX2_take_29 : decode cX2_take 29 = .ok (.getfield 18, 3) := by decide +kernel
theorem dX2_take_32 : decode cX2_take 32 = .ok (.iload_n 2, 1) := by decide +kernel
theorem dX2_take_33 : decode cX2_take 33 = .ok (.iaload, 1) := by decide +kernel
theorem dX2_take_34 : decode cX2_take 34 = .ok (.invokevirtual 33, 3) := by decide +kernel
theorem dX2_take_37 : decode cX2_take 37 = .ok (.iinc 2 1, 3) := by decide +kernel
theorem dX2_take_40 : decode cX2_take 40 = .ok (.goto (-33), 3) := by decide +kernel
theorem dX2_take_43 : decode cX2_take 43 = .ok (.return_, 1) := by decide +kernel
set_option maxRecDepth 20000 in
theorem ggX2_takeSome_X2_put : GoodIn wsX2_takeSome wsX2_put := goodIn_r _ [9, 2, 1, 3, 4, 10, 11, 12, 8, 13, 14, 15, 16, 17] (by decide +kernel) (by decide +kernel)
set_option maxRecDepth 20000 in
theorem gX2_takeSome_X2_put : GoodIn wsX2_takeSome (wsV RX2 33 RX2 yX2_put wsX2_put) := goodIn_app (goodIn_of _ (by decide +kernel)) ggX2_takeSome_X2_put
theorem dX2_takeSome_0 : decode cX2_takeSome 0 = .ok (.aload_n 0, 1) := by decide +kernel
theorem dX2_takeSome_1 : decode cX2_takeSome 1 = .ok (.iconst 0, 1) := by decide +kernel
theorem dX2_takeSome_2 : decode cX2_takeSome 2 = .ok (.putfield 21, 3) := by decide +kernel
theorem dX2_takeSome_5 : decode cX2_takeSome 5 = .ok (.iconst 0, 1) := by decide +kernel
theorem dX2_takeSome_6 : decode cX2_takeSome 6 = .ok (.istore_n 3, 1) := by decide +kernel
theorem dX2_takeSome_7 : decode cX2_takeSome 7 = .ok (.iload_n 3, 1) := by decide +kernel
theorem dX2_takeSome_8 : decode cX2_takeSome 8 = .ok (.aload_n 1, 1) := by decide +kernel
theorem dX2_takeSome_9 : decode cX2_takeSome 9 = .ok (.getfield 21, 3) := by decide +kernel
theorem dX2_takeSome_12 : decode cX2_takeSome 12 = .ok (.if_icmp .ge 39, 3) := by decide +kernel
theorem dX2_takeSome_15 : decode cX2_takeSome 15 = .ok (.iload_n 2, 1) := by decide +kernel
theorem dX2_takeSome_16 : decode cX2_takeSome 16 = .ok (.iload_n 3, 1) := by decide +kernel
theorem dX2_takeSome_17 : decode cX2_takeSome 17 = .ok (.ishr, 1) := by decide +kernel
theorem dX2_takeSome_18 : decode cX2_takeSome 18 = .ok (.iconst 1, 1) := by decide +kernel
theorem dX2_takeSome_19 : decode cX2_takeSome 19 = .ok (.iand, 1) := by decide +kernel
theorem dX2_takeSome_20 : decode cX2_takeSome 20 = .ok (.ifCond .eq 25, 3) := by decide +kernel
theorem dX2_takeSome_23 : decode cX2_takeSome 23 = .ok (.aload_n 0, 1) := by decide +kernel
theorem dX2_takeSome_24 : decode cX2_takeSome 24 = .ok (.aload_n 1, 1) := by decide +kernel
theorem dX2_takeSome_25 : decode cX2_takeSome 25 = .ok (.getfield 9, 3) := by decide +kernel
theorem dX2_takeSome_28 : decode cX2_takeSome 28 = .ok (.iload_n 3, 1) := by decide +kernel
theorem dX2_takeSome_29 : decode cX2_takeSome 29 = .ok (.iaload, 1) := by decide +kernel
theorem dX2_takeSome_30 : decode cX2_takeSome 30 = .ok (.aload_n 1, 1) := by decide +kernel
theorem dX2_takeSome_31 : decode cX2_takeSome 31 = .ok (.getfield 15, 3) := by decide +kernel
theorem dX2_takeSome_34 : decode cX2_takeSome 34 = .ok (.iload_n 3, 1) := by decide +kernel
theorem dX2_takeSome_35 : decode cX2_takeSome 35 = .ok (.iaload, 1) := by decide +kernel
theorem dX2_takeSome_36 : decode cX2_takeSome 36 = .ok (.aload_n 1, 1) := by decide +kernel
theorem dX2_takeSome_37 : decode cX2_takeSome 37 = .ok (.getfield 18, 3) := by decide +kernel
theorem dX2_takeSome_40 : decode cX2_takeSome 40 = .ok (.iload_n 3, 1) := by decide +kernel
theorem dX2_takeSome_41 : decode cX2_takeSome 41 = .ok (.iaload, 1) := by decide +kernel
theorem dX2_takeSome_42 : decode cX2_takeSome 42 = .ok (.invokevirtual 33, 3) := by decide +kernel
theorem dX2_takeSome_45 : decode cX2_takeSome 45 = .ok (.iinc 3 1, 3) := by decide +kernel
theorem dX2_takeSome_48 : decode cX2_takeSome 48 = .ok (.goto (-41), 3) := by decide +kernel
theorem dX2_takeSome_51 : decode cX2_takeSome 51 = .ok (.return_, 1) := by decide +kernel
set_option maxRecDepth 20000 in
theorem ggX2_takeBothWays_X2_take : GoodIn wsX2_takeBothWays wsX2_take := goodIn_r _ [9, 1, 3, 2, 4, 10, 11, 12, 8, 13, 14, 15, 16, 17, 21, 22, 23, 24] (by decide +kernel) (by decide +kernel)
set_option maxRecDepth 20000 in
theorem gX2_takeBothWays_X2_take : GoodIn wsX2_takeBothWays (wsV RX2 37 RX2 yX2_take wsX2_take) := goodIn_app (goodIn_of _ (by decide +kernel)) ggX2_takeBothWays_X2_take
set_option maxRecDepth 20000 in
theorem ggX2_takeBothWays_X2_otherBracket : GoodIn wsX2_takeBothWays wsX2_otherBracket := goodIn_r _ [20] (by decide +kernel) (by decide +kernel)
set_option maxRecDepth 20000 in
theorem gX2_takeBothWays_X2_otherBracket : GoodIn wsX2_takeBothWays (va_wsS RX2 41 yX2_otherBracket wsX2_otherBracket) := goodIn_app (goodIn_of _ (by decide +kernel)) ggX2_takeBothWays_X2_otherBracket
set_option maxRecDepth 20000 in
theorem ggX2_takeBothWays_X2_put : GoodIn wsX2_takeBothWays wsX2_put := goodIn_r _ [13, 3, 1, 2, 4, 14, 15, 16, 8, 17, 21, 22, 23, 24] (by decide +kernel) (by decide +kernel)
set_option maxRecDepth 20000 in
theorem gX2_takeBothWays_X2_put : GoodIn wsX2_takeBothWays (wsV RX2 33 RX2 yX2_put wsX2_put) := goodIn_app (goodIn_of _ (by decide +kernel)) ggX2_takeBothWays_X2_put
theorem dX2_takeBothWays_0 : decode cX2_takeBothWays 0 = .ok (.aload_n 0, 1) := by decide +kernel
theorem dX2_takeBothWays_1 : decode cX2_takeBothWays 1 = .ok (.aload_n 1, 1) := by decide +kernel
theorem dX2_takeBothWays_2 : decode cX2_takeBothWays 2 = .ok (.invokevirtual 37, 3) := by decide +kernel
theorem dX2_takeBothWays_5 : decode cX2_takeBothWays 5 = .ok (.iconst 0, 1) := by decide +kernel
theorem dX2_takeBothWays_6 : decode cX2_takeBothWays 6 = .ok (.istore_n 2, 1) := by decide +kernel
theorem dX2_takeBothWays_7 : decode cX2_takeBothWays 7 = .ok (.iload_n 2, 1) := by decide +kernel
theorem dX2_takeBothWays_8 : decode cX2_takeBothWays 8 = .ok (.aload_n 1, 1) := by decide +kernel
theorem dX2_takeBothWays_9 : decode cX2_takeBothWays 9 = .ok (.getfield 21, 3) := by decide +kernel
theorem dX2_takeBothWays_12 : decode cX2_takeBothWays 12 = .ok (.if_icmp .ge 34, 3) := by decide +kernel
theorem dX2_takeBothWays_15 : decode cX2_takeBothWays 15 = .ok (.aload_n 0, 1) := by decide +kernel
theorem dX2_takeBothWays_16 : decode cX2_takeBothWays 16 = .ok (.aload_n 1, 1) := by decide +kernel
theorem dX2_takeBothWays_17 : decode cX2_takeBothWays 17 = .ok (.getfield 15, 3) := by decide +kernel
theorem dX2_takeBothWays_20 : decode cX2_takeBothWays 20 = .ok (.iload_n 2, 1) := by decide +kernel
theorem dX2_takeBothWays_21 : decode cX2_takeBothWays 21 = .ok (.iaload, 1) := by decide +kernel
theorem dX2_takeBothWays_22 : decode cX2_takeBothWays 22 = .ok (.aload_n 1, 1) := by decide +kernel
theorem dX2_takeBothWays_23 : decode cX2_takeBothWays 23 = .ok (.getfield 9, 3) := by decide +kernel
theorem dX2_takeBothWays_26 : decode cX2_takeBothWays 26 = .ok (.iload_n 2, 1) := by decide +kernel
theorem dX2_takeBothWays_27 : decode cX2_takeBothWays 27 = .ok (.iaload, 1) := by decide +kernel
theorem dX2_takeBothWays_28 : decode cX2_takeBothWays 28 = .ok (.aload_n 1, 1) := by decide +kernel
theorem dX2_takeBothWays_29 : decode cX2_takeBothWays 29 = .ok (.getfield 18, 3) := by decide +kernel
theorem dX2_takeBothWays_32 : decode cX2_takeBothWays 32 = .ok (.iload_n 2, 1) := by decide +kernel
theorem dX2_takeBothWays_33 : decode cX2_takeBothWays 33 = .ok (.iaload, 1) := by decide +kernel
theorem dX2_takeBothWays_34 : decode cX2_takeBothWays 34 = .ok (.invokestatic 41, 3) := by decide +kernel
theorem dX2_takeBothWays_37 : decode cX2_takeBothWays 37 = .ok (.invokevirtual 33, 3) := by decide +kernel
theorem dX2_takeBothWays_40 : decode cX2_takeBothWays 40 = .ok (.iinc 2 1, 3) := by decide +kernel
theorem dX2_takeBothWays_43 : decode cX2_takeBothWays 43 = .ok (.goto (-36), 3) := by decide +kernel
theorem dX2_takeBothWays_46 : decode cX2_takeBothWays 46 = .ok (.return_, 1) := by decide +kernel
theorem dX2_find_0 : decode cX2_find 0 = .ok (.iconst 0, 1) := by decide +kernel
theorem dX2_find_1 : decode cX2_find 1 = .ok (.istore 4, 2) := by decide +kernel
theorem dX2_find_3 : decode cX2_find 3 = .ok (.iload 4, 2) := by decide +kernel
theorem dX2_find_5 : decode cX2_find 5 = .ok (.aload_n 0, 1) := by decide +kernel
theorem dX2_find_6 : decode cX2_find 6 = .ok (.getfield 21, 3) := by decide +kernel
theorem dX2_find_9 : decode cX2_find 9 = .ok (.if_icmp .ge 45, 3) := by decide +kernel
theorem dX2_find_12 : decode cX2_find 12 = .ok (.aload_n 0, 1) := by decide +kernel
theorem dX2_find_13 : decode cX2_find 13 = .ok (.getfield 9, 3) := by decide +kernel
theorem dX2_find_16 : decode cX2_find 16 = .ok (.iload 4, 2) := by decide +kernel
theorem dX2_find_18 : decode cX2_find 18 = .ok (.iaload, 1) := by decide +kernel
theorem dX2_find_19 : decode cX2_find 19 = .ok (.iload_n 1, 1) := by decide +kernel
theorem dX2_find_20 : decode cX2_find 20 = .ok (.if_icmp .ne 28, 3) := by decide +kernel
theorem dX2_find_23 : decode cX2_find 23 = .ok (.aload_n 0, 1) := by decide +kernel
theorem dX2_find_24 : decode cX2_find 24 = .ok (.getfield 15, 3) := by decide +kernel
theorem dX2_find_27 : decode cX2_find 27 = .ok (.iload 4, 2) := by decide +kernel
theorem dX2_find_29 : decode cX2_find 29 = .ok (.iaload, 1) := by decide +kernel
theorem dX2_find_30 : decode cX2_find 30 = .ok (.iload_n 2, 1) := by decide +kernel
theorem dX2_find_31 : decode cX2_find 31 = .ok (.if_icmp .ne 17, 3) := by decide +kernel
theorem dX2_find_34 : decode cX2_find 34 = .ok (.aload_n 0, 1) := by decide +kernel
theorem dX2_find_35 : decode cX2_find 35 = .ok (.getfield 18, 3) := by decide +kernel
theorem dX2_find_38 : decode cX2_find 38 = .ok (.iload 4, 2) := by decide +kernel
theorem dX2_find_40 : decode cX2_find 40 = .ok (.iaload, 1) := by decide +kernel
theorem dX2_find_41 : decode cX2_find 41 = .ok (.iload_n 3, 1) := by decide +kernel
theorem dX2_find_42 : decode cX2_find 42 = .ok (.if_icmp .ne 6, 3) := by decide +kernel
theorem dX2_find_45 : decode cX2_find 45 = .ok (.iload 4, 2) := by decide +kernel
theorem dX2_find_47 : decode cX2_find 47 = .ok (.ireturn, 1) := by decide +kernel
theorem dX2_find_48 : decode cX2_find 48 = .ok (.iinc 4 1, 3) := by decide +kernel
theorem dX2_find_51 : decode cX2_find 51 = .ok (.goto (-48), 3) := by decide +kernel
theorem dX2_find_54 : decode cX2_find 54 = .ok (.bipush (-9), 2) := by decide +kernel
theorem dX2_find_56 : decode cX2_find 56 = .ok (.ireturn, 1) := by decide +kernel
theorem dX2_isEmptyLabelled_0 : decode cX2_isEmptyLabelled 0 = .ok (.aload_n 0, 1) := by decide +kernel
theorem dX2_isEmptyLabelled_1 : decode cX2_isEmptyLabelled 1 = .ok (.getfield 18, 3) := by decide +kernel
theorem dX2_isEmptyLabelled_4 : decode cX2_isEmptyLabelled 4 = .ok (.iload_n 1, 1) := by decide +kernel
theorem dX2_isEmptyLabelled_5 : decode cX2_isEmptyLabelled 5 = .ok (.iaload, 1) := by decide +kernel
theorem dX2_isEmptyLabelled_6 : decode cX2_isEmptyLabelled 6 = .ok (.ifCond .ne 7, 3) := by decide +kernel
theorem dX2_isEmptyLabelled_9 : decode cX2_isEmptyLabelled 9 = .ok (.iconst 1, 1) := by decide +kernel
theorem dX2_isEmptyLabelled_10 : decode cX2_isEmptyLabelled 10 = .ok (.goto 4, 3) := by decide +kernel
theorem dX2_isEmptyLabelled_13 : decode cX2_isEmptyLabelled 13 = .ok (.iconst 0, 1) := by decide +kernel
theorem dX2_isEmptyLabelled_14 : decode cX2_isEmptyLabelled 14 = .ok (.ireturn, 1) := by decide +kernel
theorem dX2_opens_0 : decode cX2_opens 0 = .ok (.aload_n 0, 1) := by decide +kernel
theorem dX2_opens_1 : decode cX2_opens 1 = .ok (.getfield 18, 3) := by decide +kernel
theorem dX2_opens_4 : decode cX2_opens 4 = .ok (.iload_n 1, 1) := by decide +kernel
theorem dX2_opens_5 : decode cX2_opens 5 = .ok (.iaload, 1) := by decide +kernel
theorem dX2_opens_6 : decode cX2_opens 6 = .ok (.iconst 1, 1) := by decide +kernel
theorem dX2_opens_7 : decode cX2_opens 7 = .ok (.if_icmp .lt 17, 3) := by decide +kernel
theorem dX2_opens_10 : decode cX2_opens 10 = .ok (.aload_n 0, 1) := by decide +kernel
theorem dX2_opens_11 : decode cX2_opens 11 = .ok (.getfield 18, 3) := by decide +kernel
theorem dX2_opens_14 : decode cX2_opens 14 = .ok (.iload_n 1, 1) := by decide +kernel
theorem dX2_opens_15 : decode cX2_opens 15 = .ok (.iaload, 1) := by decide +kernel
theorem dX2_opens_16 : decode cX2_opens 16 = .ok (.iconst 3, 1) := by decide +kernel
theorem dX2_opens_17 : decode cX2_opens 17 = .ok (.if_icmp .gt 7, 3) := by decide +kernel
theorem dX2_opens_20 : decode cX2_opens 20 = .ok (.iconst 1, 1) := by decide +kernel
theorem dX2_opens_21 : decode cX2_opens 21 = .ok (.goto 4, 3) := by decide +kernel
theorem dX2_opens_24 : decode cX2_opens 24 = .ok (.iconst 0, 1) := by decide +kernel
theorem dX2_opens_25 : decode cX2_opens 25 = .ok (.ireturn, 1) := by decide +kernel
theorem dX2_closes_0 : decode cX2_closes 0 = .ok (.aload_n 0, 1) := by decide +kernel
theorem dX2_closes_1 : decode cX2_closes 1 = .ok (.getfield 18, 3) := by decide +kernel
theorem dX2_closes_4 : decode cX2_closes 4 = .ok (.iload_n 1, 1) := by decide +kernel
theorem dX2_closes_5 : decode cX2_closes 5 = .ok (.iaload, 1) := by decide +kernel
theorem dX2_closes_6 : decode cX2_closes 6 = .ok (.aload_n 0, 1) := by decide +kernel
theorem dX2_closes_7 : decode cX2_closes 7 = .ok (.getfield 18, 3) := by decide +kernel
theorem dX2_closes_10 : decode cX2_closes 10 = .ok (.iload_n 2, 1) := by decide +kernel
theorem dX2_closes_11 : decode cX2_closes 11 = .ok (.iaload, 1) := by decide +kernel
theorem dX2_closes_12 : decode cX2_closes 12 = .ok (.iconst 3, 1) := by decide +kernel
theorem dX2_closes_13 : decode cX2_closes 13 = .ok (.iadd, 1) := by decide +kernel
theorem dX2_closes_14 : decode cX2_closes 14 = .ok (.if_icmp .ne 7, 3) := by decide +kernel
theorem dX2_closes_17 : decode cX2_closes 17 = .ok (.iconst 1, 1) := by decide +kernel
theorem dX2_closes_18 : decode cX2_closes 18 = .ok (.goto 4, 3) := by decide +kernel
theorem dX2_closes_21 : decode cX2_closes 21 = .ok (.iconst 0, 1) := by decide +kernel
theorem dX2_closes_22 : decode cX2_closes 22 = .ok (.ireturn, 1) := by decide +kernel
theorem dX2_otherBracket_0 : decode cX2_otherBracket 0 = .ok (.iload_n 0, 1) := by decide +kernel
theorem dX2_otherBracket_1 : decode cX2_otherBracket 1 = .ok (.ifCond .ne 5, 3) := by decide +kernel
theorem dX2_otherBracket_4 : decode cX2_otherBracket 4 = .ok (.iconst 0, 1) := by decide +kernel
theorem dX2_otherBracket_5 : decode cX2_otherBracket 5 = .ok (.ireturn, 1) := by decide +kernel
theorem dX2_otherBracket_6 : decode cX2_otherBracket 6 = .ok (.iload_n 0, 1) := by decide +kernel
theorem dX2_otherBracket_7 : decode cX2_otherBracket 7 = .ok (.iconst 3, 1) := by decide +kernel
theorem dX2_otherBracket_8 : decode cX2_otherBracket 8 = .ok (.if_icmp .gt 9, 3) := by decide +kernel
theorem dX2_otherBracket_11 : decode cX2_otherBracket 11 = .ok (.iload_n 0, 1) := by decide +kernel
theorem dX2_otherBracket_12 : decode cX2_otherBracket 12 = .ok (.iconst 3, 1) := by decide +kernel
theorem dX2_otherBracket_13 : decode cX2_otherBracket 13 = .ok (.iadd, 1) := by decide +kernel
theorem dX2_otherBracket_14 : decode cX2_otherBracket 14 = .ok (.goto 6, 3) := by decide +kernel
theorem dX2_otherBracket_17 : decode cX2_otherBracket 17 = .ok (.iload_n 0, 1) := by decide +kernel
theorem dX2_otherBracket_18 : decode cX2_otherBracket 18 = .ok (.iconst 3, 1) := by decide +kernel
theorem dX2_otherBracket_19 : decode cX2_otherBracket 19 = .ok (.isub, 1) := by decide +kernel
theorem dX2_otherBracket_20 : decode cX2_otherBracket 20 = .ok (.ireturn, 1) := by decide +kernel
theorem dX3_init_0 : decode cX3_init 0 = .ok (.aload_n 0, 1) := by decide +kernel
theorem dX3_init_1 : decode cX3_init 1 = .ok (.invokespecial 3, 3) := by decide +kernel
theorem dX3_init_4 : decode cX3_init 4 = .ok (.aload_n 0, 1) := by decide +kernel
theorem dX3_init_5 : decode cX3_init 5 = .ok (.bipush 60, 2) := by decide +kernel
theorem dX3_init_7 : decode cX3_init 7 = .ok (.newarray .int, 2) := by decide +kernel
theorem dX3_init_9 : decode cX3_init 9 = .ok (.putfield 11, 3) := by decide +kernel
theorem dX3_init_12 : decode cX3_init 12 = .ok (.aload_n 0, 1) := by decide +kernel
theorem dX3_init_13 : decode cX3_init 13 = .ok (.iconst 0, 1) := by decide +kernel
theorem dX3_init_14 : decode cX3_init 14 = .ok (.putfield 15, 3) := by decide +kernel
theorem dX3_init_17 : decode cX3_init 17 = .ok (.return_, 1) := by decide +kernel
theorem dX3_isFull_0 : decode cX3_isFull 0 = .ok (.aload_n 0, 1) := by decide +kernel
theorem dX3_isFull_1 : decode cX3_isFull 1 = .ok (.getfield 15, 3) := by decide +kernel
theorem dX3_isFull_4 : decode cX3_isFull 4 = .ok (.bipush 60, 2) := by decide +kernel
theorem dX3_isFull_6 : decode cX3_isFull 6 = .ok (.if_icmp .lt 7, 3) := by decide +kernel
theorem dX3_isFull_9 : decode cX3_isFull 9 = .ok (.iconst 1, 1) := by decide +kernel
theorem dX3_isFull_10 : decode cX3_isFull 10 = .ok (.goto 4, 3) := by decide +kernel
theorem dX3_isFull_13 : decode cX3_isFull 13 = .ok (.iconst 0, 1) := by decide +kernel
theorem dX3_isFull_14 : decode cX3_isFull 14 = .ok (.ireturn, 1) := by decide +kernel
set_option maxRecDepth 20000 in
theorem ggX3_put_X3_isFull : GoodIn wsX3_put wsX3_isFull := goodIn_r _ [7, 2, 8, 9] (by decide +kernel) (by decide +kernel)
set_option maxRecDepth 20000 in
theorem gX3_put_X3_isFull : GoodIn wsX3_put (wsV RX3 19 RX3 yX3_isFull wsX3_isFull) := goodIn_app (goodIn_of _ (by decide +kernel)) ggX3_put_X3_isFull
theorem dX3_put_0 : decode cX3_put 0 = .ok (.aload_n 0, 1) := by decide +kernel
theorem dX3_put_1 : decode cX3_put 1 = .ok (.invokevirtual 19, 3) := by decide +kernel
theorem dX3_put_4 : decode cX3_put 4 = .ok (.ifCond .eq 4, 3) := by decide +kernel
theorem dX3_put_7 : decode cX3_put 7 = .ok (.return_, 1) := by decide +kernel
theorem dX3_put_8 : decode cX3_put 8 = .ok (.aload_n 0, 1) := by decide +kernel
theorem dX3_put_9 : decode cX3_put 9 = .ok (.getfield 11, 3) := by decide +kernel
theorem dX3_put_12 : decode cX3_put 12 = .ok (.aload_n 0, 1) := by decide +kernel
theorem dX3_put_13 : decode cX3_put 13 = .ok (.getfield 15, 3) := by decide +kernel
theorem dX3_put_16 : decode cX3_put 16 = .ok (.iload_n 1, 1) := by decide +kernel
theorem dX3_put_17 : decode cX3_put 17 = .ok (.iastore, 1) := by decide +kernel
theorem dX3_put_18 : decode cX3_put 18 = .ok (.aload_n 0, 1) := by decide +kernel
theorem dX3_put_19 : decode cX3_put 19 = .ok (.dup, 1) := by decide +kernel
theorem dX3_put_20 : decode cX3_put 20 = .ok (.getfield 15, 3) := by decide +kernel
theorem dX3_put_23 : decode cX3_put 23 = .ok (.iconst 1, 1) := by decide +kernel
theorem dX3_put_24 : decode cX3_put 24 = .ok (.iadd, 1) := by decide +kernel
theorem dX3_put_25 : decode cX3_put 25 = .ok (.putfield 15, 3) := by decide +kernel
theorem dX3_put_28 : decode cX3_put 28 = .ok (.return_, 1) := by decide +kernel
set_option maxRecDepth 20000 in
theorem ggX3_firstFault_X3_fits : GoodIn wsX3_firstFault wsX3_fits := goodIn_r _ [6, 7, 8, 9, 5, 10, 11, 12, 13, 14, 15, 16, 17] (by decide +kernel) (by decide +kernel)
set_option maxRecDepth 20000 in
theorem gX3_firstFault_X3_fits : GoodIn wsX3_firstFault (wsV RX3 23 RX3 yX3_fits wsX3_fits) := goodIn_app (goodIn_of _ (by decide +kernel)) ggX3_firstFault_X3_fits
theorem dX3_firstFault_0 : decode cX3_firstFault 0 = .ok (.iconst 0, 1) := by decide +kernel
theorem dX3_firstFault_1 : decode cX3_firstFault 1 = .ok (.istore_n 1, 1) := by decide +kernel
theorem dX3_firstFault_2 : decode cX3_firstFault 2 = .ok (.iload_n 1, 1) := by decide +kernel
theorem dX3_firstFault_3 : decode cX3_firstFault 3 = .ok (.aload_n 0, 1) := by decide +kernel
theorem dX3_firstFault_4 : decode cX3_firstFault 4 = .ok (.getfield 15, 3) := by decide +kernel
theorem dX3_firstFault_7 : decode cX3_firstFault 7 = .ok (.if_icmp .ge 19, 3) := by decide +kernel
theorem dX3_firstFault_10 : decode cX3_firstFault 10 = .ok (.aload_n 0, 1) := by decide +kernel
theorem dX3_firstFault_11 : decode cX3_firstFault 11 = .ok (.iload_n 1, 1) := by decide +kernel
theorem dX3_firstFault_12 : decode cX3_firstFault 12 = .ok (.invokevirtual 23, 3) := by decide +kernel
theorem dX3_firstFault_15 : decode cX3_firstFault 15 = .ok (.ifCond .ne 5, 3) := by decide +kernel
theorem dX3_firstFault_18 : decode cX3_firstFault 18 = .ok (.iload_n 1, 1) := by decide +kernel
theorem dX3_firstFault_19 : decode cX3_firstFault 19 = .ok (.ireturn, 1) := by decide +kernel
theorem dX3_firstFault_20 : decode cX3_firstFault 20 = .ok (.iinc 1 1, 3) := by decide +kernel
theorem dX3_firstFault_23 : decode cX3_firstFault 23 = .ok (.goto (-21), 3) := by decide +kernel
theorem dX3_firstFault_26 : decode cX3_firstFault 26 = .ok (.aload_n 0, 1) := by decide +kernel
theorem dX3_firstFault_27 : decode cX3_firstFault 27 = .ok (.getfield 15, 3) := by decide +kernel
theorem dX3_firstFault_30 : decode cX3_firstFault 30 = .ok (.iconst 2, 1) := by decide +kernel
theorem dX3_firstFault_31 : decode cX3_firstFault 31 = .ok (.if_icmp .lt 18, 3) := by decide +kernel
theorem dX3_firstFault_34 : decode cX3_firstFault 34 = .ok (.aload_n 0, 1) := by decide +kernel
theorem dX3_firstFault_35 : decode cX3_firstFault 35 = .ok (.getfield 15, 3) := by decide +kernel
theorem dX3_firstFault_38 : decode cX3_firstFault 38 = .ok (.iconst 2, 1) := by decide +kernel
theorem dX3_firstFault_39 : decode cX3_firstFault 39 = .ok (.isub, 1) := by decide +kernel
theorem dX3_firstFault_40 : decode cX3_firstFault 40 = .ok (.iconst 3, 1) := by decide +kernel
theorem dX3_firstFault_41 : decode cX3_firstFault 41 = .ok (.irem, 1) := by decide +kernel
theorem dX3_firstFault_42 : decode cX3_firstFault 42 = .ok (.ifCond .ne 7, 3) := by decide +kernel
theorem dX3_firstFault_45 : decode cX3_firstFault 45 = .ok (.iconst 1, 1) := by decide +kernel
theorem dX3_firstFault_46 : decode cX3_firstFault 46 = .ok (.goto 4, 3) := by decide +kernel
theorem dX3_firstFault_49 : decode cX3_firstFault 49 = .ok (.iconst 0, 1) := by decide +kernel
theorem dX3_firstFault_50 : decode cX3_firstFault 50 = .ok (.istore_n 1, 1) := by decide +kernel
theorem dX3_firstFault_51 : decode cX3_firstFault 51 = .ok (.iload_n 1, 1) := by decide +kernel
theorem dX3_firstFault_52 : decode cX3_firstFault 52 = .ok (.ifCond .eq 8, 3) := by decide +kernel
theorem dX3_firstFault_55 : decode cX3_firstFault 55 = .ok (.bipush (-9), 2) := by decide +kernel
theorem dX3_firstFault_57 : decode cX3_firstFault 57 = .ok (.goto 7, 3) := by decide +kernel
theorem dX3_firstFault_60 : decode cX3_firstFault 60 = .ok (.aload_n 0, 1) := by decide +kernel
theorem dX3_firstFault_61 : decode cX3_firstFault 61 = .ok (.getfield 15, 3) := by decide +kernel
theorem dX3_firstFault_64 : decode cX3_firstFault 64 = .ok (.ireturn, 1) := by decide +kernel
set_option maxRecDepth 20000 in
theorem ggX3_fits_X3_labelOf : GoodIn wsX3_fits wsX3_labelOf := goodIn_r _ [5, 6] (by decide +kernel) (by decide +kernel)
set_option maxRecDepth 20000 in
theorem gX3_fits_X3_labelOf : GoodIn wsX3_fits (va_wsS RX3 27 yX3_labelOf wsX3_labelOf) := goodIn_app (goodIn_of _ (by decide +kernel)) ggX3_fits_X3_labelOf
set_option maxRecDepth 20000 in
theorem ggX3_fits_X3_writtenVertices : GoodIn wsX3_fits wsX3_writtenVertices := goodIn_r _ [10, 1, 11, 12] (by decide +kernel) (by decide +kernel)
set_option maxRecDepth 20000 in
theorem gX3_fits_X3_writtenVertices : GoodIn wsX3_fits (wsV RX3 31 RX3 yX3_writtenVertices wsX3_writtenVertices) := goodIn_app (goodIn_of _ (by decide +kernel)) ggX3_fits_X3_writtenVertices
theorem dX3_fits_0 : decode cX3_fits 0 = .ok (.aload_n 0, 1) := by decide +kernel
theorem dX3_fits_1 : decode cX3_fits 1 = .ok (.getfield 11, 3) := by decide +kernel
theorem dX3_fits_4 : decode cX3_fits 4 = .ok (.iload_n 1, 1) := by decide +kernel
theorem dX3_fits_5 : decode cX3_fits 5 = .ok (.iaload, 1) := by decide +kernel
theorem dX3_fits_6 : decode cX3_fits 6 = .ok (.istore_n 2, 1) := by decide +kernel
theorem dX3_fits_7 : decode cX3_fits 7 = .ok (.iload_n 1, 1) := by decide +kernel
theorem dX3_fits_8 : decode cX3_fits 8 = .ok (.ifCond .ne 15, 3) := by decide +kernel
theorem dX3_fits_11 : decode cX3_fits 11 = .ok (.iload_n 2, 1) := by decide +kernel
theorem dX3_fits_12 : decode cX3_fits 12 = .ok (.bipush 68, 2) := by decide +kernel
theorem dX3_fits_14 : decode cX3_fits 14 = .ok (.if_icmp .ne 7, 3) := by decide +kernel
theorem dX3_fits_17 : decode cX3_fits 17 = .ok (.iconst 1, 1) := by decide +kernel
theorem dX3_fits_18 : decode cX3_fits 18 = .ok (.goto 4, 3) := by decide +kernel
theorem dX3_fits_21 : decode cX3_fits 21 = .ok (.iconst 0, 1) := by decide +kernel
theorem dX3_fits_22 : decode cX3_fits 22 = .ok (.ireturn, 1) := by decide +kernel
theorem dX3_fits_23 : decode cX3_fits 23 = .ok (.iload_n 1, 1) := by decide +kernel
theorem dX3_fits_24 : decode cX3_fits 24 = .ok (.iconst 1, 1) := by decide +kernel
theorem dX3_fits_25 : decode cX3_fits 25 = .ok (.if_icmp .ne 21, 3) := by decide +kernel
theorem dX3_fits_28 : decode cX3_fits 28 = .ok (.iload_n 2, 1) := by decide +kernel
theorem dX3_fits_29 : decode cX3_fits 29 = .ok (.bipush 49, 2) := by decide +kernel
theorem dX3_fits_31 : decode cX3_fits 31 = .ok (.if_icmp .lt 13, 3) := by decide +kernel
theorem dX3_fits_34 : decode cX3_fits 34 = .ok (.iload_n 2, 1) := by decide +kernel
theorem dX3_fits_35 : decode cX3_fits 35 = .ok (.bipush 56, 2) := by decide +kernel
theorem dX3_fits_37 : decode cX3_fits 37 = .ok (.if_icmp .gt 7, 3) := by decide +kernel
theorem dX3_fits_40 : decode cX3_fits 40 = .ok (.iconst 1, 1) := by decide +kernel
theorem dX3_fits_41 : decode cX3_fits 41 = .ok (.goto 4, 3) := by decide +kernel
theorem dX3_fits_44 : decode cX3_fits 44 = .ok (.iconst 0, 1) := by decide +kernel
theorem dX3_fits_45 : decode cX3_fits 45 = .ok (.ireturn, 1) := by decide +kernel
theorem dX3_fits_46 : decode cX3_fits 46 = .ok (.iload_n 1, 1) := by decide +kernel
theorem dX3_fits_47 : decode cX3_fits 47 = .ok (.bipush 50, 2) := by decide +kernel
theorem dX3_fits_49 : decode cX3_fits 49 = .ok (.if_icmp .lt 5, 3) := by decide +kernel
theorem dX3_fits_52 : decode cX3_fits 52 = .ok (.iconst 0, 1) := by decide +kernel
theorem dX3_fits_53 : decode cX3_fits 53 = .ok (.ireturn, 1) := by decide +kernel
theorem dX3_fits_54 : decode cX3_fits 54 = .ok (.iload_n 1, 1) := by decide +kernel
theorem dX3_fits_55 : decode cX3_fits 55 = .ok (.iconst 2, 1) := by decide +kernel
theorem dX3_fits_56 : decode cX3_fits 56 = .ok (.isub, 1) := by decide +kernel
theorem dX3_fits_57 : decode cX3_fits 57 = .ok (.iconst 3, 1) := by decide +kernel
theorem dX3_fits_58 : decode cX3_fits 58 = .ok (.irem, 1) := by decide +kernel
theorem dX3_fits_59 : decode cX3_fits 59 = .ok (.iconst 2, 1) := by decide +kernel
theorem dX3_fits_60 : decode cX3_fits 60 = .ok (.if_icmp .ne 18, 3) := by decide +kernel
theorem dX3_fits_63 : decode cX3_fits 63 = .ok (.iload_n 2, 1) := by decide +kernel
theorem dX3_fits_64 : decode cX3_fits 64 = .ok (.invokestatic 27, 3) := by decide +kernel
theorem dX3_fits_67 : decode cX3_fits 67 = .ok (.bipush (-9), 2) := by decide +kernel
theorem dX3_fits_69 : decode cX3_fits 69 = .ok (.if_icmp .eq 7, 3) := by decide +kernel
theorem dX3_fits_72 : decode cX3_fits 72 = .ok (.iconst 1, 1) := by decide +kernel
theorem dX3_fits_73 : decode cX3_fits 73 = .ok (.goto 4, 3) := by decide +kernel
theorem dX3_fits_76 : decode cX3_fits 76 = .ok (.iconst 0, 1) := by decide +kernel
theorem dX3_fits_77 : decode cX3_fits 77 = .ok (.ireturn, 1) := by decide +kernel
theorem dX3_fits_78 : decode cX3_fits 78 = .ok (.iload_n 2, 1) := by decide +kernel
theorem dX3_fits_79 : decode cX3_fits 79 = .ok (.bipush 48, 2) := by decide +kernel
theorem dX3_fits_81 : decode cX3_fits 81 = .ok (.if_icmp .lt 18, 3) := by decide +kernel
theorem dX3_fits_84 : decode cX3_fits 84 = .ok (.iload_n 2, 1) := by decide +kernel
theorem dX3_fits_85 : decode cX3_fits 85 = .ok (.bipush 48, 2) := by decide +kernel
theorem dX3_fits_87 : decode cX3_fits 87 = .ok (.isub, 1) := by decide +kernel
theorem dX3_fits_88 : decode cX3_fits 88 = .ok (.aload_n 0, 1) := by decide +kernel
theorem dX3_fits_89 : decode cX3_fits 89 = .ok (.invokevirtual 31, 3) := by decide +kernel
theorem dX3_fits_92 : decode cX3_fits 92 = .ok (.if_icmp .ge 7, 3) := by decide +kernel
theorem dX3_fits_95 : decode cX3_fits 95 = .ok (.iconst 1, 1) := by decide +kernel
theorem dX3_fits_96 : decode cX3_fits 96 = .ok (.goto 4, 3) := by decide +kernel
theorem dX3_fits_99 : decode cX3_fits 99 = .ok (.iconst 0, 1) := by decide +kernel
theorem dX3_fits_100 : decode cX3_fits 100 = .ok (.ireturn, 1) := by decide +kernel
theorem dX3_labelOf_0 : decode cX3_labelOf 0 = .ok (.iconst 0, 1) := by decide +kernel
theorem dX3_labelOf_1 : decode cX3_labelOf 1 = .ok (.istore_n 1, 1) := by decide +kernel
theorem dX3_labelOf_2 : decode cX3_labelOf 2 = .ok (.iload_n 1, 1) := by decide +kernel
theorem dX3_labelOf_3 : decode cX3_labelOf 3 = .ok (.bipush 7, 2) := by decide +kernel
theorem dX3_labelOf_5 : decode cX3_labelOf 5 = .ok (.if_icmp .ge 20, 3) := by decide +kernel
theorem dX3_labelOf_8 : decode cX3_labelOf 8 = .ok (.getstatic 35, 3) := by decide +kernel
theorem dX3_labelOf_11 : decode cX3_labelOf 11 = .ok (.iload_n 1, 1) := by decide +kernel
theorem dX3_labelOf_12 : decode cX3_labelOf 12 = .ok (.caload, 1) := by decide +kernel
theorem dX3_labelOf_13 : decode cX3_labelOf 13 = .ok (.iload_n 0, 1) := by decide +kernel
theorem dX3_labelOf_14 : decode cX3_labelOf 14 = .ok (.if_icmp .ne 5, 3) := by decide +kernel
theorem dX3_labelOf_17 : decode cX3_labelOf 17 = .ok (.iload_n 1, 1) := by decide +kernel
theorem dX3_labelOf_18 : decode cX3_labelOf 18 = .ok (.ireturn, 1) := by decide +kernel
theorem dX3_labelOf_19 : decode cX3_labelOf 19 = .ok (.iinc 1 1, 3) := by decide +kernel
theorem dX3_labelOf_22 : decode cX3_labelOf 22 = .ok (.goto (-20), 3) := by decide +kernel
theorem dX3_labelOf_25 : decode cX3_labelOf 25 = .ok (.bipush (-9), 2) := by decide +kernel
theorem dX3_labelOf_27 : decode cX3_labelOf 27 = .ok (.ireturn, 1) := by decide +kernel
theorem dX3_writtenVertices_0 : decode cX3_writtenVertices 0 = .ok (.aload_n 0, 1) := by decide +kernel
theorem dX3_writtenVertices_1 : decode cX3_writtenVertices 1 = .ok (.getfield 11, 3) := by decide +kernel
theorem dX3_writtenVertices_4 : decode cX3_writtenVertices 4 = .ok (.iconst 1, 1) := by decide +kernel
theorem dX3_writtenVertices_5 : decode cX3_writtenVertices 5 = .ok (.iaload, 1) := by decide +kernel
theorem dX3_writtenVertices_6 : decode cX3_writtenVertices 6 = .ok (.bipush 48, 2) := by decide +kernel
theorem dX3_writtenVertices_8 : decode cX3_writtenVertices 8 = .ok (.isub, 1) := by decide +kernel
theorem dX3_writtenVertices_9 : decode cX3_writtenVertices 9 = .ok (.ireturn, 1) := by decide +kernel
set_option maxRecDepth 20000 in
theorem ggX3_writeEdgesTo_X3_labelOf : GoodIn wsX3_writeEdgesTo wsX3_labelOf := goodIn_r _ [7, 8] (by decide +kernel) (by decide +kernel)
set_option maxRecDepth 20000 in
theorem gX3_writeEdgesTo_X3_labelOf : GoodIn wsX3_writeEdgesTo (va_wsS RX3 27 yX3_labelOf wsX3_labelOf) := goodIn_app (goodIn_of _ (by decide +kernel)) ggX3_writeEdgesTo_X3_labelOf
set_option maxRecDepth 20000 in
theorem ggX3_writeEdgesTo_X2_put : GoodIn wsX3_writeEdgesTo wsX2_put := goodIn_r _ [13, 14, 15, 16, 17, 18, 19, 20, 12, 21, 22, 23, 24, 25] (by decide +kernel) (by decide +kernel)
set_option maxRecDepth 20000 in
theorem gX3_writeEdgesTo_X2_put : GoodIn wsX3_writeEdgesTo (wsV RX3 44 RX2 yX2_put wsX2_put) := goodIn_app (goodIn_of _ (by decide +kernel)) ggX3_writeEdgesTo_X2_put
theorem dX3_writeEdgesTo_0 : decode cX3_writeEdgesTo 0 = .ok (.aload_n 1, 1) := by decide +kernel
theorem dX3_writeEdgesTo_1 : decode cX3_writeEdgesTo 1 = .ok (.iconst 0, 1) := by decide +kernel
theorem dX3_writeEdgesTo_2 : decode cX3_writeEdgesTo 2 = .ok (.putfield 39, 3) := by decide +kernel
theorem dX3_writeEdgesTo_5 : decode cX3_writeEdgesTo 5 = .ok (.iconst 2, 1) := by decide +kernel
theorem dX3_writeEdgesTo_6 : decode cX3_writeEdgesTo 6 = .ok (.istore_n 2, 1) := by decide +kernel
theorem dX3_writeEdgesTo_7 : decode cX3_writeEdgesTo 7 = .ok (.iload_n 2, 1) := by decide +kernel
theorem dX3_writeEdgesTo_8 : decode cX3_writeEdgesTo 8 = .ok (.iconst 2, 1) := by decide +kernel
theorem dX3_writeEdgesTo_9 : decode cX3_writeEdgesTo 9 = .ok (.iadd, 1) := by decide +kernel
theorem dX3_writeEdgesTo_10 : decode cX3_writeEdgesTo 10 = .ok (.aload_n 0, 1) := by decide +kernel
theorem dX3_writeEdgesTo_11 : decode cX3_writeEdgesTo 11 = .ok (.getfield 15, 3) := by decide +kernel
theorem dX3_writeEdgesTo_14 : decode cX3_writeEdgesTo 14 = .ok (.if_icmp .ge 44, 3) := by decide +kernel
theorem dX3_writeEdgesTo_17 : decode cX3_writeEdgesTo 17 = .ok (.aload_n 1, 1) := by decide +kernel
theorem dX3_writeEdgesTo_18 : decode cX3_writeEdgesTo 18 = .ok (.aload_n 0, 1) := by decide +kernel
theorem dX3_writeEdgesTo_19 : decode cX3_writeEdgesTo 19 = .ok (.getfield 11, 3) := by decide +kernel
theorem dX3_writeEdgesTo_22 : decode cX3_writeEdgesTo 22 = .ok (.iload_n 2, 1) := by decide +kernel
theorem dX3_writeEdgesTo_23 : decode cX3_writeEdgesTo 23 = .ok (.iaload, 1) := by decide +kernel
theorem dX3_writeEdgesTo_24 : decode cX3_writeEdgesTo 24 = .ok (.bipush 48, 2) := by decide +kernel
theorem dX3_writeEdgesTo_26 : decode cX3_writeEdgesTo 26 = .ok (.isub, 1) := by decide +kernel
theorem dX3_writeEdgesTo_27 : decode cX3_writeEdgesTo 27 = .ok (.aload_n 0, 1) := by decide +kernel
theorem dX3_writeEdgesTo_28 : decode cX3_writeEdgesTo 28 = .ok (.getfield 11, 3) := by decide +kernel
theorem dX3_writeEdgesTo_31 : decode cX3_writeEdgesTo 31 = .ok (.iload_n 2, 1) := by decide +kernel
theorem dX3_writeEdgesTo_32 : decode cX3_writeEdgesTo 32 = .ok (.iconst 1, 1) := by decide +kernel
theorem dX3_writeEdgesTo_33 : decode cX3_writeEdgesTo 33 = .ok (.iadd, 1) := by decide +kernel
theorem dX3_writeEdgesTo_34 : decode cX3_writeEdgesTo 34 = .ok (.iaload, 1) := by decide +kernel
theorem dX3_writeEdgesTo_35 : decode cX3_writeEdgesTo 35 = .ok (.bipush 48, 2) := by decide +kernel
theorem dX3_writeEdgesTo_37 : decode cX3_writeEdgesTo 37 = .ok (.isub, 1) := by decide +kernel
theorem dX3_writeEdgesTo_38 : decode cX3_writeEdgesTo 38 = .ok (.aload_n 0, 1) := by decide +kernel
theorem dX3_writeEdgesTo_39 : decode cX3_writeEdgesTo 39 = .ok (.getfield 11, 3) := by decide +kernel
theorem dX3_writeEdgesTo_42 : decode cX3_writeEdgesTo 42 = .ok (.iload_n 2, 1) := by decide +kernel
theorem dX3_writeEdgesTo_43 : decode cX3_writeEdgesTo 43 = .ok (.iconst 2, 1) := by decide +kernel
theorem dX3_writeEdgesTo_44 : decode cX3_writeEdgesTo 44 = .ok (.iadd, 1) := by decide +kernel
theorem dX3_writeEdgesTo_45 : decode cX3_writeEdgesTo 45 = .ok (.iaload, 1) := by decide +kernel
theorem dX3_writeEdgesTo_46 : decode cX3_writeEdgesTo 46 = .ok (.invokestatic 27, 3) := by decide +kernel
theorem dX3_writeEdgesTo_49 : decode cX3_writeEdgesTo 49 = .ok (.invokevirtual 44, 3) := by decide +kernel
theorem dX3_writeEdgesTo_52 : decode cX3_writeEdgesTo 52 = .ok (.iinc 2 3, 3) := by decide +kernel
theorem dX3_writeEdgesTo_55 : decode cX3_writeEdgesTo 55 = .ok (.goto (-48), 3) := by decide +kernel
theorem dX3_writeEdgesTo_58 : decode cX3_writeEdgesTo 58 = .ok (.return_, 1) := by decide +kernel
set_option maxRecDepth 20000 in
theorem ggX4_init_X2_init : GoodIn wsX4_init wsX2_init := goodIn_r _ [12, 13, 2, 3, 14, 15, 16, 17, 18, 22, 23, 24, 25] (by decide +kernel) (by decide +kernel)
set_option maxRecDepth 20000 in
theorem gX4_init_X2_init : GoodIn wsX4_init (wsX2_init) := ggX4_init_X2_init
theorem dX4_init_0 : decode cX4_init 0 = .ok (.aload_n 0, 1) := by decide +kernel
theorem dX4_init_1 : decode cX4_init 1 = .ok (.invokespecial 3, 3) := by decide +kernel
theorem dX4_init_4 : decode cX4_init 4 = .ok (.aload_n 0, 1) := by decide +kernel
theorem dX4_init_5 : decode cX4_init 5 = .ok (.bipush 14, 2) := by decide +kernel
theorem dX4_init_7 : decode cX4_init 7 = .ok (.anewarray 11, 3) := by decide +kernel
theorem dX4_init_10 : decode cX4_init 10 = .ok (.putfield 13, 3) := by decide +kernel
theorem dX4_init_13 : decode cX4_init 13 = .ok (.iconst 0, 1) := by decide +kernel
theorem dX4_init_14 : decode cX4_init 14 = .ok (.istore_n 1, 1) := by decide +kernel
theorem dX4_init_15 : decode cX4_init 15 = .ok (.iload_n 1, 1) := by decide +kernel
theorem dX4_init_16 : decode cX4_init 16 = .ok (.bipush 14, 2) := by decide +kernel
theorem dX4_init_18 : decode cX4_init 18 = .ok (.if_icmp .ge 24, 3) := by decide +kernel
theorem dX4_init_21 : decode cX4_init 21 = .ok (.aload_n 0, 1) := by decide +kernel
theorem dX4_init_22 : decode cX4_init 22 = .ok (.getfield 13, 3) := by decide +kernel
theorem dX4_init_25 : decode cX4_init 25 = .ok (.iload_n 1, 1) := by decide +kernel
theorem dX4_init_26 : decode cX4_init 26 = .ok (.new 11, 3) := by decide +kernel
theorem dX4_init_29 : decode cX4_init 29 = .ok (.dup, 1) := by decide +kernel
theorem dX4_init_30 : decode cX4_init 30 = .ok (.bipush 16, 2) := by decide +kernel
theorem dX4_init_32 : decode cX4_init 32 = .ok (.invokespecial 17, 3) := by decide +kernel
theorem dX4_init_35 : decode cX4_init 35 = .ok (.aastore, 1) := by decide +kernel
theorem dX4_init_36 : decode cX4_init 36 = .ok (.iinc 1 1, 3) := by decide +kernel
theorem dX4_init_39 : decode cX4_init 39 = .ok (.goto (-24), 3) := by decide +kernel
theorem dX4_init_42 : decode cX4_init 42 = .ok (.aload_n 0, 1) := by decide +kernel
theorem dX4_init_43 : decode cX4_init 43 = .ok (.iconst 0, 1) := by decide +kernel
theorem dX4_init_44 : decode cX4_init 44 = .ok (.putfield 20, 3) := by decide +kernel
theorem dX4_init_47 : decode cX4_init 47 = .ok (.aload_n 0, 1) := by decide +kernel
theorem dX4_init_48 : decode cX4_init 48 = .ok (.iconst 0, 1) := by decide +kernel
theorem dX4_init_49 : decode cX4_init 49 = .ok (.putfield 24, 3) := by decide +kernel
theorem dX4_init_52 : decode cX4_init 52 = .ok (.return_, 1) := by decide +kernel
set_option maxRecDepth 20000 in
theorem ggX4_remember_X2_take : GoodIn wsX4_remember wsX2_take := goodIn_r _ [12, 13, 14, 15, 16, 17, 18, 19, 11, 20, 21, 22, 23, 24, 28, 29, 30, 31] (by decide +kernel) (by decide +kernel)
set_option maxRecDepth 20000 in
theorem gX4_remember_X2_take : GoodIn wsX4_remember (wsV RX4 27 RX2 yX2_take wsX2_take) := goodIn_app (goodIn_of _ (by decide +kernel)) ggX4_remember_X2_take
theorem dX4_remember_0 : decode cX4_remember 0 = .ok (.aload_n 0, 1) := by decide +kernel
theorem dX4_remember_1 : decode cX4_remember 1 = .ok (.getfield 13, 3) := by decide +kernel
theorem dX4_remember_4 : decode cX4_remember 4 = .ok (.aload_n 0, 1) := by decide +kernel
theorem dX4_remember_5 : decode cX4_remember 5 = .ok (.getfield 20, 3) := by decide +kernel
theorem dX4_remember_8 : decode cX4_remember 8 = .ok (.aaload, 1) := by decide +kernel
theorem dX4_remember_9 : decode cX4_remember 9 = .ok (.aload_n 1, 1) := by decide +kernel
theorem dX4_remember_10 : decode cX4_remember 10 = .ok (.invokevirtual 27, 3) := by decide +kernel
theorem dX4_remember_13 : decode cX4_remember 13 = .ok (.aload_n 0, 1) := by decide +kernel
theorem dX4_remember_14 : decode cX4_remember 14 = .ok (.aload_n 0, 1) := by decide +kernel
theorem dX4_remember_15 : decode cX4_remember 15 = .ok (.getfield 20, 3) := by decide +kernel
theorem dX4_remember_18 : decode cX4_remember 18 = .ok (.iconst 1, 1) := by decide +kernel
theorem dX4_remember_19 : decode cX4_remember 19 = .ok (.iadd, 1) := by decide +kernel
theorem dX4_remember_20 : decode cX4_remember 20 = .ok (.bipush 14, 2) := by decide +kernel
theorem dX4_remember_22 : decode cX4_remember 22 = .ok (.if_icmp .ge 12, 3) := by decide +kernel
theorem dX4_remember_25 : decode cX4_remember 25 = .ok (.aload_n 0, 1) := by decide +kernel
theorem dX4_remember_26 : decode cX4_remember 26 = .ok (.getfield 20, 3) := by decide +kernel
theorem dX4_remember_29 : decode cX4_remember 29 = .ok (.iconst 1, 1) := by decide +kernel
theorem dX4_remember_30 : decode cX4_remember 30 = .ok (.iadd, 1) := by decide +kernel
theorem dX4_remember_31 : decode cX4_remember 31 = .ok (.goto 4, 3) := by decide +kernel
theorem dX4_remember_34 : decode cX4_remember 34 = .ok (.iconst 0, 1) := by decide +kernel
theorem dX4_remember_35 : decode cX4_remember 35 = .ok (.putfield 20, 3) := by decide +kernel
theorem dX4_remember_38 : decode cX4_remember 38 = .ok (.aload_n 0, 1) := by decide +kernel
theorem dX4_remember_39 : decode cX4_remember 39 = .ok (.aload_n 0, 1) := by decide +kernel
theorem dX4_remember_40 : decode cX4_remember 40 = .ok (.getfield 24, 3) := by decide +kernel
theorem dX4_remember_43 : decode cX4_remember 43 = .ok (.iconst 1, 1) := by decide +kernel
theorem dX4_remember_44 : decode cX4_remember 44 = .ok (.iadd, 1) := by decide +kernel
theorem dX4_remember_45 : decode cX4_remember 45 = .ok (.bipush 14, 2) := by decide +kernel
theorem dX4_remember_47 : decode cX4_remember 47 = .ok (.invokestatic 31, 3) := by decide +kernel
theorem dX4_remember_50 : decode cX4_remember 50 = .ok (.putfield 24, 3) := by decide +kernel
theorem dX4_remember_53 : decode cX4_remember 53 = .ok (.return_, 1) := by decide +kernel
set_option maxRecDepth 20000 in
theorem ggX4_giveBack_X2_take : GoodIn wsX4_giveBack wsX2_take := goodIn_r _ [8, 9, 10, 11, 12, 13, 14, 15, 7, 16, 17, 18, 19, 20, 24, 25, 26, 27] (by decide +kernel) (by decide +kernel)
set_option maxRecDepth 20000 in
theorem gX4_giveBack_X2_take : GoodIn wsX4_giveBack (wsV RX4 27 RX2 yX2_take wsX2_take) := goodIn_app (goodIn_of _ (by decide +kernel)) ggX4_giveBack_X2_take
theorem dX4_giveBack_0 : decode cX4_giveBack 0 = .ok (.aload_n 0, 1) := by decide +kernel
theorem dX4_giveBack_1 : decode cX4_giveBack 1 = .ok (.getfield 24, 3) := by decide +kernel
theorem dX4_giveBack_4 : decode cX4_giveBack 4 = .ok (.ifCond .ne 4, 3) := by decide +kernel
theorem dX4_giveBack_7 : decode cX4_giveBack 7 = .ok (.return_, 1) := by decide +kernel
theorem dX4_giveBack_8 : decode cX4_giveBack 8 = .ok (.aload_n 0, 1) := by decide +kernel
theorem dX4_giveBack_9 : decode cX4_giveBack 9 = .ok (.aload_n 0, 1) := by decide +kernel
theorem dX4_giveBack_10 : decode cX4_giveBack 10 = .ok (.getfield 20, 3) := by decide +kernel
theorem dX4_giveBack_13 : decode cX4_giveBack 13 = .ok (.ifCond .le 12, 3) := by decide +kernel
theorem dX4_giveBack_16 : decode cX4_giveBack 16 = .ok (.aload_n 0, 1) := by decide +kernel
theorem dX4_giveBack_17 : decode cX4_giveBack 17 = .ok (.getfield 20, 3) := by decide +kernel
theorem dX4_giveBack_20 : decode cX4_giveBack 20 = .ok (.iconst 1, 1) := by decide +kernel
theorem dX4_giveBack_21 : decode cX4_giveBack 21 = .ok (.isub, 1) := by decide +kernel
theorem dX4_giveBack_22 : decode cX4_giveBack 22 = .ok (.goto 5, 3) := by decide +kernel
theorem dX4_giveBack_25 : decode cX4_giveBack 25 = .ok (.bipush 13, 2) := by decide +kernel
theorem dX4_giveBack_27 : decode cX4_giveBack 27 = .ok (.putfield 20, 3) := by decide +kernel
theorem dX4_giveBack_30 : decode cX4_giveBack 30 = .ok (.aload_n 0, 1) := by decide +kernel
theorem dX4_giveBack_31 : decode cX4_giveBack 31 = .ok (.dup, 1) := by decide +kernel
theorem dX4_giveBack_32 : decode cX4_giveBack 32 = .ok (.getfield 24, 3) := by decide +kernel
theorem dX4_giveBack_35 : decode cX4_giveBack 35 = .ok (.iconst 1, 1) := by decide +kernel
theorem dX4_giveBack_36 : decode cX4_giveBack 36 = .ok (.isub, 1) := by decide +kernel
theorem dX4_giveBack_37 : decode cX4_giveBack 37 = .ok (.putfield 24, 3) := by decide +kernel
theorem dX4_giveBack_40 : decode cX4_giveBack 40 = .ok (.aload_n 1, 1) := by decide +kernel
theorem dX4_giveBack_41 : decode cX4_giveBack 41 = .ok (.aload_n 0, 1) := by decide +kernel
theorem dX4_giveBack_42 : decode cX4_giveBack 42 = .ok (.getfield 13, 3) := by decide +kernel
theorem dX4_giveBack_45 : decode cX4_giveBack 45 = .ok (.aload_n 0, 1) := by decide +kernel
theorem dX4_giveBack_46 : decode cX4_giveBack 46 = .ok (.getfield 20, 3) := by decide +kernel
theorem dX4_giveBack_49 : decode cX4_giveBack 49 = .ok (.aaload, 1) := by decide +kernel
theorem dX4_giveBack_50 : decode cX4_giveBack 50 = .ok (.invokevirtual 27, 3) := by decide +kernel
theorem dX4_giveBack_53 : decode cX4_giveBack 53 = .ok (.return_, 1) := by decide +kernel
theorem dX4_forgetAll_0 : decode cX4_forgetAll 0 = .ok (.aload_n 0, 1) := by decide +kernel
theorem dX4_forgetAll_1 : decode cX4_forgetAll 1 = .ok (.iconst 0, 1) := by decide +kernel
theorem dX4_forgetAll_2 : decode cX4_forgetAll 2 = .ok (.putfield 24, 3) := by decide +kernel
theorem dX4_forgetAll_5 : decode cX4_forgetAll 5 = .ok (.return_, 1) := by decide +kernel
theorem dX5_init_0 : decode cX5_init 0 = .ok (.aload_n 0, 1) := by decide +kernel
theorem dX5_init_1 : decode cX5_init 1 = .ok (.invokespecial 1, 3) := by decide +kernel
theorem dX5_init_4 : decode cX5_init 4 = .ok (.aload_n 0, 1) := by decide +kernel
theorem dX5_init_5 : decode cX5_init 5 = .ok (.bipush 6, 2) := by decide +kernel
theorem dX5_init_7 : decode cX5_init 7 = .ok (.newarray .int, 2) := by decide +kernel
theorem dX5_init_9 : decode cX5_init 9 = .ok (.putfield 9, 3) := by decide +kernel
theorem dX5_init_12 : decode cX5_init 12 = .ok (.aload_n 0, 1) := by decide +kernel
theorem dX5_init_13 : decode cX5_init 13 = .ok (.bipush 6, 2) := by decide +kernel
theorem dX5_init_15 : decode cX5_init 15 = .ok (.newarray .int, 2) := by decide +kernel
theorem dX5_init_17 : decode cX5_init 17 = .ok (.putfield 13, 3) := by decide +kernel
theorem dX5_init_20 : decode cX5_init 20 = .ok (.aload_n 0, 1) := by decide +kernel
theorem dX5_init_21 : decode cX5_init 21 = .ok (.bipush 6, 2) := by decide +kernel
theorem dX5_init_23 : decode cX5_init 23 = .ok (.newarray .int, 2) := by decide +kernel
theorem dX5_init_25 : decode cX5_init 25 = .ok (.putfield 16, 3) := by decide +kernel
theorem dX5_init_28 : decode cX5_init 28 = .ok (.aload_n 0, 1) := by decide +kernel
theorem dX5_init_29 : decode cX5_init 29 = .ok (.iconst 0, 1) := by decide +kernel
theorem dX5_init_30 : decode cX5_init 30 = .ok (.putfield 19, 3) := by decide +kernel
theorem dX5_init_33 : decode cX5_init 33 = .ok (.return_, 1) := by decide +kernel
theorem dX5_isFull_0 : decode cX5_isFull 0 = .ok (.aload_n 0, 1) := by decide +kernel
theorem dX5_isFull_1 : decode cX5_isFull 1 = .ok (.getfield 19, 3) := by decide +kernel
theorem dX5_isFull_4 : decode cX5_isFull 4 = .ok (.bipush 6, 2) := by decide +kernel
theorem dX5_isFull_6 : decode cX5_isFull 6 = .ok (.if_icmp .lt 7, 3) := by decide +kernel
theorem dX5_isFull_9 : decode cX5_isFull 9 = .ok (.iconst 1, 1) := by decide +kernel
theorem dX5_isFull_10 : decode cX5_isFull 10 = .ok (.goto 4, 3) := by decide +kernel
theorem dX5_isFull_13 : decode cX5_isFull 13 = .ok (.iconst 0, 1) := by decide +kernel
theorem dX5_isFull_14 : decode cX5_isFull 14 = .ok (.ireturn, 1) := by decide +kernel
set_option maxRecDepth 20000 in
theorem ggX5_put_X5_isFull : GoodIn wsX5_put wsX5_isFull := goodIn_r _ [9, 2, 10, 11, 12, 13] (by decide +kernel) (by decide +kernel)
set_option maxRecDepth 20000 in
theorem gX5_put_X5_isFull : GoodIn wsX5_put (wsV RX5 23 RX5 yX5_isFull wsX5_isFull) := goodIn_app (goodIn_of _ (by decide +kernel)) ggX5_put_X5_isFull
theorem dX5_put_0 : decode cX5_put 0 = .ok (.aload_n 0, 1) := by decide +kernel
theorem dX5_put_1 : decode cX5_put 1 = .ok (.invokevirtual 23, 3) := by decide +kernel
theorem dX5_put_4 : decode cX5_put 4 = .ok (.ifCond .eq 4, 3) := by decide +kernel
theorem dX5_put_7 : decode cX5_put 7 = .ok (.return_, 1) := by decide +kernel
theorem dX5_put_8 : decode cX5_put 8 = .ok (.aload_n 0, 1) := by decide +kernel
theorem dX5_put_9 : decode cX5_put 9 = .ok (.getfield 9, 3) := by decide +kernel
theorem dX5_put_12 : decode cX5_put 12 = .ok (.aload_n 0, 1) := by decide +kernel
theorem dX5_put_13 : decode cX5_put 13 = .ok (.getfield 19, 3) := by decide +kernel
theorem dX5_put_16 : decode cX5_put 16 = .ok (.iload_n 1, 1) := by decide +kernel
theorem dX5_put_17 : decode cX5_put 17 = .ok (.iastore, 1) := by decide +kernel
theorem dX5_put_18 : decode cX5_put 18 = .ok (.aload_n 0, 1) := by decide +kernel
theorem dX5_put_19 : decode cX5_put 19 = .ok (.getfield 13, 3) := by decide +kernel
theorem dX5_put_22 : decode cX5_put 22 = .ok (.aload_n 0, 1) := by decide +kernel
theorem dX5_put_23 : decode cX5_put 23 = .ok (.getfield 19, 3) := by decide +kernel
theorem dX5_put_26 : decode cX5_put 26 = .ok (.iload_n 2, 1) := by decide +kernel
theorem dX5_put_27 : decode cX5_put 27 = .ok (.iastore, 1) := by decide +kernel
theorem dX5_put_28 : decode cX5_put 28 = .ok (.aload_n 0, 1) := by decide +kernel
theorem dX5_put_29 : decode cX5_put 29 = .ok (.getfield 16, 3) := by decide +kernel
theorem dX5_put_32 : decode cX5_put 32 = .ok (.aload_n 0, 1) := by decide +kernel
theorem dX5_put_33 : decode cX5_put 33 = .ok (.getfield 19, 3) := by decide +kernel
theorem dX5_put_36 : decode cX5_put 36 = .ok (.iload_n 3, 1) := by decide +kernel
theorem dX5_put_37 : decode cX5_put 37 = .ok (.iastore, 1) := by decide +kernel
theorem dX5_put_38 : decode cX5_put 38 = .ok (.aload_n 0, 1) := by decide +kernel
theorem dX5_put_39 : decode cX5_put 39 = .ok (.dup, 1) := by decide +kernel
theorem dX5_put_40 : decode cX5_put 40 = .ok (.getfield 19, 3) := by decide +kernel
theorem dX5_put_43 : decode cX5_put 43 = .ok (.iconst 1, 1) := by decide +kernel
theorem dX5_put_44 : decode cX5_put 44 = .ok (.iadd, 1) := by decide +kernel
theorem dX5_put_45 : decode cX5_put 45 = .ok (.putfield 19, 3) := by decide +kernel
theorem dX5_put_48 : decode cX5_put 48 = .ok (.return_, 1) := by decide +kernel
set_option maxRecDepth 20000 in
theorem ggX5_allHold_X6_has : GoodIn wsX5_allHold wsX6_has := goodIn_r _ [8, 9, 10, 7, 11] (by decide +kernel) (by decide +kernel)
set_option maxRecDepth 20000 in
theorem gX5_allHold_X6_has : GoodIn wsX5_allHold (va_wsS RX5 27 yX6_has wsX6_has) := goodIn_app (goodIn_of _ (by decide +kernel)) ggX5_allHold_X6_has
theorem dX5_allHold_0 : decode cX5_allHold 0 = .ok (.iconst 0, 1) := by decide +kernel
theorem dX5_allHold_1 : decode cX5_allHold 1 = .ok (.istore 4, 2) := by decide +kernel
theorem dX5_allHold_3 : decode cX5_allHold 3 = .ok (.iload 4, 2) := by decide +kernel
theorem dX5_allHold_5 : decode cX5_allHold 5 = .ok (.aload_n 0, 1) := by decide +kernel
theorem dX5_allHold_6 : decode cX5_allHold 6 = .ok (.getfield 19, 3) := by decide +kernel
theorem dX5_allHold_9 : decode cX5_allHold 9 = .ok (.if_icmp .ge 86, 3) := by decide +kernel
theorem dX5_allHold_12 : decode cX5_allHold 12 = .ok (.aload_n 0, 1) := by decide +kernel
theorem dX5_allHold_13 : decode cX5_allHold 13 = .ok (.getfield 9, 3) := by decide +kernel
theorem dX5_allHold_16 : decode cX5_allHold 16 = .ok (.iload 4, 2) := by decide +kernel
theorem dX5_allHold_18 : decode cX5_allHold 18 = .ok (.iaload, 1) := by decide +kernel
theorem dX5_allHold_19 : decode cX5_allHold 19 = .ok (.iload_n 3, 1) := by decide +kernel
theorem dX5_allHold_20 : decode cX5_allHold 20 = .ok (.if_icmp .ge 18, 3) := by decide +kernel
theorem dX5_allHold_23 : decode cX5_allHold 23 = .ok (.aload_n 0, 1) := by decide +kernel
theorem dX5_allHold_24 : decode cX5_allHold 24 = .ok (.getfield 13, 3) := by decide +kernel
theorem dX5_allHold_27 : decode cX5_allHold 27 = .ok (.iload 4, 2) := by decide +kernel
theorem dX5_allHold_29 : decode cX5_allHold 29 = .ok (.iaload, 1) := by decide +kernel
theorem dX5_allHold_30 : decode cX5_allHold 30 = .ok (.iload_n 3, 1) := by decide +kernel
theorem dX5_allHold_31 : decode cX5_allHold 31 = .ok (.if_icmp .ge 7, 3) := by decide +kernel
theorem dX5_allHold_34 : decode cX5_allHold 34 = .ok (.iconst 1, 1) := by decide +kernel
theorem dX5_allHold_35 : decode cX5_allHold 35 = .ok (.goto 4, 3) := by decide +kernel
theorem dX5_allHold_38 : decode cX5_allHold 38 = .ok (.iconst 0, 1) := by decide +kernel
theorem dX5_allHold_39 : decode cX5_allHold 39 = .ok (.istore 5, 2) := by decide +kernel
theorem dX5_allHold_41 : decode cX5_allHold 41 = .ok (.lload_n 1, 1) := by decide +kernel
theorem dX5_allHold_42 : decode cX5_allHold 42 = .ok (.aload_n 0, 1) := by decide +kernel
theorem dX5_allHold_43 : decode cX5_allHold 43 = .ok (.getfield 9, 3) := by decide +kernel
theorem dX5_allHold_46 : decode cX5_allHold 46 = .ok (.iload 4, 2) := by decide +kernel
theorem dX5_allHold_48 : decode cX5_allHold 48 = .ok (.iaload, 1) := by decide +kernel
theorem dX5_allHold_49 : decode cX5_allHold 49 = .ok (.aload_n 0, 1) := by decide +kernel
theorem dX5_allHold_50 : decode cX5_allHold 50 = .ok (.getfield 13, 3) := by decide +kernel
theorem dX5_allHold_53 : decode cX5_allHold 53 = .ok (.iload 4, 2) := by decide +kernel
theorem dX5_allHold_55 : decode cX5_allHold 55 = .ok (.iaload, 1) := by decide +kernel
theorem dX5_allHold_56 : decode cX5_allHold 56 = .ok (.invokestatic 27, 3) := by decide +kernel
theorem dX5_allHold_59 : decode cX5_allHold 59 = .ok (.istore 6, 2) := by decide +kernel
theorem dX5_allHold_61 : decode cX5_allHold 61 = .ok (.iload 5, 2) := by decide +kernel
theorem dX5_allHold_63 : decode cX5_allHold 63 = .ok (.ifCond .eq 26, 3) := by decide +kernel
theorem dX5_allHold_66 : decode cX5_allHold 66 = .ok (.iload 6, 2) := by decide +kernel
theorem dX5_allHold_68 : decode cX5_allHold 68 = .ok (.aload_n 0, 1) := by decide +kernel
theorem dX5_allHold_69 : decode cX5_allHold 69 = .ok (.getfield 16, 3) := by decide +kernel
theorem dX5_allHold_72 : decode cX5_allHold 72 = .ok (.iload 4, 2) := by decide +kernel
theorem dX5_allHold_74 : decode cX5_allHold 74 = .ok (.iaload, 1) := by decide +kernel
theorem dX5_allHold_75 : decode cX5_allHold 75 = .ok (.iconst 1, 1) := by decide +kernel
theorem dX5_allHold_76 : decode cX5_allHold 76 = .ok (.if_icmp .ne 7, 3) := by decide +kernel
theorem dX5_allHold_79 : decode cX5_allHold 79 = .ok (.iconst 1, 1) := by decide +kernel
theorem dX5_allHold_80 : decode cX5_allHold 80 = .ok (.goto 4, 3) := by decide +kernel
theorem dX5_allHold_83 : decode cX5_allHold 83 = .ok (.iconst 0, 1) := by decide +kernel
theorem dX5_allHold_84 : decode cX5_allHold 84 = .ok (.if_icmp .eq 5, 3) := by decide +kernel
theorem dX5_allHold_87 : decode cX5_allHold 87 = .ok (.iconst 0, 1) := by decide +kernel
theorem dX5_allHold_88 : decode cX5_allHold 88 = .ok (.ireturn, 1) := by decide +kernel
theorem dX5_allHold_89 : decode cX5_allHold 89 = .ok (.iinc 4 1, 3) := by decide +kernel
theorem dX5_allHold_92 : decode cX5_allHold 92 = .ok (.goto (-89), 3) := by decide +kernel
theorem dX5_allHold_95 : decode cX5_allHold 95 = .ok (.iconst 1, 1) := by decide +kernel
theorem dX5_allHold_96 : decode cX5_allHold 96 = .ok (.ireturn, 1) := by decide +kernel
theorem dX6_row_0 : decode cX6_row 0 = .ok (.lload_n 0, 1) := by decide +kernel
theorem dX6_row_1 : decode cX6_row 1 = .ok (.bipush 8, 2) := by decide +kernel
theorem dX6_row_3 : decode cX6_row 3 = .ok (.iload_n 2, 1) := by decide +kernel
theorem dX6_row_4 : decode cX6_row 4 = .ok (.imul, 1) := by decide +kernel
theorem dX6_row_5 : decode cX6_row 5 = .ok (.lushr, 1) := by decide +kernel
theorem dX6_row_6 : decode cX6_row 6 = .ok (.l2i, 1) := by decide +kernel
theorem dX6_row_7 : decode cX6_row 7 = .ok (.sipush 255, 3) := by decide +kernel
theorem dX6_row_10 : decode cX6_row 10 = .ok (.iand, 1) := by decide +kernel
theorem dX6_row_11 : decode cX6_row 11 = .ok (.ireturn, 1) := by decide +kernel
set_option maxRecDepth 20000 in
theorem ggX6_has_X6_row : GoodIn wsX6_has wsX6_row := goodIn_r _ [4] (by decide +kernel) (by decide +kernel)
set_option maxRecDepth 20000 in
theorem gX6_has_X6_row : GoodIn wsX6_has (va_wsS RX6 11 yX6_row wsX6_row) := goodIn_app (goodIn_of _ (by decide +kernel)) ggX6_has_X6_row
theorem dX6_has_0 : decode cX6_has 0 = .ok (.lload_n 0, 1) := by decide +kernel
theorem dX6_has_1 : decode cX6_has 1 = .ok (.iload_n 2, 1) := by decide +kernel
theorem dX6_has_2 : decode cX6_has 2 = .ok (.invokestatic 11, 3) := by decide +kernel
theorem dX6_has_5 : decode cX6_has 5 = .ok (.iload_n 3, 1) := by decide +kernel
theorem dX6_has_6 : decode cX6_has 6 = .ok (.ishr, 1) := by decide +kernel
theorem dX6_has_7 : decode cX6_has 7 = .ok (.iconst 1, 1) := by decide +kernel
theorem dX6_has_8 : decode cX6_has 8 = .ok (.iand, 1) := by decide +kernel
theorem dX6_has_9 : decode cX6_has 9 = .ok (.ifCond .eq 7, 3) := by decide +kernel
theorem dX6_has_12 : decode cX6_has 12 = .ok (.iconst 1, 1) := by decide +kernel
theorem dX6_has_13 : decode cX6_has 13 = .ok (.goto 4, 3) := by decide +kernel
theorem dX6_has_16 : decode cX6_has 16 = .ok (.iconst 0, 1) := by decide +kernel
theorem dX6_has_17 : decode cX6_has 17 = .ok (.ireturn, 1) := by decide +kernel
theorem dX6_withRow_0 : decode cX6_withRow 0 = .ok (.lload_n 0, 1) := by decide +kernel
theorem dX6_withRow_1 : decode cX6_withRow 1 = .ok (.iload_n 3, 1) := by decide +kernel
theorem dX6_withRow_2 : decode cX6_withRow 2 = .ok (.i2l, 1) := by decide +kernel
theorem dX6_withRow_3 : decode cX6_withRow 3 = .ok (.bipush 8, 2) := by decide +kernel
theorem dX6_withRow_5 : decode cX6_withRow 5 = .ok (.iload_n 2, 1) := by decide +kernel
theorem dX6_withRow_6 : decode cX6_withRow 6 = .ok (.imul, 1) := by decide +kernel
theorem dX6_withRow_7 : decode cX6_withRow 7 = .ok (.lshl, 1) := by decide +kernel
theorem dX6_withRow_8 : decode cX6_withRow 8 = .ok (.lor, 1) := by decide +kernel
theorem dX6_withRow_9 : decode cX6_withRow 9 = .ok (.lreturn, 1) := by decide +kernel
set_option maxRecDepth 20000 in
theorem ggX6_identity_X6_withRow : GoodIn wsX6_identity wsX6_withRow := goodIn_r _ [4] (by decide +kernel) (by decide +kernel)
set_option maxRecDepth 20000 in
theorem gX6_identity_X6_withRow : GoodIn wsX6_identity (va_wsS RX6 15 yX6_withRow wsX6_withRow) := goodIn_app (goodIn_of _ (by decide +kernel)) ggX6_identity_X6_withRow
theorem dX6_identity_0 : decode cX6_identity 0 = .ok (.lconst 0, 1) := by decide +kernel
theorem dX6_identity_1 : decode cX6_identity 1 = .ok (.lstore_n 1, 1) := by decide +kernel
theorem dX6_identity_2 : decode cX6_identity 2 = .ok (.iconst 0, 1) := by decide +kernel
theorem dX6_identity_3 : decode cX6_identity 3 = .ok (.istore_n 3, 1) := by decide +kernel
theorem dX6_identity_4 : decode cX6_identity 4 = .ok (.iload_n 3, 1) := by decide +kernel
theorem dX6_identity_5 : decode cX6_identity 5 = .ok (.iload_n 0, 1) := by decide +kernel
theorem dX6_identity_6 : decode cX6_identity 6 = .ok (.if_icmp .ge 18, 3) := by decide +kernel
theorem dX6_identity_9 : decode cX6_identity 9 = .ok (.lload_n 1, 1) := by decide +kernel
theorem dX6_identity_10 : decode cX6_identity 10 = .ok (.iload_n 3, 1) := by decide +kernel
theorem dX6_identity_11 : decode cX6_identity 11 = .ok (.iconst 1, 1) := by decide +kernel
theorem dX6_identity_12 : decode cX6_identity 12 = .ok (.iload_n 3, 1) := by decide +kernel
theorem dX6_identity_13 : decode cX6_identity 13 = .ok (.ishl, 1) := by decide +kernel
theorem dX6_identity_14 : decode cX6_identity 14 = .ok (.invokestatic 15, 3) := by decide +kernel
theorem dX6_identity_17 : decode cX6_identity 17 = .ok (.lstore_n 1, 1) := by decide +kernel
theorem dX6_identity_18 : decode cX6_identity 18 = .ok (.iinc 3 1, 3) := by decide +kernel
theorem dX6_identity_21 : decode cX6_identity 21 = .ok (.goto (-17), 3) := by decide +kernel
theorem dX6_identity_24 : decode cX6_identity 24 = .ok (.lload_n 1, 1) := by decide +kernel
theorem dX6_identity_25 : decode cX6_identity 25 = .ok (.lreturn, 1) := by decide +kernel
set_option maxRecDepth 20000 in
theorem ggX6_ofBalancedPaths_X6_identity : GoodIn wsX6_ofBalancedPaths wsX6_identity := goodIn_r _ [5, 6, 7, 4, 8] (by decide +kernel) (by decide +kernel)
set_option maxRecDepth 20000 in
theorem gX6_ofBalancedPaths_X6_identity : GoodIn wsX6_ofBalancedPaths (va_wsS RX6 19 yX6_identity wsX6_identity) := goodIn_app (goodIn_of _ (by decide +kernel)) ggX6_ofBalancedPaths_X6_identity
set_option maxRecDepth 20000 in
theorem ggX6_ofBalancedPaths_X6_withPathsBehind : GoodIn wsX6_ofBalancedPaths wsX6_withPathsBehind := goodIn_r _ [11, 12, 13, 1, 14, 15, 16, 17, 18, 19, 20, 21, 4, 22, 6, 7, 8, 23, 24, 25, 26, 27, 28, 29, 30, 31, 32, 33, 34, 35, 36, 37] (by decide +kernel) (by decide +kernel)
set_option maxRecDepth 20000 in
theorem gX6_ofBalancedPaths_X6_withPathsBehind : GoodIn wsX6_ofBalancedPaths (va_wsS RX6 29 yX6_withPathsBehind wsX6_withPathsBehind) := goodIn_app (goodIn_of _ (by decide +kernel)) ggX6_ofBalancedPaths_X6_withPathsBehind
theorem dX6_ofBalancedPaths_0 : decode cX6_ofBalancedPaths 0 = .ok (.iload_n 1, 1) := by decide +kernel
theorem dX6_ofBalancedPaths_1 : decode cX6_ofBalancedPaths 1 = .ok (.invokestatic 19, 3) := by decide +kernel
theorem dX6_ofBalancedPaths_4 : decode cX6_ofBalancedPaths 4 = .ok (.lstore_n 2, 1) := by decide +kernel
theorem dX6_ofBalancedPaths_5 : decode cX6_ofBalancedPaths 5 = .ok (.iconst 0, 1) := by decide +kernel
theorem dX6_ofBalancedPaths_6 : decode cX6_ofBalancedPaths 6 = .ok (.istore 4, 2) := by decide +kernel
theorem dX6_ofBalancedPaths_8 : decode cX6_ofBalancedPaths 8 = .ok (.iload 4, 2) := by decide +kernel
theorem dX6_ofBalancedPaths_10 : decode cX6_ofBalancedPaths 10 = .ok (.bipush 64, 2) := by decide +kernel
theorem dX6_ofBalancedPaths_12 : decode cX6_ofBalancedPaths 12 = .ok (.if_icmp .gt 48, 3) := by decide +kernel
theorem dX6_ofBalancedPaths_15 : decode cX6_ofBalancedPaths 15 = .ok (.lload_n 2, 1) := by decide +kernel
theorem dX6_ofBalancedPaths_16 : decode cX6_ofBalancedPaths 16 = .ok (.lstore 5, 2) := by decide +kernel
theorem dX6_ofBalancedPaths_18 : decode cX6_ofBalancedPaths 18 = .ok (.iconst 0, 1) := by decide +kernel
theorem dX6_ofBalancedPaths_19 : decode cX6_ofBalancedPaths 19 = .ok (.istore 7, 2) := by decide +kernel
theorem dX6_ofBalancedPaths_21 : decode cX6_ofBalancedPaths 21 = .ok (.iload 7, 2) := by decide +kernel
theorem dX6_ofBalancedPaths_23 : decode cX6_ofBalancedPaths 23 = .ok (.aload_n 0, 1) := by decide +kernel
theorem dX6_ofBalancedPaths_24 : decode cX6_ofBalancedPaths 24 = .ok (.getfield 23, 3) := by decide +kernel
theorem dX6_ofBalancedPaths_27 : decode cX6_ofBalancedPaths 27 = .ok (.if_icmp .ge 17, 3) := by decide +kernel
theorem dX6_ofBalancedPaths_30 : decode cX6_ofBalancedPaths 30 = .ok (.iload 7, 2) := by decide +kernel
theorem dX6_ofBalancedPaths_32 : decode cX6_ofBalancedPaths 32 = .ok (.lload_n 2, 1) := by decide +kernel
theorem dX6_ofBalancedPaths_33 : decode cX6_ofBalancedPaths 33 = .ok (.aload_n 0, 1) := by decide +kernel
theorem dX6_ofBalancedPaths_34 : decode cX6_ofBalancedPaths 34 = .ok (.invokestatic 29, 3) := by decide +kernel
theorem dX6_ofBalancedPaths_37 : decode cX6_ofBalancedPaths 37 = .ok (.lstore_n 2, 1) := by decide +kernel
theorem dX6_ofBalancedPaths_38 : decode cX6_ofBalancedPaths 38 = .ok (.iinc 7 1, 3) := by decide +kernel
theorem dX6_ofBalancedPaths_41 : decode cX6_ofBalancedPaths 41 = .ok (.goto (-20), 3) := by decide +kernel
theorem dX6_ofBalancedPaths_44 : decode cX6_ofBalancedPaths 44 = .ok (.lload_n 2, 1) := by decide +kernel
theorem dX6_ofBalancedPaths_45 : decode cX6_ofBalancedPaths 45 = .ok (.lload 5, 2) := by decide +kernel
theorem dX6_ofBalancedPaths_47 : decode cX6_ofBalancedPaths 47 = .ok (.lcmp, 1) := by decide +kernel
theorem dX6_ofBalancedPaths_48 : decode cX6_ofBalancedPaths 48 = .ok (.ifCond .ne 6, 3) := by decide +kernel
theorem dX6_ofBalancedPaths_51 : decode cX6_ofBalancedPaths 51 = .ok (.goto 9, 3) := by decide +kernel
theorem dX6_ofBalancedPaths_54 : decode cX6_ofBalancedPaths 54 = .ok (.iinc 4 1, 3) := by decide +kernel
theorem dX6_ofBalancedPaths_57 : decode cX6_ofBalancedPaths 57 = .ok (.goto (-49), 3) := by decide +kernel
theorem dX6_ofBalancedPaths_60 : decode cX6_ofBalancedPaths 60 = .ok (.lload_n 2, 1) := by decide +kernel
theorem dX6_ofBalancedPaths_61 : decode cX6_ofBalancedPaths 61 = .ok (.lreturn, 1) := by decide +kernel
set_option maxRecDepth 20000 in
theorem ggX6_withPathsBehind_X2_isEmptyLabelled : GoodIn wsX6_withPathsBehind wsX2_isEmptyLabelled := goodIn_r _ [8, 9, 28, 29, 30, 31] (by decide +kernel) (by decide +kernel)
set_option maxRecDepth 20000 in
theorem gX6_withPathsBehind_X2_isEmptyLabelled : GoodIn wsX6_withPathsBehind (wsV RX6 40 RX2 yX2_isEmptyLabelled wsX2_isEmptyLabelled) := goodIn_app (goodIn_of _ (by decide +kernel)) ggX6_withPathsBehind_X2_isEmptyLabelled
set_option maxRecDepth 20000 in
theorem ggX6_withPathsBehind_X6_row : GoodIn wsX6_withPathsBehind wsX6_row := goodIn_r _ [13] (by decide +kernel) (by decide +kernel)
set_option maxRecDepth 20000 in
theorem gX6_withPathsBehind_X6_row : GoodIn wsX6_withPathsBehind (va_wsS RX6 11 yX6_row wsX6_row) := goodIn_app (goodIn_of _ (by decide +kernel)) ggX6_withPathsBehind_X6_row
set_option maxRecDepth 20000 in
theorem ggX6_withPathsBehind_X6_withRow : GoodIn wsX6_withPathsBehind wsX6_withRow := goodIn_r _ [16] (by decide +kernel) (by decide +kernel)
set_option maxRecDepth 20000 in
theorem gX6_withPathsBehind_X6_withRow : GoodIn wsX6_withPathsBehind (va_wsS RX6 15 yX6_withRow wsX6_withRow) := goodIn_app (goodIn_of _ (by decide +kernel)) ggX6_withPathsBehind_X6_withRow
set_option maxRecDepth 20000 in
theorem ggX6_withPathsBehind_X2_opens : GoodIn wsX6_withPathsBehind wsX2_opens := goodIn_r _ [20, 9, 28, 29, 30, 31] (by decide +kernel) (by decide +kernel)
set_option maxRecDepth 20000 in
theorem gX6_withPathsBehind_X2_opens : GoodIn wsX6_withPathsBehind (wsV RX6 44 RX2 yX2_opens wsX2_opens) := goodIn_app (goodIn_of _ (by decide +kernel)) ggX6_withPathsBehind_X2_opens
set_option maxRecDepth 20000 in
theorem ggX6_withPathsBehind_X2_closes : GoodIn wsX6_withPathsBehind wsX2_closes := goodIn_r _ [24, 9, 28, 29, 30, 31] (by decide +kernel) (by decide +kernel)
set_option maxRecDepth 20000 in
theorem gX6_withPathsBehind_X2_closes : GoodIn wsX6_withPathsBehind (wsV RX6 47 RX2 yX2_closes wsX2_closes) := goodIn_app (goodIn_of _ (by decide +kernel)) ggX6_withPathsBehind_X2_closes
set_option maxRecDepth 20000 in
theorem ggX6_withPathsBehind_X6_has : GoodIn wsX6_withPathsBehind wsX6_has := goodIn_r _ [27, 10, 11, 12, 13] (by decide +kernel) (by decide +kernel)
set_option maxRecDepth 20000 in
theorem gX6_withPathsBehind_X6_has : GoodIn wsX6_withPathsBehind (va_wsS RX6 51 yX6_has wsX6_has) := goodIn_app (goodIn_of _ (by decide +kernel)) ggX6_withPathsBehind_X6_has
theorem dX6_withPathsBehind_0 : decode cX6_withPathsBehind 0 = .ok (.aload_n 3, 1) := by decide +kernel
theorem dX6_withPathsBehind_1 : decode cX6_withPathsBehind 1 = .ok (.getfield 33, 3) := by decide +kernel
theorem dX6_withPathsBehind_4 : decode cX6_withPathsBehind 4 = .ok (.iload_n 0, 1) := by decide +kernel
theorem dX6_withPathsBehind_5 : decode cX6_withPathsBehind 5 = .ok (.iaload, 1) := by decide +kernel
theorem dX6_withPathsBehind_6 : decode cX6_withPathsBehind 6 = .ok (.istore 4, 2) := by decide +kernel
theorem dX6_withPathsBehind_8 : decode cX6_withPathsBehind 8 = .ok (.aload_n 3, 1) := by decide +kernel
theorem dX6_withPathsBehind_9 : decode cX6_withPathsBehind 9 = .ok (.getfield 37, 3) := by decide +kernel
theorem dX6_withPathsBehind_12 : decode cX6_withPathsBehind 12 = .ok (.iload_n 0, 1) := by decide +kernel
theorem dX6_withPathsBehind_13 : decode cX6_withPathsBehind 13 = .ok (.iaload, 1) := by decide +kernel
theorem dX6_withPathsBehind_14 : decode cX6_withPathsBehind 14 = .ok (.istore 5, 2) := by decide +kernel
theorem dX6_withPathsBehind_16 : decode cX6_withPathsBehind 16 = .ok (.aload_n 3, 1) := by decide +kernel
theorem dX6_withPathsBehind_17 : decode cX6_withPathsBehind 17 = .ok (.iload_n 0, 1) := by decide +kernel
theorem dX6_withPathsBehind_18 : decode cX6_withPathsBehind 18 = .ok (.invokevirtual 40, 3) := by decide +kernel
theorem dX6_withPathsBehind_21 : decode cX6_withPathsBehind 21 = .ok (.ifCond .eq 16, 3) := by decide +kernel
theorem dX6_withPathsBehind_24 : decode cX6_withPathsBehind 24 = .ok (.lload_n 1, 1) := by decide +kernel
theorem dX6_withPathsBehind_25 : decode cX6_withPathsBehind 25 = .ok (.iload 4, 2) := by decide +kernel
theorem dX6_withPathsBehind_27 : decode cX6_withPathsBehind 27 = .ok (.lload_n 1, 1) := by decide +kernel
theorem dX6_withPathsBehind_28 : decode cX6_withPathsBehind 28 = .ok (.iload 5, 2) := by decide +kernel
theorem dX6_withPathsBehind_30 : decode cX6_withPathsBehind 30 = .ok (.invokestatic 11, 3) := by decide +kernel
theorem dX6_withPathsBehind_33 : decode cX6_withPathsBehind 33 = .ok (.invokestatic 15, 3) := by decide +kernel
theorem dX6_withPathsBehind_36 : decode cX6_withPathsBehind 36 = .ok (.lreturn, 1) := by decide +kernel
theorem dX6_withPathsBehind_37 : decode cX6_withPathsBehind 37 = .ok (.aload_n 3, 1) := by decide +kernel
theorem dX6_withPathsBehind_38 : decode cX6_withPathsBehind 38 = .ok (.iload_n 0, 1) := by decide +kernel
theorem dX6_withPathsBehind_39 : decode cX6_withPathsBehind 39 = .ok (.invokevirtual 44, 3) := by decide +kernel
theorem dX6_withPathsBehind_42 : decode cX6_withPathsBehind 42 = .ok (.ifCond .ne 5, 3) := by decide +kernel
theorem dX6_withPathsBehind_45 : decode cX6_withPathsBehind 45 = .ok (.lload_n 1, 1) := by decide +kernel
theorem dX6_withPathsBehind_46 : decode cX6_withPathsBehind 46 = .ok (.lreturn, 1) := by decide +kernel
theorem dX6_withPathsBehind_47 : decode cX6_withPathsBehind 47 = .ok (.lload_n 1, 1) := by decide +kernel
theorem dX6_withPathsBehind_48 : decode cX6_withPathsBehind 48 = .ok (.lstore 6, 2) := by decide +kernel
theorem dX6_withPathsBehind_50 : decode cX6_withPathsBehind 50 = .ok (.iconst 0, 1) := by decide +kernel
theorem dX6_withPathsBehind_51 : decode cX6_withPathsBehind 51 = .ok (.istore 8, 2) := by decide +kernel
theorem dX6_withPathsBehind_53 : decode cX6_withPathsBehind 53 = .ok (.iload 8, 2) := by decide +kernel
theorem dX6_withPathsBehind_55 : decode cX6_withPathsBehind 55 = .ok (.aload_n 3, 1) := by decide +kernel
theorem dX6_withPathsBehind_56 : decode cX6_withPathsBehind 56 = .ok (.getfield 23, 3) := by decide +kernel
theorem dX6_withPathsBehind_59 : decode cX6_withPathsBehind 59 = .ok (.if_icmp .ge 57, 3) := by decide +kernel
theorem dX6_withPathsBehind_62 : decode cX6_withPathsBehind 62 = .ok (.aload_n 3, 1) := by decide +kernel
theorem dX6_withPathsBehind_63 : decode cX6_withPathsBehind 63 = .ok (.iload 8, 2) := by decide +kernel
theorem dX6_withPathsBehind_65 : decode cX6_withPathsBehind 65 = .ok (.iload_n 0, 1) := by decide +kernel
theorem dX6_withPathsBehind_66 : decode cX6_withPathsBehind 66 = .ok (.invokevirtual 47, 3) := by decide +kernel
theorem dX6_withPathsBehind_69 : decode cX6_withPathsBehind 69 = .ok (.ifCond .eq 41, 3) := by decide +kernel
theorem dX6_withPathsBehind_72 : decode cX6_withPathsBehind 72 = .ok (.lload 6, 2) := by decide +kernel
theorem dX6_withPathsBehind_74 : decode cX6_withPathsBehind 74 = .ok (.iload 5, 2) := by decide +kernel
theorem dX6_withPathsBehind_76 : decode cX6_withPathsBehind 76 = .ok (.aload_n 3, 1) := by decide +kernel
theorem dX6_withPathsBehind_77 : decode cX6_withPathsBehind 77 = .ok (.getfield 33, 3) := by decide +kernel
theorem dX6_withPathsBehind_80 : decode cX6_withPathsBehind 80 = .ok (.iload 8, 2) := by decide +kernel
theorem dX6_withPathsBehind_82 : decode cX6_withPathsBehind 82 = .ok (.iaload, 1) := by decide +kernel
theorem dX6_withPathsBehind_83 : decode cX6_withPathsBehind 83 = .ok (.invokestatic 51, 3) := by decide +kernel
theorem dX6_withPathsBehind_86 : decode cX6_withPathsBehind 86 = .ok (.ifCond .eq 24, 3) := by decide +kernel
theorem dX6_withPathsBehind_89 : decode cX6_withPathsBehind 89 = .ok (.lload 6, 2) := by decide +kernel
theorem dX6_withPathsBehind_91 : decode cX6_withPathsBehind 91 = .ok (.iload 4, 2) := by decide +kernel
theorem dX6_withPathsBehind_93 : decode cX6_withPathsBehind 93 = .ok (.lload 6, 2) := by decide +kernel
theorem dX6_withPathsBehind_95 : decode cX6_withPathsBehind 95 = .ok (.aload_n 3, 1) := by decide +kernel
theorem dX6_withPathsBehind_96 : decode cX6_withPathsBehind 96 = .ok (.getfield 37, 3) := by decide +kernel
theorem dX6_withPathsBehind_99 : decode cX6_withPathsBehind 99 = .ok (.iload 8, 2) := by decide +kernel
theorem dX6_withPathsBehind_101 : decode cX6_withPathsBehind 101 = .ok (.iaload, 1) := by decide +kernel
theorem dX6_withPathsBehind_102 : decode cX6_withPathsBehind 102 = .ok (.invokestatic 11, 3) := by decide +kernel
theorem dX6_withPathsBehind_105 : decode cX6_withPathsBehind 105 = .ok (.invokestatic 15, 3) := by decide +kernel
theorem dX6_withPathsBehind_108 : decode cX6_withPathsBehind 108 = .ok (.lstore 6, 2) := by decide +kernel
theorem dX6_withPathsBehind_110 : decode cX6_withPathsBehind 110 = .ok (.iinc 8 1, 3) := by decide +kernel
theorem dX6_withPathsBehind_113 : decode cX6_withPathsBehind 113 = .ok (.goto (-60), 3) := by decide +kernel
theorem dX6_withPathsBehind_116 : decode cX6_withPathsBehind 116 = .ok (.lload 6, 2) := by decide +kernel
theorem dX6_withPathsBehind_118 : decode cX6_withPathsBehind 118 = .ok (.lreturn, 1) := by decide +kernel
set_option maxRecDepth 20000 in
theorem ggX6_nestedAround_X6_identity : GoodIn wsX6_nestedAround wsX6_identity := goodIn_r _ [6, 7, 8, 5, 9] (by decide +kernel) (by decide +kernel)
set_option maxRecDepth 20000 in
theorem gX6_nestedAround_X6_identity : GoodIn wsX6_nestedAround (va_wsS RX6 19 yX6_identity wsX6_identity) := goodIn_app (goodIn_of _ (by decide +kernel)) ggX6_nestedAround_X6_identity
set_option maxRecDepth 20000 in
theorem ggX6_nestedAround_X6_stepsBy : GoodIn wsX6_nestedAround wsX6_stepsBy := goodIn_r _ [12, 13, 1, 2, 14, 15, 16, 17, 18, 19, 20, 21, 22, 23, 24, 25, 26, 27, 28, 29, 5, 30, 31, 32, 33, 37, 38, 39, 40] (by decide +kernel) (by decide +kernel)
set_option maxRecDepth 20000 in
theorem gX6_nestedAround_X6_stepsBy : GoodIn wsX6_nestedAround (va_wsS RX6 55 yX6_stepsBy wsX6_stepsBy) := goodIn_app (goodIn_of _ (by decide +kernel)) ggX6_nestedAround_X6_stepsBy
set_option maxRecDepth 20000 in
theorem ggX6_nestedAround_X6_withRow : GoodIn wsX6_nestedAround wsX6_withRow := goodIn_r _ [9] (by decide +kernel) (by decide +kernel)
set_option maxRecDepth 20000 in
theorem gX6_nestedAround_X6_withRow : GoodIn wsX6_nestedAround (va_wsS RX6 15 yX6_withRow wsX6_withRow) := goodIn_app (goodIn_of _ (by decide +kernel)) ggX6_nestedAround_X6_withRow
set_option maxRecDepth 20000 in
theorem ggX6_nestedAround_X6_transitive : GoodIn wsX6_nestedAround wsX6_transitive := goodIn_r _ [36, 28, 29, 5, 30, 31, 32, 33, 7, 8, 9] (by decide +kernel) (by decide +kernel)
set_option maxRecDepth 20000 in
theorem gX6_nestedAround_X6_transitive : GoodIn wsX6_nestedAround (va_wsS RX6 59 yX6_transitive wsX6_transitive) := goodIn_app (goodIn_of _ (by decide +kernel)) ggX6_nestedAround_X6_transitive
theorem dX6_nestedAround_0 : decode cX6_nestedAround 0 = .ok (.iload_n 3, 1) := by decide +kernel
theorem dX6_nestedAround_1 : decode cX6_nestedAround 1 = .ok (.invokestatic 19, 3) := by decide +kernel
theorem dX6_nestedAround_4 : decode cX6_nestedAround 4 = .ok (.lstore 4, 2) := by decide +kernel
theorem dX6_nestedAround_6 : decode cX6_nestedAround 6 = .ok (.iconst 0, 1) := by decide +kernel
theorem dX6_nestedAround_7 : decode cX6_nestedAround 7 = .ok (.istore 6, 2) := by decide +kernel
theorem dX6_nestedAround_9 : decode cX6_nestedAround 9 = .ok (.iload 6, 2) := by decide +kernel
theorem dX6_nestedAround_11 : decode cX6_nestedAround 11 = .ok (.aload_n 2, 1) := by decide +kernel
theorem dX6_nestedAround_12 : decode cX6_nestedAround 12 = .ok (.getfield 23, 3) := by decide +kernel
theorem dX6_nestedAround_15 : decode cX6_nestedAround 15 = .ok (.if_icmp .ge 30, 3) := by decide +kernel
theorem dX6_nestedAround_18 : decode cX6_nestedAround 18 = .ok (.lload 4, 2) := by decide +kernel
theorem dX6_nestedAround_20 : decode cX6_nestedAround 20 = .ok (.aload_n 2, 1) := by decide +kernel
theorem dX6_nestedAround_21 : decode cX6_nestedAround 21 = .ok (.getfield 33, 3) := by decide +kernel
theorem dX6_nestedAround_24 : decode cX6_nestedAround 24 = .ok (.iload 6, 2) := by decide +kernel
theorem dX6_nestedAround_26 : decode cX6_nestedAround 26 = .ok (.iaload, 1) := by decide +kernel
theorem dX6_nestedAround_27 : decode cX6_nestedAround 27 = .ok (.iload 6, 2) := by decide +kernel
theorem dX6_nestedAround_29 : decode cX6_nestedAround 29 = .ok (.lload_n 0, 1) := by decide +kernel
theorem dX6_nestedAround_30 : decode cX6_nestedAround 30 = .ok (.aload_n 2, 1) := by decide +kernel
theorem dX6_nestedAround_31 : decode cX6_nestedAround 31 = .ok (.invokestatic 55, 3) := by decide +kernel
theorem dX6_nestedAround_34 : decode cX6_nestedAround 34 = .ok (.invokestatic 15, 3) := by decide +kernel
theorem dX6_nestedAround_37 : decode cX6_nestedAround 37 = .ok (.lstore 4, 2) := by decide +kernel
theorem dX6_nestedAround_39 : decode cX6_nestedAround 39 = .ok (.iinc 6 1, 3) := by decide +kernel
theorem dX6_nestedAround_42 : decode cX6_nestedAround 42 = .ok (.goto (-33), 3) := by decide +kernel
theorem dX6_nestedAround_45 : decode cX6_nestedAround 45 = .ok (.lload 4, 2) := by decide +kernel
theorem dX6_nestedAround_47 : decode cX6_nestedAround 47 = .ok (.invokestatic 59, 3) := by decide +kernel
theorem dX6_nestedAround_50 : decode cX6_nestedAround 50 = .ok (.lreturn, 1) := by decide +kernel
set_option maxRecDepth 20000 in
theorem ggX6_stepsBy_X2_isEmptyLabelled : GoodIn wsX6_stepsBy wsX2_isEmptyLabelled := goodIn_r _ [8, 9, 25, 26, 27, 28] (by decide +kernel) (by decide +kernel)
set_option maxRecDepth 20000 in
theorem gX6_stepsBy_X2_isEmptyLabelled : GoodIn wsX6_stepsBy (wsV RX6 40 RX2 yX2_isEmptyLabelled wsX2_isEmptyLabelled) := goodIn_app (goodIn_of _ (by decide +kernel)) ggX6_stepsBy_X2_isEmptyLabelled
set_option maxRecDepth 20000 in
theorem ggX6_stepsBy_X2_opens : GoodIn wsX6_stepsBy wsX2_opens := goodIn_r _ [13, 9, 25, 26, 27, 28] (by decide +kernel) (by decide +kernel)
set_option maxRecDepth 20000 in
theorem gX6_stepsBy_X2_opens : GoodIn wsX6_stepsBy (wsV RX6 44 RX2 yX2_opens wsX2_opens) := goodIn_app (goodIn_of _ (by decide +kernel)) ggX6_stepsBy_X2_opens
set_option maxRecDepth 20000 in
theorem ggX6_stepsBy_X2_closes : GoodIn wsX6_stepsBy wsX2_closes := goodIn_r _ [17, 9, 25, 26, 27, 28] (by decide +kernel) (by decide +kernel)
set_option maxRecDepth 20000 in
theorem gX6_stepsBy_X2_closes : GoodIn wsX6_stepsBy (wsV RX6 47 RX2 yX2_closes wsX2_closes) := goodIn_app (goodIn_of _ (by decide +kernel)) ggX6_stepsBy_X2_closes
set_option maxRecDepth 20000 in
theorem ggX6_stepsBy_X6_has : GoodIn wsX6_stepsBy wsX6_has := goodIn_r _ [21, 22, 23, 20, 24] (by decide +kernel) (by decide +kernel)
set_option maxRecDepth 20000 in
theorem gX6_stepsBy_X6_has : GoodIn wsX6_stepsBy (va_wsS RX6 51 yX6_has wsX6_has) := goodIn_app (goodIn_of _ (by decide +kernel)) ggX6_stepsBy_X6_has
theorem dX6_stepsBy_0 : decode cX6_stepsBy 0 = .ok (.aload_n 3, 1) := by decide +kernel
theorem dX6_stepsBy_1 : decode cX6_stepsBy 1 = .ok (.getfield 37, 3) := by decide +kernel
theorem dX6_stepsBy_4 : decode cX6_stepsBy 4 = .ok (.iload_n 0, 1) := by decide +kernel
theorem dX6_stepsBy_5 : decode cX6_stepsBy 5 = .ok (.iaload, 1) := by decide +kernel
theorem dX6_stepsBy_6 : decode cX6_stepsBy 6 = .ok (.istore 4, 2) := by decide +kernel
theorem dX6_stepsBy_8 : decode cX6_stepsBy 8 = .ok (.aload_n 3, 1) := by decide +kernel
theorem dX6_stepsBy_9 : decode cX6_stepsBy 9 = .ok (.iload_n 0, 1) := by decide +kernel
theorem dX6_stepsBy_10 : decode cX6_stepsBy 10 = .ok (.invokevirtual 40, 3) := by decide +kernel
theorem dX6_stepsBy_13 : decode cX6_stepsBy 13 = .ok (.ifCond .eq 8, 3) := by decide +kernel
theorem dX6_stepsBy_16 : decode cX6_stepsBy 16 = .ok (.iconst 1, 1) := by decide +kernel
theorem dX6_stepsBy_17 : decode cX6_stepsBy 17 = .ok (.iload 4, 2) := by decide +kernel
theorem dX6_stepsBy_19 : decode cX6_stepsBy 19 = .ok (.ishl, 1) := by decide +kernel
theorem dX6_stepsBy_20 : decode cX6_stepsBy 20 = .ok (.ireturn, 1) := by decide +kernel
theorem dX6_stepsBy_21 : decode cX6_stepsBy 21 = .ok (.aload_n 3, 1) := by decide +kernel
theorem dX6_stepsBy_22 : decode cX6_stepsBy 22 = .ok (.iload_n 0, 1) := by decide +kernel
theorem dX6_stepsBy_23 : decode cX6_stepsBy 23 = .ok (.invokevirtual 44, 3) := by decide +kernel
theorem dX6_stepsBy_26 : decode cX6_stepsBy 26 = .ok (.ifCond .ne 5, 3) := by decide +kernel
theorem dX6_stepsBy_29 : decode cX6_stepsBy 29 = .ok (.iconst 0, 1) := by decide +kernel
theorem dX6_stepsBy_30 : decode cX6_stepsBy 30 = .ok (.ireturn, 1) := by decide +kernel
theorem dX6_stepsBy_31 : decode cX6_stepsBy 31 = .ok (.iconst 0, 1) := by decide +kernel
theorem dX6_stepsBy_32 : decode cX6_stepsBy 32 = .ok (.istore 5, 2) := by decide +kernel
theorem dX6_stepsBy_34 : decode cX6_stepsBy 34 = .ok (.iconst 0, 1) := by decide +kernel
theorem dX6_stepsBy_35 : decode cX6_stepsBy 35 = .ok (.istore 6, 2) := by decide +kernel
theorem dX6_stepsBy_37 : decode cX6_stepsBy 37 = .ok (.iload 6, 2) := by decide +kernel
theorem dX6_stepsBy_39 : decode cX6_stepsBy 39 = .ok (.aload_n 3, 1) := by decide +kernel
theorem dX6_stepsBy_40 : decode cX6_stepsBy 40 = .ok (.getfield 23, 3) := by decide +kernel
theorem dX6_stepsBy_43 : decode cX6_stepsBy 43 = .ok (.if_icmp .ge 49, 3) := by decide +kernel
theorem dX6_stepsBy_46 : decode cX6_stepsBy 46 = .ok (.aload_n 3, 1) := by decide +kernel
theorem dX6_stepsBy_47 : decode cX6_stepsBy 47 = .ok (.iload 6, 2) := by decide +kernel
theorem dX6_stepsBy_49 : decode cX6_stepsBy 49 = .ok (.iload_n 0, 1) := by decide +kernel
theorem dX6_stepsBy_50 : decode cX6_stepsBy 50 = .ok (.invokevirtual 47, 3) := by decide +kernel
theorem dX6_stepsBy_53 : decode cX6_stepsBy 53 = .ok (.ifCond .eq 33, 3) := by decide +kernel
theorem dX6_stepsBy_56 : decode cX6_stepsBy 56 = .ok (.lload_n 1, 1) := by decide +kernel
theorem dX6_stepsBy_57 : decode cX6_stepsBy 57 = .ok (.iload 4, 2) := by decide +kernel
theorem dX6_stepsBy_59 : decode cX6_stepsBy 59 = .ok (.aload_n 3, 1) := by decide +kernel
theorem dX6_stepsBy_60 : decode cX6_stepsBy 60 = .ok (.getfield 33, 3) := by decide +kernel
theorem dX6_stepsBy_63 : decode cX6_stepsBy 63 = .ok (.iload 6, 2) := by decide +kernel
theorem dX6_stepsBy_65 : decode cX6_stepsBy 65 = .ok (.iaload, 1) := by decide +kernel
theorem dX6_stepsBy_66 : decode cX6_stepsBy 66 = .ok (.invokestatic 51, 3) := by decide +kernel
theorem dX6_stepsBy_69 : decode cX6_stepsBy 69 = .ok (.ifCond .eq 17, 3) := by decide +kernel
theorem dX6_stepsBy_72 : decode cX6_stepsBy 72 = .ok (.iload 5, 2) := by decide +kernel
theorem dX6_stepsBy_74 : decode cX6_stepsBy 74 = .ok (.iconst 1, 1) := by decide +kernel
theorem dX6_stepsBy_75 : decode cX6_stepsBy 75 = .ok (.aload_n 3, 1) := by decide +kernel
theorem dX6_stepsBy_76 : decode cX6_stepsBy 76 = .ok (.getfield 37, 3) := by decide +kernel
theorem dX6_stepsBy_79 : decode cX6_stepsBy 79 = .ok (.iload 6, 2) := by decide +kernel
theorem dX6_stepsBy_81 : decode cX6_stepsBy 81 = .ok (.iaload, 1) := by decide +kernel
theorem dX6_stepsBy_82 : decode cX6_stepsBy 82 = .ok (.ishl, 1) := by decide +kernel
theorem dX6_stepsBy_83 : decode cX6_stepsBy 83 = .ok (.ior, 1) := by decide +kernel
theorem dX6_stepsBy_84 : decode cX6_stepsBy 84 = .ok (.istore 5, 2) := by decide +kernel
theorem dX6_stepsBy_86 : decode cX6_stepsBy 86 = .ok (.iinc 6 1, 3) := by decide +kernel
theorem dX6_stepsBy_89 : decode cX6_stepsBy 89 = .ok (.goto (-52), 3) := by decide +kernel
theorem dX6_stepsBy_92 : decode cX6_stepsBy 92 = .ok (.iload 5, 2) := by decide +kernel
theorem dX6_stepsBy_94 : decode cX6_stepsBy 94 = .ok (.ireturn, 1) := by decide +kernel
set_option maxRecDepth 20000 in
theorem ggX6_transitive_X6_has : GoodIn wsX6_transitive wsX6_has := goodIn_r _ [4, 5, 6, 3, 7] (by decide +kernel) (by decide +kernel)
set_option maxRecDepth 20000 in
theorem gX6_transitive_X6_has : GoodIn wsX6_transitive (va_wsS RX6 51 yX6_has wsX6_has) := goodIn_app (goodIn_of _ (by decide +kernel)) ggX6_transitive_X6_has
set_option maxRecDepth 20000 in
theorem ggX6_transitive_X6_row : GoodIn wsX6_transitive wsX6_row := goodIn_r _ [7] (by decide +kernel) (by decide +kernel)
set_option maxRecDepth 20000 in
theorem gX6_transitive_X6_row : GoodIn wsX6_transitive (va_wsS RX6 11 yX6_row wsX6_row) := goodIn_app (goodIn_of _ (by decide +kernel)) ggX6_transitive_X6_row
set_option maxRecDepth 20000 in
theorem ggX6_transitive_X6_withRow : GoodIn wsX6_transitive wsX6_withRow := goodIn_r _ [10] (by decide +kernel) (by decide +kernel)
set_option maxRecDepth 20000 in
theorem gX6_transitive_X6_withRow : GoodIn wsX6_transitive (va_wsS RX6 15 yX6_withRow wsX6_withRow) := goodIn_app (goodIn_of _ (by decide +kernel)) ggX6_transitive_X6_withRow
theorem dX6_transitive_0 : decode cX6_transitive 0 = .ok (.lload_n 0, 1) := by decide +kernel
theorem dX6_transitive_1 : decode cX6_transitive 1 = .ok (.lstore_n 2, 1) := by decide +kernel
theorem dX6_transitive_2 : decode cX6_transitive 2 = .ok (.iconst 0, 1) := by decide +kernel
theorem dX6_transitive_3 : decode cX6_transitive 3 = .ok (.istore 4, 2) := by decide +kernel
theorem dX6_transitive_5 : decode cX6_transitive 5 = .ok (.iload 4, 2) := by decide +kernel
theorem dX6_transitive_7 : decode cX6_transitive 7 = .ok (.bipush 8, 2) := by decide +kernel
theorem dX6_transitive_9 : decode cX6_transitive 9 = .ok (.if_icmp .ge 49, 3) := by decide +kernel
theorem dX6_transitive_12 : decode cX6_transitive 12 = .ok (.iconst 0, 1) := by decide +kernel
theorem dX6_transitive_13 : decode cX6_transitive 13 = .ok (.istore 5, 2) := by decide +kernel
theorem dX6_transitive_15 : decode cX6_transitive 15 = .ok (.iload 5, 2) := by decide +kernel
theorem dX6_transitive_17 : decode cX6_transitive 17 = .ok (.bipush 8, 2) := by decide +kernel
theorem dX6_transitive_19 : decode cX6_transitive 19 = .ok (.if_icmp .ge 33, 3) := by decide +kernel
theorem dX6_transitive_22 : decode cX6_transitive 22 = .ok (.lload_n 2, 1) := by decide +kernel
theorem dX6_transitive_23 : decode cX6_transitive 23 = .ok (.iload 5, 2) := by decide +kernel
theorem dX6_transitive_25 : decode cX6_transitive 25 = .ok (.iload 4, 2) := by decide +kernel
theorem dX6_transitive_27 : decode cX6_transitive 27 = .ok (.invokestatic 51, 3) := by decide +kernel
theorem dX6_transitive_30 : decode cX6_transitive 30 = .ok (.ifCond .eq 16, 3) := by decide +kernel
theorem dX6_transitive_33 : decode cX6_transitive 33 = .ok (.lload_n 2, 1) := by decide +kernel
theorem dX6_transitive_34 : decode cX6_transitive 34 = .ok (.iload 5, 2) := by decide +kernel
theorem dX6_transitive_36 : decode cX6_transitive 36 = .ok (.lload_n 2, 1) := by decide +kernel
theorem dX6_transitive_37 : decode cX6_transitive 37 = .ok (.iload 4, 2) := by decide +kernel
theorem dX6_transitive_39 : decode cX6_transitive 39 = .ok (.invokestatic 11, 3) := by decide +kernel
theorem dX6_transitive_42 : decode cX6_transitive 42 = .ok (.invokestatic 15, 3) := by decide +kernel
theorem dX6_transitive_45 : decode cX6_transitive 45 = .ok (.lstore_n 2, 1) := by decide +kernel
theorem dX6_transitive_46 : decode cX6_transitive 46 = .ok (.iinc 5 1, 3) := by decide +kernel
theorem dX6_transitive_49 : decode cX6_transitive 49 = .ok (.goto (-34), 3) := by decide +kernel
theorem dX6_transitive_52 : decode cX6_transitive 52 = .ok (.iinc 4 1, 3) := by decide +kernel
theorem dX6_transitive_55 : decode cX6_transitive 55 = .ok (.goto (-50), 3) := by decide +kernel
theorem dX6_transitive_58 : decode cX6_transitive 58 = .ok (.lload_n 2, 1) := by decide +kernel
theorem dX6_transitive_59 : decode cX6_transitive 59 = .ok (.lreturn, 1) := by decide +kernel
theorem dX7_withoutLowest_0 : decode cX7_withoutLowest 0 = .ok (.lload_n 1, 1) := by decide +kernel
theorem dX7_withoutLowest_1 : decode cX7_withoutLowest 1 = .ok (.lstore_n 3, 1) := by decide +kernel
theorem dX7_withoutLowest_2 : decode cX7_withoutLowest 2 = .ok (.iconst 0, 1) := by decide +kernel
theorem dX7_withoutLowest_3 : decode cX7_withoutLowest 3 = .ok (.istore 5, 2) := by decide +kernel
theorem dX7_withoutLowest_5 : decode cX7_withoutLowest 5 = .ok (.iload 5, 2) := by decide +kernel
theorem dX7_withoutLowest_7 : decode cX7_withoutLowest 7 = .ok (.iload_n 0, 1) := by decide +kernel
theorem dX7_withoutLowest_8 : decode cX7_withoutLowest 8 = .ok (.if_icmp .ge 15, 3) := by decide +kernel
theorem dX7_withoutLowest_11 : decode cX7_withoutLowest 11 = .ok (.lload_n 3, 1) := by decide +kernel
theorem dX7_withoutLowest_12 : decode cX7_withoutLowest 12 = .ok (.ldc2_w 9, 3) := by decide +kernel
theorem dX7_withoutLowest_15 : decode cX7_withoutLowest 15 = .ok (.ldiv, 1) := by decide +kernel
theorem dX7_withoutLowest_16 : decode cX7_withoutLowest 16 = .ok (.lstore_n 3, 1) := by decide +kernel
theorem dX7_withoutLowest_17 : decode cX7_withoutLowest 17 = .ok (.iinc 5 1, 3) := by decide +kernel
theorem dX7_withoutLowest_20 : decode cX7_withoutLowest 20 = .ok (.goto (-15), 3) := by decide +kernel
theorem dX7_withoutLowest_23 : decode cX7_withoutLowest 23 = .ok (.lload_n 3, 1) := by decide +kernel
theorem dX7_withoutLowest_24 : decode cX7_withoutLowest 24 = .ok (.lreturn, 1) := by decide +kernel
theorem dX7_lowestGroup_0 : decode cX7_lowestGroup 0 = .ok (.lload_n 0, 1) := by decide +kernel
theorem dX7_lowestGroup_1 : decode cX7_lowestGroup 1 = .ok (.ldc2_w 9, 3) := by decide +kernel
theorem dX7_lowestGroup_4 : decode cX7_lowestGroup 4 = .ok (.lrem, 1) := by decide +kernel
theorem dX7_lowestGroup_5 : decode cX7_lowestGroup 5 = .ok (.l2i, 1) := by decide +kernel
theorem dX7_lowestGroup_6 : decode cX7_lowestGroup 6 = .ok (.ireturn, 1) := by decide +kernel
set_option maxRecDepth 20000 in
theorem ggX7_succeeds_X7_adds : GoodIn wsX7_succeeds wsX7_adds := goodIn_r _ [4, 5, 6, 7, 8, 9, 10, 11, 12, 13, 14, 15, 16, 17, 18, 19, 20, 21, 114, 115, 116, 117] (by decide +kernel) (by decide +kernel)
set_option maxRecDepth 20000 in
theorem gX7_succeeds_X7_adds : GoodIn wsX7_succeeds (va_wsS RX7 11 yX7_adds wsX7_adds) := goodIn_app (goodIn_of _ (by decide +kernel)) ggX7_succeeds_X7_adds
set_option maxRecDepth 20000 in
theorem ggX7_succeeds_X7_removes : GoodIn wsX7_succeeds wsX7_removes := goodIn_r _ [24, 25, 26, 27, 11, 28, 13, 29, 30, 31, 32, 14, 19, 20, 33, 114, 115, 116, 117] (by decide +kernel) (by decide +kernel)
set_option maxRecDepth 20000 in
theorem gX7_succeeds_X7_removes : GoodIn wsX7_succeeds (va_wsS RX7 15 yX7_removes wsX7_removes) := goodIn_app (goodIn_of _ (by decide +kernel)) ggX7_succeeds_X7_removes
set_option maxRecDepth 20000 in
theorem ggX7_succeeds_X6_ofBalancedPaths : GoodIn wsX7_succeeds wsX6_ofBalancedPaths := goodIn_r _ [37, 38, 39, 40, 36, 41, 42, 43, 44, 45, 46, 47, 48, 49, 50, 51, 52, 11, 53, 20, 54, 55, 56, 57, 58, 59, 60, 61, 62, 63, 64, 65, 66, 67, 114, 115, 116, 117] (by decide +kernel) (by decide +kernel)
set_option maxRecDepth 20000 in
theorem gX7_succeeds_X6_ofBalancedPaths : GoodIn wsX7_succeeds (va_wsS RX7 19 yX6_ofBalancedPaths wsX6_ofBalancedPaths) := goodIn_app (goodIn_of _ (by decide +kernel)) ggX7_succeeds_X6_ofBalancedPaths
set_option maxRecDepth 20000 in
theorem ggX7_succeeds_X6_has : GoodIn wsX7_succeeds wsX6_has := goodIn_r _ [67, 54, 55, 36, 56] (by decide +kernel) (by decide +kernel)
set_option maxRecDepth 20000 in
theorem gX7_succeeds_X6_has : GoodIn wsX7_succeeds (va_wsS RX7 25 yX6_has wsX6_has) := goodIn_app (goodIn_of _ (by decide +kernel)) ggX7_succeeds_X6_has
set_option maxRecDepth 20000 in
theorem ggX7_succeeds_J13_bitCount_95d88 : GoodIn wsX7_succeeds wsJ13_bitCount_95d88 := goodIn_r _ [72, 73, 74, 75] (by decide +kernel) (by decide +kernel)
set_option maxRecDepth 20000 in
theorem gX7_succeeds_J13_bitCount_95d88 : GoodIn wsX7_succeeds (va_wsS RX7 29 yJ13_bitCount_95d88 wsJ13_bitCount_95d88) := goodIn_app (goodIn_of _ (by decide +kernel)) ggX7_succeeds_J13_bitCount_95d88
set_option maxRecDepth 20000 in
theorem ggX7_succeeds_X1_measure : GoodIn wsX7_succeeds wsX1_measure := goodIn_r _ [80, 81, 82, 83, 84, 85, 86, 87, 88, 89, 90, 91, 79, 92, 93, 94, 95, 51, 52, 11, 53, 20, 96, 97, 98, 99, 100, 101, 6, 102, 103, 104, 105, 106, 107, 108, 109, 110, 111, 58, 59, 60, 112, 62, 63, 64, 118, 119, 114, 115, 116, 117] (by decide +kernel) (by decide +kernel)
set_option maxRecDepth 20000 in
theorem gX7_succeeds_X1_measure : GoodIn wsX7_succeeds (wsV RX7 35 RX1 yX1_measure wsX1_measure) := goodIn_app (goodIn_of _ (by decide +kernel)) ggX7_succeeds_X1_measure
set_option maxRecDepth 20000 in
theorem ggX7_succeeds_X1_between : GoodIn wsX7_succeeds wsX1_between := goodIn_r _ [110, 86, 87, 118, 119] (by decide +kernel) (by decide +kernel)
set_option maxRecDepth 20000 in
theorem gX7_succeeds_X1_between : GoodIn wsX7_succeeds (wsV RX7 41 RX1 yX1_between wsX1_between) := goodIn_app (goodIn_of _ (by decide +kernel)) ggX7_succeeds_X1_between
theorem dX7_succeeds_0 : decode cX7_succeeds 0 = .ok (.iload_n 0, 1) := by decide +kernel
theorem dX7_succeeds_1 : decode cX7_succeeds 1 = .ok (.bipush 100, 2) := by decide +kernel
theorem dX7_succeeds_3 : decode cX7_succeeds 3 = .ok (.idiv, 1) := by decide +kernel
theorem dX7_succeeds_4 : decode cX7_succeeds 4 = .ok (.bipush 10, 2) := by decide +kernel
theorem dX7_succeeds_6 : decode cX7_succeeds 6 = .ok (.irem, 1) := by decide +kernel
theorem dX7_succeeds_7 : decode cX7_succeeds 7 = .ok (.istore 4, 2) := by decide +kernel
theorem dX7_succeeds_9 : decode cX7_succeeds 9 = .ok (.iload_n 0, 1) := by decide +kernel
theorem dX7_succeeds_10 : decode cX7_succeeds 10 = .ok (.bipush 10, 2) := by decide +kernel
theorem dX7_succeeds_12 : decode cX7_succeeds 12 = .ok (.idiv, 1) := by decide +kernel
theorem dX7_succeeds_13 : decode cX7_succeeds 13 = .ok (.bipush 10, 2) := by decide +kernel
theorem dX7_succeeds_15 : decode cX7_succeeds 15 = .ok (.irem, 1) := by decide +kernel
theorem dX7_succeeds_16 : decode cX7_succeeds 16 = .ok (.istore 5, 2) := by decide +kernel
theorem dX7_succeeds_18 : decode cX7_succeeds 18 = .ok (.iload_n 0, 1) := by decide +kernel
theorem dX7_succeeds_19 : decode cX7_succeeds 19 = .ok (.bipush 10, 2) := by decide +kernel
theorem dX7_succeeds_21 : decode cX7_succeeds 21 = .ok (.irem, 1) := by decide +kernel
theorem dX7_succeeds_22 : decode cX7_succeeds 22 = .ok (.istore 6, 2) := by decide +kernel
theorem dX7_succeeds_24 : decode cX7_succeeds 24 = .ok (.iload_n 0, 1) := by decide +kernel
theorem dX7_succeeds_25 : decode cX7_succeeds 25 = .ok (.sipush 1000, 3) := by decide +kernel
theorem dX7_succeeds_28 : decode cX7_succeeds 28 = .ok (.idiv, 1) := by decide +kernel
theorem dX7_succeeds_29 : decode cX7_succeeds 29 = .ok (.tableswitch 192 1 5 #[35, 47, 73, 123, 153], 35) := by decide +kernel
theorem dX7_succeeds_64 : decode cX7_succeeds 64 = .ok (.aload_n 1, 1) := by decide +kernel
theorem dX7_succeeds_65 : decode cX7_succeeds 65 = .ok (.iload_n 2, 1) := by decide +kernel
theorem dX7_succeeds_66 : decode cX7_succeeds 66 = .ok (.iload 4, 2) := by decide +kernel
theorem dX7_succeeds_68 : decode cX7_succeeds 68 = .ok (.iload 5, 2) := by decide +kernel
theorem dX7_succeeds_70 : decode cX7_succeeds 70 = .ok (.iload 6, 2) := by decide +kernel
theorem dX7_succeeds_72 : decode cX7_succeeds 72 = .ok (.invokestatic 11, 3) := by decide +kernel
theorem dX7_succeeds_75 : decode cX7_succeeds 75 = .ok (.ireturn, 1) := by decide +kernel
theorem dX7_succeeds_76 : decode cX7_succeeds 76 = .ok (.iload 4, 2) := by decide +kernel
theorem dX7_succeeds_78 : decode cX7_succeeds 78 = .ok (.ifCond .ne 22, 3) := by decide +kernel
theorem dX7_succeeds_81 : decode cX7_succeeds 81 = .ok (.aload_n 1, 1) := by decide +kernel
theorem dX7_succeeds_82 : decode cX7_succeeds 82 = .ok (.bipush 10, 2) := by decide +kernel
theorem dX7_succeeds_84 : decode cX7_succeeds 84 = .ok (.iload 5, 2) := by decide +kernel
theorem dX7_succeeds_86 : decode cX7_succeeds 86 = .ok (.imul, 1) := by decide +kernel
theorem dX7_succeeds_87 : decode cX7_succeeds 87 = .ok (.iload 6, 2) := by decide +kernel
theorem dX7_succeeds_89 : decode cX7_succeeds 89 = .ok (.iadd, 1) := by decide +kernel
theorem dX7_succeeds_90 : decode cX7_succeeds 90 = .ok (.invokestatic 15, 3) := by decide +kernel
theorem dX7_succeeds_93 : decode cX7_succeeds 93 = .ok (.ifCond .eq 7, 3) := by decide +kernel
theorem dX7_succeeds_96 : decode cX7_succeeds 96 = .ok (.iconst 1, 1) := by decide +kernel
theorem dX7_succeeds_97 : decode cX7_succeeds 97 = .ok (.goto 4, 3) := by decide +kernel
theorem dX7_succeeds_100 : decode cX7_succeeds 100 = .ok (.iconst 0, 1) := by decide +kernel
theorem dX7_succeeds_101 : decode cX7_succeeds 101 = .ok (.ireturn, 1) := by decide +kernel
theorem dX7_succeeds_102 : decode cX7_succeeds 102 = .ok (.iload 4, 2) := by decide +kernel
theorem dX7_succeeds_104 : decode cX7_succeeds 104 = .ok (.iload_n 2, 1) := by decide +kernel
theorem dX7_succeeds_105 : decode cX7_succeeds 105 = .ok (.if_icmp .ge 45, 3) := by decide +kernel
theorem dX7_succeeds_108 : decode cX7_succeeds 108 = .ok (.iload 5, 2) := by decide +kernel
theorem dX7_succeeds_110 : decode cX7_succeeds 110 = .ok (.iload_n 2, 1) := by decide +kernel
theorem dX7_succeeds_111 : decode cX7_succeeds 111 = .ok (.if_icmp .ge 39, 3) := by decide +kernel
theorem dX7_succeeds_114 : decode cX7_succeeds 114 = .ok (.iload 6, 2) := by decide +kernel
theorem dX7_succeeds_116 : decode cX7_succeeds 116 = .ok (.iconst 1, 1) := by decide +kernel
theorem dX7_succeeds_117 : decode cX7_succeeds 117 = .ok (.if_icmp .gt 33, 3) := by decide +kernel
theorem dX7_succeeds_120 : decode cX7_succeeds 120 = .ok (.aload_n 1, 1) := by decide +kernel
theorem dX7_succeeds_121 : decode cX7_succeeds 121 = .ok (.iload_n 2, 1) := by decide +kernel
theorem dX7_succeeds_122 : decode cX7_succeeds 122 = .ok (.invokestatic 19, 3) := by decide +kernel
theorem dX7_succeeds_125 : decode cX7_succeeds 125 = .ok (.iload 4, 2) := by decide +kernel
theorem dX7_succeeds_127 : decode cX7_succeeds 127 = .ok (.iload 5, 2) := by decide +kernel
theorem dX7_succeeds_129 : decode cX7_succeeds 129 = .ok (.invokestatic 25, 3) := by decide +kernel
theorem dX7_succeeds_132 : decode cX7_succeeds 132 = .ok (.iload 6, 2) := by decide +kernel
theorem dX7_succeeds_134 : decode cX7_succeeds 134 = .ok (.iconst 1, 1) := by decide +kernel
theorem dX7_succeeds_135 : decode cX7_succeeds 135 = .ok (.if_icmp .ne 7, 3) := by decide +kernel
theorem dX7_succeeds_138 : decode cX7_succeeds 138 = .ok (.iconst 1, 1) := by decide +kernel
theorem dX7_succeeds_139 : decode cX7_succeeds 139 = .ok (.goto 4, 3) := by decide +kernel
theorem dX7_succeeds_142 : decode cX7_succeeds 142 = .ok (.iconst 0, 1) := by decide +kernel
theorem dX7_succeeds_143 : decode cX7_succeeds 143 = .ok (.if_icmp .ne 7, 3) := by decide +kernel
theorem dX7_succeeds_146 : decode cX7_succeeds 146 = .ok (.iconst 1, 1) := by decide +kernel
theorem dX7_succeeds_147 : decode cX7_succeeds 147 = .ok (.goto 4, 3) := by decide +kernel
theorem dX7_succeeds_150 : decode cX7_succeeds 150 = .ok (.iconst 0, 1) := by decide +kernel
theorem dX7_succeeds_151 : decode cX7_succeeds 151 = .ok (.ireturn, 1) := by decide +kernel
theorem dX7_succeeds_152 : decode cX7_succeeds 152 = .ok (.iload 4, 2) := by decide +kernel
theorem dX7_succeeds_154 : decode cX7_succeeds 154 = .ok (.ifCond .ne 26, 3) := by decide +kernel
theorem dX7_succeeds_157 : decode cX7_succeeds 157 = .ok (.aload_n 1, 1) := by decide +kernel
theorem dX7_succeeds_158 : decode cX7_succeeds 158 = .ok (.iload_n 2, 1) := by decide +kernel
theorem dX7_succeeds_159 : decode cX7_succeeds 159 = .ok (.invokestatic 19, 3) := by decide +kernel
theorem dX7_succeeds_162 : decode cX7_succeeds 162 = .ok (.invokestatic 29, 3) := by decide +kernel
theorem dX7_succeeds_165 : decode cX7_succeeds 165 = .ok (.bipush 10, 2) := by decide +kernel
theorem dX7_succeeds_167 : decode cX7_succeeds 167 = .ok (.iload 5, 2) := by decide +kernel
theorem dX7_succeeds_169 : decode cX7_succeeds 169 = .ok (.imul, 1) := by decide +kernel
theorem dX7_succeeds_170 : decode cX7_succeeds 170 = .ok (.iload 6, 2) := by decide +kernel
theorem dX7_succeeds_172 : decode cX7_succeeds 172 = .ok (.iadd, 1) := by decide +kernel
theorem dX7_succeeds_173 : decode cX7_succeeds 173 = .ok (.if_icmp .ne 7, 3) := by decide +kernel
theorem dX7_succeeds_176 : decode cX7_succeeds 176 = .ok (.iconst 1, 1) := by decide +kernel
theorem dX7_succeeds_177 : decode cX7_succeeds 177 = .ok (.goto 4, 3) := by decide +kernel
theorem dX7_succeeds_180 : decode cX7_succeeds 180 = .ok (.iconst 0, 1) := by decide +kernel
theorem dX7_succeeds_181 : decode cX7_succeeds 181 = .ok (.ireturn, 1) := by decide +kernel
theorem dX7_succeeds_182 : decode cX7_succeeds 182 = .ok (.iload 4, 2) := by decide +kernel
theorem dX7_succeeds_184 : decode cX7_succeeds 184 = .ok (.iload_n 2, 1) := by decide +kernel
theorem dX7_succeeds_185 : decode cX7_succeeds 185 = .ok (.if_icmp .ge 9, 3) := by decide +kernel
theorem dX7_succeeds_188 : decode cX7_succeeds 188 = .ok (.iload 5, 2) := by decide +kernel
theorem dX7_succeeds_190 : decode cX7_succeeds 190 = .ok (.iload_n 2, 1) := by decide +kernel
theorem dX7_succeeds_191 : decode cX7_succeeds 191 = .ok (.if_icmp .lt 5, 3) := by decide +kernel
theorem dX7_succeeds_194 : decode cX7_succeeds 194 = .ok (.iconst 0, 1) := by decide +kernel
theorem dX7_succeeds_195 : decode cX7_succeeds 195 = .ok (.ireturn, 1) := by decide +kernel
theorem dX7_succeeds_196 : decode cX7_succeeds 196 = .ok (.aload_n 3, 1) := by decide +kernel
theorem dX7_succeeds_197 : decode cX7_succeeds 197 = .ok (.aload_n 1, 1) := by decide +kernel
theorem dX7_succeeds_198 : decode cX7_succeeds 198 = .ok (.iload_n 2, 1) := by decide +kernel
theorem dX7_succeeds_199 : decode cX7_succeeds 199 = .ok (.invokevirtual 35, 3) := by decide +kernel
theorem dX7_succeeds_202 : decode cX7_succeeds 202 = .ok (.aload_n 3, 1) := by decide +kernel
theorem dX7_succeeds_203 : decode cX7_succeeds 203 = .ok (.iload 4, 2) := by decide +kernel
theorem dX7_succeeds_205 : decode cX7_succeeds 205 = .ok (.iload 5, 2) := by decide +kernel
theorem dX7_succeeds_207 : decode cX7_succeeds 207 = .ok (.invokevirtual 41, 3) := by decide +kernel
theorem dX7_succeeds_210 : decode cX7_succeeds 210 = .ok (.iload 6, 2) := by decide +kernel
theorem dX7_succeeds_212 : decode cX7_succeeds 212 = .ok (.if_icmp .ne 7, 3) := by decide +kernel
theorem dX7_succeeds_215 : decode cX7_succeeds 215 = .ok (.iconst 1, 1) := by decide +kernel
theorem dX7_succeeds_216 : decode cX7_succeeds 216 = .ok (.goto 4, 3) := by decide +kernel
theorem dX7_succeeds_219 : decode cX7_succeeds 219 = .ok (.iconst 0, 1) := by decide +kernel
theorem dX7_succeeds_220 : decode cX7_succeeds 220 = .ok (.ireturn, 1) := by decide +kernel
theorem dX7_succeeds_221 : decode cX7_succeeds 221 = .ok (.iconst 0, 1) := by decide +kernel
theorem dX7_succeeds_222 : decode cX7_succeeds 222 = .ok (.ireturn, 1) := by decide +kernel
set_option maxRecDepth 20000 in
theorem ggX7_adds_X8_isLabel : GoodIn wsX7_adds wsX8_isLabel := goodIn_r _ [3] (by decide +kernel) (by decide +kernel)
set_option maxRecDepth 20000 in
theorem gX7_adds_X8_isLabel_n45 : GoodIn wsX7_adds (wsX8_isLabel) := ggX7_adds_X8_isLabel
set_option maxRecDepth 20000 in
theorem ggX7_adds_X2_isFull : GoodIn wsX7_adds wsX2_isFull := goodIn_r _ [8, 9, 10, 18, 19, 20, 21] (by decide +kernel) (by decide +kernel)
set_option maxRecDepth 20000 in
theorem gX7_adds_X2_isFull : GoodIn wsX7_adds (wsV RX7 51 RX2 yX2_isFull wsX2_isFull) := goodIn_app (goodIn_of _ (by decide +kernel)) ggX7_adds_X2_isFull
set_option maxRecDepth 20000 in
theorem ggX7_adds_X2_put : GoodIn wsX7_adds wsX2_put := goodIn_r _ [14, 10, 9, 15, 16, 17, 5, 6, 7, 8, 18, 19, 20, 21] (by decide +kernel) (by decide +kernel)
set_option maxRecDepth 20000 in
theorem gX7_adds_X2_put : GoodIn wsX7_adds (wsV RX7 57 RX2 yX2_put wsX2_put) := goodIn_app (goodIn_of _ (by decide +kernel)) ggX7_adds_X2_put
theorem dX7_adds_0 : decode cX7_adds 0 = .ok (.iload_n 2, 1) := by decide +kernel
theorem dX7_adds_1 : decode cX7_adds 1 = .ok (.iload_n 1, 1) := by decide +kernel
theorem dX7_adds_2 : decode cX7_adds 2 = .ok (.if_icmp .ge 23, 3) := by decide +kernel
theorem dX7_adds_5 : decode cX7_adds 5 = .ok (.iload_n 3, 1) := by decide +kernel
theorem dX7_adds_6 : decode cX7_adds 6 = .ok (.iload_n 1, 1) := by decide +kernel
theorem dX7_adds_7 : decode cX7_adds 7 = .ok (.if_icmp .ge 18, 3) := by decide +kernel
theorem dX7_adds_10 : decode cX7_adds 10 = .ok (.iload 4, 2) := by decide +kernel
theorem dX7_adds_12 : decode cX7_adds 12 = .ok (.invokestatic 45, 3) := by decide +kernel
theorem dX7_adds_15 : decode cX7_adds 15 = .ok (.ifCond .eq 10, 3) := by decide +kernel
theorem dX7_adds_18 : decode cX7_adds 18 = .ok (.aload_n 0, 1) := by decide +kernel
theorem dX7_adds_19 : decode cX7_adds 19 = .ok (.invokevirtual 51, 3) := by decide +kernel
theorem dX7_adds_22 : decode cX7_adds 22 = .ok (.ifCond .eq 5, 3) := by decide +kernel
theorem dX7_adds_25 : decode cX7_adds 25 = .ok (.iconst 0, 1) := by decide +kernel
theorem dX7_adds_26 : decode cX7_adds 26 = .ok (.ireturn, 1) := by decide +kernel
theorem dX7_adds_27 : decode cX7_adds 27 = .ok (.aload_n 0, 1) := by decide +kernel
theorem dX7_adds_28 : decode cX7_adds 28 = .ok (.iload_n 2, 1) := by decide +kernel
theorem dX7_adds_29 : decode cX7_adds 29 = .ok (.iload_n 3, 1) := by decide +kernel
theorem dX7_adds_30 : decode cX7_adds 30 = .ok (.iload 4, 2) := by decide +kernel
theorem dX7_adds_32 : decode cX7_adds 32 = .ok (.invokevirtual 57, 3) := by decide +kernel
theorem dX7_adds_35 : decode cX7_adds 35 = .ok (.iconst 1, 1) := by decide +kernel
theorem dX7_adds_36 : decode cX7_adds 36 = .ok (.ireturn, 1) := by decide +kernel
set_option maxRecDepth 20000 in
theorem ggX7_removes_X2_holds : GoodIn wsX7_removes wsX2_holds := goodIn_r _ [5, 6, 15, 16, 17, 18] (by decide +kernel) (by decide +kernel)
set_option maxRecDepth 20000 in
theorem gX7_removes_X2_holds : GoodIn wsX7_removes (wsV RX7 61 RX2 yX2_holds wsX2_holds) := goodIn_app (goodIn_of _ (by decide +kernel)) ggX7_removes_X2_holds
set_option maxRecDepth 20000 in
theorem ggX7_removes_X2_drop : GoodIn wsX7_removes wsX2_drop := goodIn_r _ [10, 6, 11, 12, 13, 14, 2, 3, 4, 5, 15, 16, 17, 18] (by decide +kernel) (by decide +kernel)
set_option maxRecDepth 20000 in
theorem gX7_removes_X2_drop : GoodIn wsX7_removes (wsV RX7 64 RX2 yX2_drop wsX2_drop) := goodIn_app (goodIn_of _ (by decide +kernel)) ggX7_removes_X2_drop
theorem dX7_removes_0 : decode cX7_removes 0 = .ok (.aload_n 0, 1) := by decide +kernel
theorem dX7_removes_1 : decode cX7_removes 1 = .ok (.iload_n 1, 1) := by decide +kernel
theorem dX7_removes_2 : decode cX7_removes 2 = .ok (.invokevirtual 61, 3) := by decide +kernel
theorem dX7_removes_5 : decode cX7_removes 5 = .ok (.ifCond .ne 5, 3) := by decide +kernel
theorem dX7_removes_8 : decode cX7_removes 8 = .ok (.iconst 0, 1) := by decide +kernel
theorem dX7_removes_9 : decode cX7_removes 9 = .ok (.ireturn, 1) := by decide +kernel
theorem dX7_removes_10 : decode cX7_removes 10 = .ok (.aload_n 0, 1) := by decide +kernel
theorem dX7_removes_11 : decode cX7_removes 11 = .ok (.iload_n 1, 1) := by decide +kernel
theorem dX7_removes_12 : decode cX7_removes 12 = .ok (.invokevirtual 64, 3) := by decide +kernel
theorem dX7_removes_15 : decode cX7_removes 15 = .ok (.iconst 1, 1) := by decide +kernel
theorem dX7_removes_16 : decode cX7_removes 16 = .ok (.ireturn, 1) := by decide +kernel
set_option maxRecDepth 20000 in
theorem ggX8_init_X2_init : GoodIn wsX8_init wsX2_init := goodIn_r _ [33, 34, 2, 3, 35, 36, 37, 38, 39, 80, 81, 82, 83] (by decide +kernel) (by decide +kernel)
set_option maxRecDepth 20000 in
theorem gX8_init_X2_init : GoodIn wsX8_init (wsX2_init) := ggX8_init_X2_init
set_option maxRecDepth 20000 in
theorem ggX8_init_X1_init : GoodIn wsX8_init wsX1_init := goodIn_r _ [42, 43, 2, 3, 35, 44, 45, 84, 85] (by decide +kernel) (by decide +kernel)
set_option maxRecDepth 20000 in
theorem gX8_init_X1_init : GoodIn wsX8_init (wsX1_init) := ggX8_init_X1_init
set_option maxRecDepth 20000 in
theorem ggX8_init_X4_init : GoodIn wsX8_init wsX4_init := goodIn_r _ [48, 49, 2, 3, 50, 51, 7, 8, 52, 53, 54, 32, 33, 34, 35, 36, 37, 38, 39, 86, 87, 88, 80, 81, 82, 83] (by decide +kernel) (by decide +kernel)
set_option maxRecDepth 20000 in
theorem gX8_init_X4_init : GoodIn wsX8_init (wsX4_init) := ggX8_init_X4_init
set_option maxRecDepth 20000 in
theorem ggX8_init_X3_init : GoodIn wsX8_init wsX3_init := goodIn_r _ [57, 58, 2, 3, 35, 59, 60, 89, 90] (by decide +kernel) (by decide +kernel)
set_option maxRecDepth 20000 in
theorem gX8_init_X3_init : GoodIn wsX8_init (wsX3_init) := ggX8_init_X3_init
set_option maxRecDepth 20000 in
theorem ggX8_init_X5_init : GoodIn wsX8_init wsX5_init := goodIn_r _ [63, 64, 2, 3, 35, 65, 66, 67, 68, 91, 92, 93, 94] (by decide +kernel) (by decide +kernel)
set_option maxRecDepth 20000 in
theorem gX8_init_X5_init : GoodIn wsX8_init (wsX5_init) := ggX8_init_X5_init
theorem dX8_init_0 : decode cX8_init 0 = .ok (.aload_n 0, 1) := by decide +kernel
theorem dX8_init_1 : decode cX8_init 1 = .ok (.invokespecial 3, 3) := by decide +kernel
theorem dX8_init_4 : decode cX8_init 4 = .ok (.aload_n 0, 1) := by decide +kernel
theorem dX8_init_5 : decode cX8_init 5 = .ok (.iconst 1, 1) := by decide +kernel
theorem dX8_init_6 : decode cX8_init 6 = .ok (.putfield 9, 3) := by decide +kernel
theorem dX8_init_9 : decode cX8_init 9 = .ok (.aload_n 0, 1) := by decide +kernel
theorem dX8_init_10 : decode cX8_init 10 = .ok (.lconst 0, 1) := by decide +kernel
theorem dX8_init_11 : decode cX8_init 11 = .ok (.putfield 13, 3) := by decide +kernel
theorem dX8_init_14 : decode cX8_init 14 = .ok (.aload_n 0, 1) := by decide +kernel
theorem dX8_init_15 : decode cX8_init 15 = .ok (.new 17, 3) := by decide +kernel
theorem dX8_init_18 : decode cX8_init 18 = .ok (.dup, 1) := by decide +kernel
theorem dX8_init_19 : decode cX8_init 19 = .ok (.bipush 16, 2) := by decide +kernel
theorem dX8_init_21 : decode cX8_init 21 = .ok (.invokespecial 19, 3) := by decide +kernel
theorem dX8_init_24 : decode cX8_init 24 = .ok (.putfield 22, 3) := by decide +kernel
theorem dX8_init_27 : decode cX8_init 27 = .ok (.aload_n 0, 1) := by decide +kernel
theorem dX8_init_28 : decode cX8_init 28 = .ok (.new 17, 3) := by decide +kernel
theorem dX8_init_31 : decode cX8_init 31 = .ok (.dup, 1) := by decide +kernel
theorem dX8_init_32 : decode cX8_init 32 = .ok (.bipush 16, 2) := by decide +kernel
theorem dX8_init_34 : decode cX8_init 34 = .ok (.invokespecial 19, 3) := by decide +kernel
theorem dX8_init_37 : decode cX8_init 37 = .ok (.putfield 26, 3) := by decide +kernel
theorem dX8_init_40 : decode cX8_init 40 = .ok (.aload_n 0, 1) := by decide +kernel
theorem dX8_init_41 : decode cX8_init 41 = .ok (.new 17, 3) := by decide +kernel
theorem dX8_init_44 : decode cX8_init 44 = .ok (.dup, 1) := by decide +kernel
theorem dX8_init_45 : decode cX8_init 45 = .ok (.bipush 32, 2) := by decide +kernel
theorem dX8_init_47 : decode cX8_init 47 = .ok (.invokespecial 19, 3) := by decide +kernel
theorem dX8_init_50 : decode cX8_init 50 = .ok (.putfield 29, 3) := by decide +kernel
theorem dX8_init_53 : decode cX8_init 53 = .ok (.aload_n 0, 1) := by decide +kernel
theorem dX8_init_54 : decode cX8_init 54 = .ok (.new 32, 3) := by decide +kernel
theorem dX8_init_57 : decode cX8_init 57 = .ok (.dup, 1) := by decide +kernel
theorem dX8_init_58 : decode cX8_init 58 = .ok (.invokespecial 34, 3) := by decide +kernel
theorem dX8_init_61 : decode cX8_init 61 = .ok (.putfield 35, 3) := by decide +kernel
theorem dX8_init_64 : decode cX8_init 64 = .ok (.aload_n 0, 1) := by decide +kernel
theorem dX8_init_65 : decode cX8_init 65 = .ok (.new 39, 3) := by decide +kernel
theorem dX8_init_68 : decode cX8_init 68 = .ok (.dup, 1) := by decide +kernel
theorem dX8_init_69 : decode cX8_init 69 = .ok (.invokespecial 41, 3) := by decide +kernel
theorem dX8_init_72 : decode cX8_init 72 = .ok (.putfield 42, 3) := by decide +kernel
theorem dX8_init_75 : decode cX8_init 75 = .ok (.aload_n 0, 1) := by decide +kernel
theorem dX8_init_76 : decode cX8_init 76 = .ok (.iconst 2, 1) := by decide +kernel
theorem dX8_init_77 : decode cX8_init 77 = .ok (.anewarray 17, 3) := by decide +kernel
theorem dX8_init_80 : decode cX8_init 80 = .ok (.putfield 46, 3) := by decide +kernel
theorem dX8_init_83 : decode cX8_init 83 = .ok (.iconst 0, 1) := by decide +kernel
theorem dX8_init_84 : decode cX8_init 84 = .ok (.istore_n 1, 1) := by decide +kernel
theorem dX8_init_85 : decode cX8_init 85 = .ok (.iload_n 1, 1) := by decide +kernel
theorem dX8_init_86 : decode cX8_init 86 = .ok (.iconst 2, 1) := by decide +kernel
theorem dX8_init_87 : decode cX8_init 87 = .ok (.if_icmp .ge 24, 3) := by decide +kernel
theorem dX8_init_90 : decode cX8_init 90 = .ok (.aload_n 0, 1) := by decide +kernel
theorem dX8_init_91 : decode cX8_init 91 = .ok (.getfield 46, 3) := by decide +kernel
theorem dX8_init_94 : decode cX8_init 94 = .ok (.iload_n 1, 1) := by decide +kernel
theorem dX8_init_95 : decode cX8_init 95 = .ok (.new 17, 3) := by decide +kernel
theorem dX8_init_98 : decode cX8_init 98 = .ok (.dup, 1) := by decide +kernel
theorem dX8_init_99 : decode cX8_init 99 = .ok (.bipush 16, 2) := by decide +kernel
theorem dX8_init_101 : decode cX8_init 101 = .ok (.invokespecial 19, 3) := by decide +kernel
theorem dX8_init_104 : decode cX8_init 104 = .ok (.aastore, 1) := by decide +kernel
theorem dX8_init_105 : decode cX8_init 105 = .ok (.iinc 1 1, 3) := by decide +kernel
theorem dX8_init_108 : decode cX8_init 108 = .ok (.goto (-23), 3) := by decide +kernel
theorem dX8_init_111 : decode cX8_init 111 = .ok (.aload_n 0, 1) := by decide +kernel
theorem dX8_init_112 : decode cX8_init 112 = .ok (.iconst 2, 1) := by decide +kernel
theorem dX8_init_113 : decode cX8_init 113 = .ok (.newarray .boolean, 2) := by decide +kernel
theorem dX8_init_115 : decode cX8_init 115 = .ok (.putfield 50, 3) := by decide +kernel
theorem dX8_init_118 : decode cX8_init 118 = .ok (.aload_n 0, 1) := by decide +kernel
theorem dX8_init_119 : decode cX8_init 119 = .ok (.new 54, 3) := by decide +kernel
theorem dX8_init_122 : decode cX8_init 122 = .ok (.dup, 1) := by decide +kernel
theorem dX8_init_123 : decode cX8_init 123 = .ok (.invokespecial 56, 3) := by decide +kernel
theorem dX8_init_126 : decode cX8_init 126 = .ok (.putfield 57, 3) := by decide +kernel
theorem dX8_init_129 : decode cX8_init 129 = .ok (.aload_n 0, 1) := by decide +kernel
theorem dX8_init_130 : decode cX8_init 130 = .ok (.new 61, 3) := by decide +kernel
theorem dX8_init_133 : decode cX8_init 133 = .ok (.dup, 1) := by decide +kernel
theorem dX8_init_134 : decode cX8_init 134 = .ok (.invokespecial 63, 3) := by decide +kernel
theorem dX8_init_137 : decode cX8_init 137 = .ok (.putfield 64, 3) := by decide +kernel
theorem dX8_init_140 : decode cX8_init 140 = .ok (.return_, 1) := by decide +kernel
set_option maxRecDepth 20000 in
theorem ggX8_append_X3_isFull : GoodIn wsX8_append wsX3_isFull := goodIn_r _ [7, 8, 26, 27] (by decide +kernel) (by decide +kernel)
set_option maxRecDepth 20000 in
theorem gX8_append_X3_isFull : GoodIn wsX8_append (wsV RX8 68 RX3 yX3_isFull wsX3_isFull) := goodIn_app (goodIn_of _ (by decide +kernel)) ggX8_append_X3_isFull
set_option maxRecDepth 20000 in
theorem ggX8_append_X3_put : GoodIn wsX8_append wsX3_put := goodIn_r _ [12, 13, 8, 14, 4, 5, 6, 7, 26, 27] (by decide +kernel) (by decide +kernel)
set_option maxRecDepth 20000 in
theorem gX8_append_X3_put : GoodIn wsX8_append (wsV RX8 72 RX3 yX3_put wsX3_put) := goodIn_app (goodIn_of _ (by decide +kernel)) ggX8_append_X3_put
theorem dX8_append_0 : decode cX8_append 0 = .ok (.iload_n 1, 1) := by decide +kernel
theorem dX8_append_1 : decode cX8_append 1 = .ok (.ifCond .lt 10, 3) := by decide +kernel
theorem dX8_append_4 : decode cX8_append 4 = .ok (.iload_n 1, 1) := by decide +kernel
theorem dX8_append_5 : decode cX8_append 5 = .ok (.sipush 255, 3) := by decide +kernel
theorem dX8_append_8 : decode cX8_append 8 = .ok (.if_icmp .le 6, 3) := by decide +kernel
theorem dX8_append_11 : decode cX8_append 11 = .ok (.bipush (-2), 2) := by decide +kernel
theorem dX8_append_13 : decode cX8_append 13 = .ok (.ireturn, 1) := by decide +kernel
theorem dX8_append_14 : decode cX8_append 14 = .ok (.aload_n 0, 1) := by decide +kernel
theorem dX8_append_15 : decode cX8_append 15 = .ok (.getfield 57, 3) := by decide +kernel
theorem dX8_append_18 : decode cX8_append 18 = .ok (.invokevirtual 68, 3) := by decide +kernel
theorem dX8_append_21 : decode cX8_append 21 = .ok (.ifCond .eq 6, 3) := by decide +kernel
theorem dX8_append_24 : decode cX8_append 24 = .ok (.bipush (-4), 2) := by decide +kernel
theorem dX8_append_26 : decode cX8_append 26 = .ok (.ireturn, 1) := by decide +kernel
theorem dX8_append_27 : decode cX8_append 27 = .ok (.aload_n 0, 1) := by decide +kernel
theorem dX8_append_28 : decode cX8_append 28 = .ok (.getfield 57, 3) := by decide +kernel
theorem dX8_append_31 : decode cX8_append 31 = .ok (.iload_n 1, 1) := by decide +kernel
theorem dX8_append_32 : decode cX8_append 32 = .ok (.invokevirtual 72, 3) := by decide +kernel
theorem dX8_append_35 : decode cX8_append 35 = .ok (.aload_n 0, 1) := by decide +kernel
theorem dX8_append_36 : decode cX8_append 36 = .ok (.getfield 57, 3) := by decide +kernel
theorem dX8_append_39 : decode cX8_append 39 = .ok (.getfield 75, 3) := by decide +kernel
theorem dX8_append_42 : decode cX8_append 42 = .ok (.ireturn, 1) := by decide +kernel
theorem dX8_clearText_0 : decode cX8_clearText 0 = .ok (.aload_n 0, 1) := by decide +kernel
theorem dX8_clearText_1 : decode cX8_clearText 1 = .ok (.getfield 57, 3) := by decide +kernel
theorem dX8_clearText_4 : decode cX8_clearText 4 = .ok (.getfield 75, 3) := by decide +kernel
theorem dX8_clearText_7 : decode cX8_clearText 7 = .ok (.istore_n 1, 1) := by decide +kernel
theorem dX8_clearText_8 : decode cX8_clearText 8 = .ok (.aload_n 0, 1) := by decide +kernel
theorem dX8_clearText_9 : decode cX8_clearText 9 = .ok (.getfield 57, 3) := by decide +kernel
theorem dX8_clearText_12 : decode cX8_clearText 12 = .ok (.iconst 0, 1) := by decide +kernel
theorem dX8_clearText_13 : decode cX8_clearText 13 = .ok (.putfield 75, 3) := by decide +kernel
theorem dX8_clearText_16 : decode cX8_clearText 16 = .ok (.iload_n 1, 1) := by decide +kernel
theorem dX8_clearText_17 : decode cX8_clearText 17 = .ok (.ireturn, 1) := by decide +kernel
set_option maxRecDepth 20000 in
theorem ggX8_errorPosition_X3_firstFault : GoodIn wsX8_errorPosition wsX3_firstFault := goodIn_r _ [6, 7, 8, 9, 10, 5, 11, 12, 13, 14, 15, 16, 17, 18, 19, 20, 32, 33] (by decide +kernel) (by decide +kernel)
set_option maxRecDepth 20000 in
theorem gX8_errorPosition_X3_firstFault : GoodIn wsX8_errorPosition (wsV RX8 78 RX3 yX3_firstFault wsX3_firstFault) := goodIn_app (goodIn_of _ (by decide +kernel)) ggX8_errorPosition_X3_firstFault
theorem dX8_errorPosition_0 : decode cX8_errorPosition 0 = .ok (.aload_n 0, 1) := by decide +kernel
theorem dX8_errorPosition_1 : decode cX8_errorPosition 1 = .ok (.getfield 57, 3) := by decide +kernel
theorem dX8_errorPosition_4 : decode cX8_errorPosition 4 = .ok (.invokevirtual 78, 3) := by decide +kernel
theorem dX8_errorPosition_7 : decode cX8_errorPosition 7 = .ok (.ireturn, 1) := by decide +kernel
set_option maxRecDepth 20000 in
theorem ggX8_load_X3_firstFault : GoodIn wsX8_load wsX3_firstFault := goodIn_r _ [11, 12, 13, 14, 15, 10, 16, 17, 18, 19, 20, 21, 22, 23, 24, 25, 66, 67] (by decide +kernel) (by decide +kernel)
