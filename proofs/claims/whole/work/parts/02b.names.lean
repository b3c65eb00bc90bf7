theorem dX0_init_0 : decode cX0_init 0 = .ok (.aload_n 0, 1) := by decide +kernel
theorem dX0_init_1 : decode cX0_init 1 = .ok (.invokespecial 3, 3) := by decide +kernel
theorem dX0_init_4 : decode cX0_init 4 = .ok (.aload_n 0, 1) := by decide +kernel
theorem dX0_init_5 : decode cX0_init 5 = .ok (.bipush 8, 2) := by decide +kernel
theorem dX0_init_7 : decode cX0_init 7 = .ok (.newarray .int, 2) := by decide +kernel
theorem dX0_init_9 : decode cX0_init 9 = .ok (.putfield 9, 3) := by decide +kernel
theorem dX0_init_12 : decode cX0_init 12 = .ok (.aload_n 0, 1) := by decide +kernel
theorem dX0_init_13 : decode cX0_init 13 = .ok (.bipush 40, 2) := by decide +kernel
theorem dX0_init_15 : decode cX0_init 15 = .ok (.newarray .int, 2) := by decide +kernel
theorem dX0_init_17 : decode cX0_init 17 = .ok (.putfield 15, 3) := by decide +kernel
theorem dX0_init_20 : decode cX0_init 20 = .ok (.aload_n 0, 1) := by decide +kernel
theorem dX0_init_21 : decode cX0_init 21 = .ok (.bipush 40, 2) := by decide +kernel
theorem dX0_init_23 : decode cX0_init 23 = .ok (.newarray .int, 2) := by decide +kernel
theorem dX0_init_25 : decode cX0_init 25 = .ok (.putfield 18, 3) := by decide +kernel
theorem dX0_init_28 : decode cX0_init 28 = .ok (.aload_n 0, 1) := by decide +kernel
theorem dX0_init_29 : decode cX0_init 29 = .ok (.bipush 40, 2) := by decide +kernel
theorem dX0_init_31 : decode cX0_init 31 = .ok (.newarray .int, 2) := by decide +kernel
theorem dX0_init_33 : decode cX0_init 33 = .ok (.putfield 21, 3) := by decide +kernel
theorem dX0_init_36 : decode cX0_init 36 = .ok (.aload_n 0, 1) := by decide +kernel
theorem dX0_init_37 : decode cX0_init 37 = .ok (.bipush 40, 2) := by decide +kernel
theorem dX0_init_39 : decode cX0_init 39 = .ok (.newarray .int, 2) := by decide +kernel
theorem dX0_init_41 : decode cX0_init 41 = .ok (.putfield 24, 3) := by decide +kernel
theorem dX0_init_44 : decode cX0_init 44 = .ok (.aload_n 0, 1) := by decide +kernel
theorem dX0_init_45 : decode cX0_init 45 = .ok (.bipush 40, 2) := by decide +kernel
theorem dX0_init_47 : decode cX0_init 47 = .ok (.newarray .int, 2) := by decide +kernel
theorem dX0_init_49 : decode cX0_init 49 = .ok (.putfield 27, 3) := by decide +kernel
theorem dX0_init_52 : decode cX0_init 52 = .ok (.aload_n 0, 1) := by decide +kernel
theorem dX0_init_53 : decode cX0_init 53 = .ok (.bipush 40, 2) := by decide +kernel
theorem dX0_init_55 : decode cX0_init 55 = .ok (.newarray .int, 2) := by decide +kernel
theorem dX0_init_57 : decode cX0_init 57 = .ok (.putfield 30, 3) := by decide +kernel
theorem dX0_init_60 : decode cX0_init 60 = .ok (.return_, 1) := by decide +kernel
theorem dX0_hasNode_0 : decode cX0_hasNode 0 = .ok (.iload_n 1, 1) := by decide +kernel
theorem dX0_hasNode_1 : decode cX0_hasNode 1 = .ok (.ifCond .lt 15, 3) := by decide +kernel
theorem dX0_hasNode_4 : decode cX0_hasNode 4 = .ok (.iload_n 1, 1) := by decide +kernel
theorem dX0_hasNode_5 : decode cX0_hasNode 5 = .ok (.aload_n 0, 1) := by decide +kernel
theorem dX0_hasNode_6 : decode cX0_hasNode 6 = .ok (.getfield 33, 3) := by decide +kernel
theorem dX0_hasNode_9 : decode cX0_hasNode 9 = .ok (.if_icmp .ge 7, 3) := by decide +kernel
theorem dX0_hasNode_12 : decode cX0_hasNode 12 = .ok (.iconst 1, 1) := by decide +kernel
theorem dX0_hasNode_13 : decode cX0_hasNode 13 = .ok (.goto 4, 3) := by decide +kernel
theorem dX0_hasNode_16 : decode cX0_hasNode 16 = .ok (.iconst 0, 1) := by decide +kernel
theorem dX0_hasNode_17 : decode cX0_hasNode 17 = .ok (.ireturn, 1) := by decide +kernel
theorem dX0_hasTransistor_0 : decode cX0_hasTransistor 0 = .ok (.iload_n 1, 1) := by decide +kernel
theorem dX0_hasTransistor_1 : decode cX0_hasTransistor 1 = .ok (.ifCond .lt 15, 3) := by decide +kernel
theorem dX0_hasTransistor_4 : decode cX0_hasTransistor 4 = .ok (.iload_n 1, 1) := by decide +kernel
theorem dX0_hasTransistor_5 : decode cX0_hasTransistor 5 = .ok (.aload_n 0, 1) := by decide +kernel
theorem dX0_hasTransistor_6 : decode cX0_hasTransistor 6 = .ok (.getfield 37, 3) := by decide +kernel
theorem dX0_hasTransistor_9 : decode cX0_hasTransistor 9 = .ok (.if_icmp .ge 7, 3) := by decide +kernel
theorem dX0_hasTransistor_12 : decode cX0_hasTransistor 12 = .ok (.iconst 1, 1) := by decide +kernel
theorem dX0_hasTransistor_13 : decode cX0_hasTransistor 13 = .ok (.goto 4, 3) := by decide +kernel
theorem dX0_hasTransistor_16 : decode cX0_hasTransistor 16 = .ok (.iconst 0, 1) := by decide +kernel
theorem dX0_hasTransistor_17 : decode cX0_hasTransistor 17 = .ok (.ireturn, 1) := by decide +kernel
theorem dX0_isInput_0 : decode cX0_isInput 0 = .ok (.aload_n 0, 1) := by decide +kernel
theorem dX0_isInput_1 : decode cX0_isInput 1 = .ok (.getfield 40, 3) := by decide +kernel
theorem dX0_isInput_4 : decode cX0_isInput 4 = .ok (.iconst 1, 1) := by decide +kernel
theorem dX0_isInput_5 : decode cX0_isInput 5 = .ok (.iload_n 1, 1) := by decide +kernel
theorem dX0_isInput_6 : decode cX0_isInput 6 = .ok (.ishl, 1) := by decide +kernel
theorem dX0_isInput_7 : decode cX0_isInput 7 = .ok (.iand, 1) := by decide +kernel
theorem dX0_isInput_8 : decode cX0_isInput 8 = .ok (.ifCond .eq 7, 3) := by decide +kernel
theorem dX0_isInput_11 : decode cX0_isInput 11 = .ok (.iconst 1, 1) := by decide +kernel
theorem dX0_isInput_12 : decode cX0_isInput 12 = .ok (.goto 4, 3) := by decide +kernel
theorem dX0_isInput_15 : decode cX0_isInput 15 = .ok (.iconst 0, 1) := by decide +kernel
theorem dX0_isInput_16 : decode cX0_isInput 16 = .ok (.ireturn, 1) := by decide +kernel
set_option maxRecDepth 20000 in
theorem ggX0_appendInput_X0_appendUnknownNode : GoodIn wsX0_appendInput wsX0_appendUnknownNode := goodIn_r _ [7, 2, 8, 9, 10, 6, 11, 12, 13, 14, 15, 16, 17, 18, 19, 20, 21, 22, 23, 24, 25, 26] (by decide +kernel) (by decide +kernel)
set_option maxRecDepth 20000 in
theorem gX0_appendInput_X0_appendUnknownNode : GoodIn wsX0_appendInput (wsV RX0 43 RX0 yX0_appendUnknownNode wsX0_appendUnknownNode) := goodIn_app (goodIn_of _ (by decide +kernel)) ggX0_appendInput_X0_appendUnknownNode
theorem dX0_appendInput_0 : decode cX0_appendInput 0 = .ok (.aload_n 0, 1) := by decide +kernel
theorem dX0_appendInput_1 : decode cX0_appendInput 1 = .ok (.dup, 1) := by decide +kernel
theorem dX0_appendInput_2 : decode cX0_appendInput 2 = .ok (.getfield 40, 3) := by decide +kernel
theorem dX0_appendInput_5 : decode cX0_appendInput 5 = .ok (.iconst 1, 1) := by decide +kernel
theorem dX0_appendInput_6 : decode cX0_appendInput 6 = .ok (.aload_n 0, 1) := by decide +kernel
theorem dX0_appendInput_7 : decode cX0_appendInput 7 = .ok (.getfield 33, 3) := by decide +kernel
theorem dX0_appendInput_10 : decode cX0_appendInput 10 = .ok (.ishl, 1) := by decide +kernel
theorem dX0_appendInput_11 : decode cX0_appendInput 11 = .ok (.ior, 1) := by decide +kernel
theorem dX0_appendInput_12 : decode cX0_appendInput 12 = .ok (.putfield 40, 3) := by decide +kernel
theorem dX0_appendInput_15 : decode cX0_appendInput 15 = .ok (.aload_n 0, 1) := by decide +kernel
theorem dX0_appendInput_16 : decode cX0_appendInput 16 = .ok (.invokevirtual 43, 3) := by decide +kernel
theorem dX0_appendInput_19 : decode cX0_appendInput 19 = .ok (.ireturn, 1) := by decide +kernel
set_option maxRecDepth 20000 in
theorem ggX0_appendStorage_X0_appendUnknownNode : GoodIn wsX0_appendStorage wsX0_appendUnknownNode := goodIn_r _ [8, 2, 9, 10, 11, 7, 12, 13, 14, 15, 16, 17, 18, 19, 20, 21, 22, 23, 24, 25, 26, 27] (by decide +kernel) (by decide +kernel)
set_option maxRecDepth 20000 in
theorem gX0_appendStorage_X0_appendUnknownNode : GoodIn wsX0_appendStorage (wsV RX0 43 RX0 yX0_appendUnknownNode wsX0_appendUnknownNode) := goodIn_app (goodIn_of _ (by decide +kernel)) ggX0_appendStorage_X0_appendUnknownNode
theorem dX0_appendStorage_0 : decode cX0_appendStorage 0 = .ok (.aload_n 0, 1) := by decide +kernel
theorem dX0_appendStorage_1 : decode cX0_appendStorage 1 = .ok (.dup, 1) := by decide +kernel
theorem dX0_appendStorage_2 : decode cX0_appendStorage 2 = .ok (.getfield 47, 3) := by decide +kernel
theorem dX0_appendStorage_5 : decode cX0_appendStorage 5 = .ok (.iconst 1, 1) := by decide +kernel
theorem dX0_appendStorage_6 : decode cX0_appendStorage 6 = .ok (.aload_n 0, 1) := by decide +kernel
theorem dX0_appendStorage_7 : decode cX0_appendStorage 7 = .ok (.getfield 33, 3) := by decide +kernel
theorem dX0_appendStorage_10 : decode cX0_appendStorage 10 = .ok (.ishl, 1) := by decide +kernel
theorem dX0_appendStorage_11 : decode cX0_appendStorage 11 = .ok (.ior, 1) := by decide +kernel
theorem dX0_appendStorage_12 : decode cX0_appendStorage 12 = .ok (.putfield 47, 3) := by decide +kernel
theorem dX0_appendStorage_15 : decode cX0_appendStorage 15 = .ok (.iconst 1, 1) := by decide +kernel
theorem dX0_appendStorage_16 : decode cX0_appendStorage 16 = .ok (.istore_n 2, 1) := by decide +kernel
theorem dX0_appendStorage_17 : decode cX0_appendStorage 17 = .ok (.iload_n 2, 1) := by decide +kernel
theorem dX0_appendStorage_18 : decode cX0_appendStorage 18 = .ok (.iload_n 1, 1) := by decide +kernel
theorem dX0_appendStorage_19 : decode cX0_appendStorage 19 = .ok (.if_icmp .gt 24, 3) := by decide +kernel
theorem dX0_appendStorage_22 : decode cX0_appendStorage 22 = .ok (.aload_n 0, 1) := by decide +kernel
theorem dX0_appendStorage_23 : decode cX0_appendStorage 23 = .ok (.getfield 9, 3) := by decide +kernel
theorem dX0_appendStorage_26 : decode cX0_appendStorage 26 = .ok (.iload_n 2, 1) := by decide +kernel
theorem dX0_appendStorage_27 : decode cX0_appendStorage 27 = .ok (.dup2, 1) := by decide +kernel
theorem dX0_appendStorage_28 : decode cX0_appendStorage 28 = .ok (.iaload, 1) := by decide +kernel
theorem dX0_appendStorage_29 : decode cX0_appendStorage 29 = .ok (.iconst 1, 1) := by decide +kernel
theorem dX0_appendStorage_30 : decode cX0_appendStorage 30 = .ok (.aload_n 0, 1) := by decide +kernel
theorem dX0_appendStorage_31 : decode cX0_appendStorage 31 = .ok (.getfield 33, 3) := by decide +kernel
theorem dX0_appendStorage_34 : decode cX0_appendStorage 34 = .ok (.ishl, 1) := by decide +kernel
theorem dX0_appendStorage_35 : decode cX0_appendStorage 35 = .ok (.ior, 1) := by decide +kernel
theorem dX0_appendStorage_36 : decode cX0_appendStorage 36 = .ok (.iastore, 1) := by decide +kernel
theorem dX0_appendStorage_37 : decode cX0_appendStorage 37 = .ok (.iinc 2 1, 3) := by decide +kernel
theorem dX0_appendStorage_40 : decode cX0_appendStorage 40 = .ok (.goto (-23), 3) := by decide +kernel
theorem dX0_appendStorage_43 : decode cX0_appendStorage 43 = .ok (.aload_n 0, 1) := by decide +kernel
theorem dX0_appendStorage_44 : decode cX0_appendStorage 44 = .ok (.invokevirtual 43, 3) := by decide +kernel
theorem dX0_appendStorage_47 : decode cX0_appendStorage 47 = .ok (.ireturn, 1) := by decide +kernel
set_option maxRecDepth 20000 in
theorem ggX0_appendUnknownNode_X0_putValue : GoodIn wsX0_appendUnknownNode wsX0_putValue := goodIn_r _ [6, 7, 8, 9, 10, 11, 12, 13, 14, 15, 16, 17, 18, 19, 20, 21] (by decide +kernel) (by decide +kernel)
set_option maxRecDepth 20000 in
theorem gX0_appendUnknownNode_X0_putValue : GoodIn wsX0_appendUnknownNode (wsV RX0 50 RX0 yX0_putValue wsX0_putValue) := goodIn_app (goodIn_of _ (by decide +kernel)) ggX0_appendUnknownNode_X0_putValue
theorem dX0_appendUnknownNode_0 : decode cX0_appendUnknownNode 0 = .ok (.aload_n 0, 1) := by decide +kernel
theorem dX0_appendUnknownNode_1 : decode cX0_appendUnknownNode 1 = .ok (.getfield 33, 3) := by decide +kernel
theorem dX0_appendUnknownNode_4 : decode cX0_appendUnknownNode 4 = .ok (.istore_n 1, 1) := by decide +kernel
theorem dX0_appendUnknownNode_5 : decode cX0_appendUnknownNode 5 = .ok (.aload_n 0, 1) := by decide +kernel
theorem dX0_appendUnknownNode_6 : decode cX0_appendUnknownNode 6 = .ok (.dup, 1) := by decide +kernel
theorem dX0_appendUnknownNode_7 : decode cX0_appendUnknownNode 7 = .ok (.getfield 33, 3) := by decide +kernel
theorem dX0_appendUnknownNode_10 : decode cX0_appendUnknownNode 10 = .ok (.iconst 1, 1) := by decide +kernel
theorem dX0_appendUnknownNode_11 : decode cX0_appendUnknownNode 11 = .ok (.iadd, 1) := by decide +kernel
theorem dX0_appendUnknownNode_12 : decode cX0_appendUnknownNode 12 = .ok (.putfield 33, 3) := by decide +kernel
theorem dX0_appendUnknownNode_15 : decode cX0_appendUnknownNode 15 = .ok (.aload_n 0, 1) := by decide +kernel
theorem dX0_appendUnknownNode_16 : decode cX0_appendUnknownNode 16 = .ok (.iload_n 1, 1) := by decide +kernel
theorem dX0_appendUnknownNode_17 : decode cX0_appendUnknownNode 17 = .ok (.iconst 2, 1) := by decide +kernel
theorem dX0_appendUnknownNode_18 : decode cX0_appendUnknownNode 18 = .ok (.invokevirtual 50, 3) := by decide +kernel
theorem dX0_appendUnknownNode_21 : decode cX0_appendUnknownNode 21 = .ok (.iload_n 1, 1) := by decide +kernel
theorem dX0_appendUnknownNode_22 : decode cX0_appendUnknownNode 22 = .ok (.ireturn, 1) := by decide +kernel
theorem dX0_appendTransistor_0 : decode cX0_appendTransistor 0 = .ok (.aload_n 0, 1) := by decide +kernel
theorem dX0_appendTransistor_1 : decode cX0_appendTransistor 1 = .ok (.getfield 37, 3) := by decide +kernel
theorem dX0_appendTransistor_4 : decode cX0_appendTransistor 4 = .ok (.istore 6, 2) := by decide +kernel
theorem dX0_appendTransistor_6 : decode cX0_appendTransistor 6 = .ok (.aload_n 0, 1) := by decide +kernel
theorem dX0_appendTransistor_7 : decode cX0_appendTransistor 7 = .ok (.dup, 1) := by decide +kernel
theorem dX0_appendTransistor_8 : decode cX0_appendTransistor 8 = .ok (.getfield 37, 3) := by decide +kernel
theorem dX0_appendTransistor_11 : decode cX0_appendTransistor 11 = .ok (.iconst 1, 1) := by decide +kernel
theorem dX0_appendTransistor_12 : decode cX0_appendTransistor 12 = .ok (.iadd, 1) := by decide +kernel
theorem dX0_appendTransistor_13 : decode cX0_appendTransistor 13 = .ok (.putfield 37, 3) := by decide +kernel
theorem dX0_appendTransistor_16 : decode cX0_appendTransistor 16 = .ok (.aload_n 0, 1) := by decide +kernel
theorem dX0_appendTransistor_17 : decode cX0_appendTransistor 17 = .ok (.getfield 15, 3) := by decide +kernel
theorem dX0_appendTransistor_20 : decode cX0_appendTransistor 20 = .ok (.iload 6, 2) := by decide +kernel
theorem dX0_appendTransistor_22 : decode cX0_appendTransistor 22 = .ok (.iload_n 1, 1) := by decide +kernel
theorem dX0_appendTransistor_23 : decode cX0_appendTransistor 23 = .ok (.iastore, 1) := by decide +kernel
theorem dX0_appendTransistor_24 : decode cX0_appendTransistor 24 = .ok (.aload_n 0, 1) := by decide +kernel
theorem dX0_appendTransistor_25 : decode cX0_appendTransistor 25 = .ok (.getfield 18, 3) := by decide +kernel
theorem dX0_appendTransistor_28 : decode cX0_appendTransistor 28 = .ok (.iload 6, 2) := by decide +kernel
theorem dX0_appendTransistor_30 : decode cX0_appendTransistor 30 = .ok (.iload_n 2, 1) := by decide +kernel
theorem dX0_appendTransistor_31 : decode cX0_appendTransistor 31 = .ok (.iastore, 1) := by decide +kernel
theorem dX0_appendTransistor_32 : decode cX0_appendTransistor 32 = .ok (.aload_n 0, 1) := by decide +kernel
theorem dX0_appendTransistor_33 : decode cX0_appendTransistor 33 = .ok (.getfield 21, 3) := by decide +kernel
theorem dX0_appendTransistor_36 : decode cX0_appendTransistor 36 = .ok (.iload 6, 2) := by decide +kernel
theorem dX0_appendTransistor_38 : decode cX0_appendTransistor 38 = .ok (.iload_n 3, 1) := by decide +kernel
theorem dX0_appendTransistor_39 : decode cX0_appendTransistor 39 = .ok (.iastore, 1) := by decide +kernel
theorem dX0_appendTransistor_40 : decode cX0_appendTransistor 40 = .ok (.aload_n 0, 1) := by decide +kernel
theorem dX0_appendTransistor_41 : decode cX0_appendTransistor 41 = .ok (.getfield 24, 3) := by decide +kernel
theorem dX0_appendTransistor_44 : decode cX0_appendTransistor 44 = .ok (.iload 6, 2) := by decide +kernel
theorem dX0_appendTransistor_46 : decode cX0_appendTransistor 46 = .ok (.iload 4, 2) := by decide +kernel
theorem dX0_appendTransistor_48 : decode cX0_appendTransistor 48 = .ok (.iastore, 1) := by decide +kernel
theorem dX0_appendTransistor_49 : decode cX0_appendTransistor 49 = .ok (.aload_n 0, 1) := by decide +kernel
theorem dX0_appendTransistor_50 : decode cX0_appendTransistor 50 = .ok (.getfield 27, 3) := by decide +kernel
theorem dX0_appendTransistor_53 : decode cX0_appendTransistor 53 = .ok (.iload 6, 2) := by decide +kernel
theorem dX0_appendTransistor_55 : decode cX0_appendTransistor 55 = .ok (.iload 5, 2) := by decide +kernel
theorem dX0_appendTransistor_57 : decode cX0_appendTransistor 57 = .ok (.iastore, 1) := by decide +kernel
theorem dX0_appendTransistor_58 : decode cX0_appendTransistor 58 = .ok (.aload_n 0, 1) := by decide +kernel
theorem dX0_appendTransistor_59 : decode cX0_appendTransistor 59 = .ok (.getfield 30, 3) := by decide +kernel
theorem dX0_appendTransistor_62 : decode cX0_appendTransistor 62 = .ok (.iload 6, 2) := by decide +kernel
theorem dX0_appendTransistor_64 : decode cX0_appendTransistor 64 = .ok (.iconst 0, 1) := by decide +kernel
theorem dX0_appendTransistor_65 : decode cX0_appendTransistor 65 = .ok (.iastore, 1) := by decide +kernel
theorem dX0_appendTransistor_66 : decode cX0_appendTransistor 66 = .ok (.iload 6, 2) := by decide +kernel
theorem dX0_appendTransistor_68 : decode cX0_appendTransistor 68 = .ok (.ireturn, 1) := by decide +kernel
theorem dX0_valueOf_0 : decode cX0_valueOf 0 = .ok (.aload_n 0, 1) := by decide +kernel
theorem dX0_valueOf_1 : decode cX0_valueOf 1 = .ok (.getfield 54, 3) := by decide +kernel
theorem dX0_valueOf_4 : decode cX0_valueOf 4 = .ok (.iconst 1, 1) := by decide +kernel
theorem dX0_valueOf_5 : decode cX0_valueOf 5 = .ok (.iload_n 1, 1) := by decide +kernel
theorem dX0_valueOf_6 : decode cX0_valueOf 6 = .ok (.ishl, 1) := by decide +kernel
theorem dX0_valueOf_7 : decode cX0_valueOf 7 = .ok (.iand, 1) := by decide +kernel
theorem dX0_valueOf_8 : decode cX0_valueOf 8 = .ok (.ifCond .eq 7, 3) := by decide +kernel
theorem dX0_valueOf_11 : decode cX0_valueOf 11 = .ok (.iconst 1, 1) := by decide +kernel
theorem dX0_valueOf_12 : decode cX0_valueOf 12 = .ok (.goto 4, 3) := by decide +kernel
theorem dX0_valueOf_15 : decode cX0_valueOf 15 = .ok (.iconst 0, 1) := by decide +kernel
theorem dX0_valueOf_16 : decode cX0_valueOf 16 = .ok (.istore_n 2, 1) := by decide +kernel
theorem dX0_valueOf_17 : decode cX0_valueOf 17 = .ok (.aload_n 0, 1) := by decide +kernel
theorem dX0_valueOf_18 : decode cX0_valueOf 18 = .ok (.getfield 57, 3) := by decide +kernel
theorem dX0_valueOf_21 : decode cX0_valueOf 21 = .ok (.iconst 1, 1) := by decide +kernel
theorem dX0_valueOf_22 : decode cX0_valueOf 22 = .ok (.iload_n 1, 1) := by decide +kernel
theorem dX0_valueOf_23 : decode cX0_valueOf 23 = .ok (.ishl, 1) := by decide +kernel
theorem dX0_valueOf_24 : decode cX0_valueOf 24 = .ok (.iand, 1) := by decide +kernel
theorem dX0_valueOf_25 : decode cX0_valueOf 25 = .ok (.ifCond .eq 7, 3) := by decide +kernel
theorem dX0_valueOf_28 : decode cX0_valueOf 28 = .ok (.iconst 1, 1) := by decide +kernel
theorem dX0_valueOf_29 : decode cX0_valueOf 29 = .ok (.goto 4, 3) := by decide +kernel
theorem dX0_valueOf_32 : decode cX0_valueOf 32 = .ok (.iconst 0, 1) := by decide +kernel
theorem dX0_valueOf_33 : decode cX0_valueOf 33 = .ok (.istore_n 3, 1) := by decide +kernel
theorem dX0_valueOf_34 : decode cX0_valueOf 34 = .ok (.iload_n 2, 1) := by decide +kernel
theorem dX0_valueOf_35 : decode cX0_valueOf 35 = .ok (.ifCond .eq 9, 3) := by decide +kernel
theorem dX0_valueOf_38 : decode cX0_valueOf 38 = .ok (.iload_n 3, 1) := by decide +kernel
theorem dX0_valueOf_39 : decode cX0_valueOf 39 = .ok (.ifCond .eq 5, 3) := by decide +kernel
theorem dX0_valueOf_42 : decode cX0_valueOf 42 = .ok (.iconst 2, 1) := by decide +kernel
theorem dX0_valueOf_43 : decode cX0_valueOf 43 = .ok (.ireturn, 1) := by decide +kernel
theorem dX0_valueOf_44 : decode cX0_valueOf 44 = .ok (.iload_n 3, 1) := by decide +kernel
theorem dX0_valueOf_45 : decode cX0_valueOf 45 = .ok (.ifCond .eq 7, 3) := by decide +kernel
theorem dX0_valueOf_48 : decode cX0_valueOf 48 = .ok (.iconst 1, 1) := by decide +kernel
theorem dX0_valueOf_49 : decode cX0_valueOf 49 = .ok (.goto 4, 3) := by decide +kernel
theorem dX0_valueOf_52 : decode cX0_valueOf 52 = .ok (.iconst 0, 1) := by decide +kernel
theorem dX0_valueOf_53 : decode cX0_valueOf 53 = .ok (.ireturn, 1) := by decide +kernel
theorem dX0_putValue_0 : decode cX0_putValue 0 = .ok (.iconst 1, 1) := by decide +kernel
theorem dX0_putValue_1 : decode cX0_putValue 1 = .ok (.iload_n 1, 1) := by decide +kernel
theorem dX0_putValue_2 : decode cX0_putValue 2 = .ok (.ishl, 1) := by decide +kernel
theorem dX0_putValue_3 : decode cX0_putValue 3 = .ok (.istore_n 3, 1) := by decide +kernel
theorem dX0_putValue_4 : decode cX0_putValue 4 = .ok (.aload_n 0, 1) := by decide +kernel
theorem dX0_putValue_5 : decode cX0_putValue 5 = .ok (.iload_n 2, 1) := by decide +kernel
theorem dX0_putValue_6 : decode cX0_putValue 6 = .ok (.iconst 1, 1) := by decide +kernel
theorem dX0_putValue_7 : decode cX0_putValue 7 = .ok (.if_icmp .ne 14, 3) := by decide +kernel
theorem dX0_putValue_10 : decode cX0_putValue 10 = .ok (.aload_n 0, 1) := by decide +kernel
theorem dX0_putValue_11 : decode cX0_putValue 11 = .ok (.getfield 54, 3) := by decide +kernel
theorem dX0_putValue_14 : decode cX0_putValue 14 = .ok (.iload_n 3, 1) := by decide +kernel
theorem dX0_putValue_15 : decode cX0_putValue 15 = .ok (.iconst (-1), 1) := by decide +kernel
theorem dX0_putValue_16 : decode cX0_putValue 16 = .ok (.ixor, 1) := by decide +kernel
theorem dX0_putValue_17 : decode cX0_putValue 17 = .ok (.iand, 1) := by decide +kernel
theorem dX0_putValue_18 : decode cX0_putValue 18 = .ok (.goto 9, 3) := by decide +kernel
theorem dX0_putValue_21 : decode cX0_putValue 21 = .ok (.aload_n 0, 1) := by decide +kernel
theorem dX0_putValue_22 : decode cX0_putValue 22 = .ok (.getfield 54, 3) := by decide +kernel
theorem dX0_putValue_25 : decode cX0_putValue 25 = .ok (.iload_n 3, 1) := by decide +kernel
theorem dX0_putValue_26 : decode cX0_putValue 26 = .ok (.ior, 1) := by decide +kernel
theorem dX0_putValue_27 : decode cX0_putValue 27 = .ok (.putfield 54, 3) := by decide +kernel
theorem dX0_putValue_30 : decode cX0_putValue 30 = .ok (.aload_n 0, 1) := by decide +kernel
theorem dX0_putValue_31 : decode cX0_putValue 31 = .ok (.iload_n 2, 1) := by decide +kernel
theorem dX0_putValue_32 : decode cX0_putValue 32 = .ok (.ifCond .ne 14, 3) := by decide +kernel
theorem dX0_putValue_35 : decode cX0_putValue 35 = .ok (.aload_n 0, 1) := by decide +kernel
theorem dX0_putValue_36 : decode cX0_putValue 36 = .ok (.getfield 57, 3) := by decide +kernel
theorem dX0_putValue_39 : decode cX0_putValue 39 = .ok (.iload_n 3, 1) := by decide +kernel
theorem dX0_putValue_40 : decode cX0_putValue 40 = .ok (.iconst (-1), 1) := by decide +kernel
theorem dX0_putValue_41 : decode cX0_putValue 41 = .ok (.ixor, 1) := by decide +kernel
theorem dX0_putValue_42 : decode cX0_putValue 42 = .ok (.iand, 1) := by decide +kernel
theorem dX0_putValue_43 : decode cX0_putValue 43 = .ok (.goto 9, 3) := by decide +kernel
theorem dX0_putValue_46 : decode cX0_putValue 46 = .ok (.aload_n 0, 1) := by decide +kernel
theorem dX0_putValue_47 : decode cX0_putValue 47 = .ok (.getfield 57, 3) := by decide +kernel
theorem dX0_putValue_50 : decode cX0_putValue 50 = .ok (.iload_n 3, 1) := by decide +kernel
theorem dX0_putValue_51 : decode cX0_putValue 51 = .ok (.ior, 1) := by decide +kernel
theorem dX0_putValue_52 : decode cX0_putValue 52 = .ok (.putfield 57, 3) := by decide +kernel
theorem dX0_putValue_55 : decode cX0_putValue 55 = .ok (.return_, 1) := by decide +kernel
theorem dX0_nodesOfValue_0 : decode cX0_nodesOfValue 0 = .ok (.iload_n 1, 1) := by decide +kernel
theorem dX0_nodesOfValue_1 : decode cX0_nodesOfValue 1 = .ok (.iconst 2, 1) := by decide +kernel
theorem dX0_nodesOfValue_2 : decode cX0_nodesOfValue 2 = .ok (.if_icmp .ne 13, 3) := by decide +kernel
theorem dX0_nodesOfValue_5 : decode cX0_nodesOfValue 5 = .ok (.aload_n 0, 1) := by decide +kernel
theorem dX0_nodesOfValue_6 : decode cX0_nodesOfValue 6 = .ok (.getfield 54, 3) := by decide +kernel
theorem dX0_nodesOfValue_9 : decode cX0_nodesOfValue 9 = .ok (.aload_n 0, 1) := by decide +kernel
theorem dX0_nodesOfValue_10 : decode cX0_nodesOfValue 10 = .ok (.getfield 57, 3) := by decide +kernel
theorem dX0_nodesOfValue_13 : decode cX0_nodesOfValue 13 = .ok (.iand, 1) := by decide +kernel
theorem dX0_nodesOfValue_14 : decode cX0_nodesOfValue 14 = .ok (.ireturn, 1) := by decide +kernel
theorem dX0_nodesOfValue_15 : decode cX0_nodesOfValue 15 = .ok (.iload_n 1, 1) := by decide +kernel
theorem dX0_nodesOfValue_16 : decode cX0_nodesOfValue 16 = .ok (.iconst 1, 1) := by decide +kernel
theorem dX0_nodesOfValue_17 : decode cX0_nodesOfValue 17 = .ok (.if_icmp .ne 17, 3) := by decide +kernel
theorem dX0_nodesOfValue_20 : decode cX0_nodesOfValue 20 = .ok (.aload_n 0, 1) := by decide +kernel
theorem dX0_nodesOfValue_21 : decode cX0_nodesOfValue 21 = .ok (.getfield 57, 3) := by decide +kernel
theorem dX0_nodesOfValue_24 : decode cX0_nodesOfValue 24 = .ok (.aload_n 0, 1) := by decide +kernel
theorem dX0_nodesOfValue_25 : decode cX0_nodesOfValue 25 = .ok (.getfield 54, 3) := by decide +kernel
theorem dX0_nodesOfValue_28 : decode cX0_nodesOfValue 28 = .ok (.iconst (-1), 1) := by decide +kernel
theorem dX0_nodesOfValue_29 : decode cX0_nodesOfValue 29 = .ok (.ixor, 1) := by decide +kernel
theorem dX0_nodesOfValue_30 : decode cX0_nodesOfValue 30 = .ok (.iand, 1) := by decide +kernel
theorem dX0_nodesOfValue_31 : decode cX0_nodesOfValue 31 = .ok (.goto 14, 3) := by decide +kernel
theorem dX0_nodesOfValue_34 : decode cX0_nodesOfValue 34 = .ok (.aload_n 0, 1) := by decide +kernel
theorem dX0_nodesOfValue_35 : decode cX0_nodesOfValue 35 = .ok (.getfield 54, 3) := by decide +kernel
theorem dX0_nodesOfValue_38 : decode cX0_nodesOfValue 38 = .ok (.aload_n 0, 1) := by decide +kernel
theorem dX0_nodesOfValue_39 : decode cX0_nodesOfValue 39 = .ok (.getfield 57, 3) := by decide +kernel
theorem dX0_nodesOfValue_42 : decode cX0_nodesOfValue 42 = .ok (.iconst (-1), 1) := by decide +kernel
theorem dX0_nodesOfValue_43 : decode cX0_nodesOfValue 43 = .ok (.ixor, 1) := by decide +kernel
theorem dX0_nodesOfValue_44 : decode cX0_nodesOfValue 44 = .ok (.iand, 1) := by decide +kernel
theorem dX0_nodesOfValue_45 : decode cX0_nodesOfValue 45 = .ok (.ireturn, 1) := by decide +kernel
theorem dX0_hasValuesOf_0 : decode cX0_hasValuesOf 0 = .ok (.aload_n 0, 1) := by decide +kernel
theorem dX0_hasValuesOf_1 : decode cX0_hasValuesOf 1 = .ok (.getfield 54, 3) := by decide +kernel
theorem dX0_hasValuesOf_4 : decode cX0_hasValuesOf 4 = .ok (.aload_n 1, 1) := by decide +kernel
theorem dX0_hasValuesOf_5 : decode cX0_hasValuesOf 5 = .ok (.getfield 54, 3) := by decide +kernel
theorem dX0_hasValuesOf_8 : decode cX0_hasValuesOf 8 = .ok (.if_icmp .ne 18, 3) := by decide +kernel
theorem dX0_hasValuesOf_11 : decode cX0_hasValuesOf 11 = .ok (.aload_n 0, 1) := by decide +kernel
theorem dX0_hasValuesOf_12 : decode cX0_hasValuesOf 12 = .ok (.getfield 57, 3) := by decide +kernel
theorem dX0_hasValuesOf_15 : decode cX0_hasValuesOf 15 = .ok (.aload_n 1, 1) := by decide +kernel
theorem dX0_hasValuesOf_16 : decode cX0_hasValuesOf 16 = .ok (.getfield 57, 3) := by decide +kernel
theorem dX0_hasValuesOf_19 : decode cX0_hasValuesOf 19 = .ok (.if_icmp .ne 7, 3) := by decide +kernel
theorem dX0_hasValuesOf_22 : decode cX0_hasValuesOf 22 = .ok (.iconst 1, 1) := by decide +kernel
theorem dX0_hasValuesOf_23 : decode cX0_hasValuesOf 23 = .ok (.goto 4, 3) := by decide +kernel
theorem dX0_hasValuesOf_26 : decode cX0_hasValuesOf 26 = .ok (.iconst 0, 1) := by decide +kernel
theorem dX0_hasValuesOf_27 : decode cX0_hasValuesOf 27 = .ok (.ireturn, 1) := by decide +kernel
set_option maxRecDepth 20000 in
theorem ggX0_forgetCharges_X0_nodesOfValue : GoodIn wsX0_forgetCharges wsX0_nodesOfValue := goodIn_r _ [8, 2, 3, 16, 17, 18, 19, 20, 21, 22, 23, 24, 25, 26, 27, 28] (by decide +kernel) (by decide +kernel)
set_option maxRecDepth 20000 in
theorem gX0_forgetCharges_X0_nodesOfValue : GoodIn wsX0_forgetCharges (wsV RX0 60 RX0 yX0_nodesOfValue wsX0_nodesOfValue) := goodIn_app (goodIn_of _ (by decide +kernel)) ggX0_forgetCharges_X0_nodesOfValue
set_option maxRecDepth 20000 in
theorem ggX0_forgetCharges_J6_bitCount_0f7a4 : GoodIn wsX0_forgetCharges wsJ6_bitCount_0f7a4 := goodIn_r _ [12, 13, 14, 15] (by decide +kernel) (by decide +kernel)
set_option maxRecDepth 20000 in
theorem gX0_forgetCharges_J6_bitCount_0f7a4 : GoodIn wsX0_forgetCharges (va_wsS RX0 64 yJ6_bitCount_0f7a4 wsJ6_bitCount_0f7a4) := goodIn_app (goodIn_of _ (by decide +kernel)) ggX0_forgetCharges_J6_bitCount_0f7a4
theorem dX0_forgetCharges_0 : decode cX0_forgetCharges 0 = .ok (.aload_n 0, 1) := by decide +kernel
theorem dX0_forgetCharges_1 : decode cX0_forgetCharges 1 = .ok (.getfield 47, 3) := by decide +kernel
theorem dX0_forgetCharges_4 : decode cX0_forgetCharges 4 = .ok (.aload_n 0, 1) := by decide +kernel
theorem dX0_forgetCharges_5 : decode cX0_forgetCharges 5 = .ok (.iconst 2, 1) := by decide +kernel
theorem dX0_forgetCharges_6 : decode cX0_forgetCharges 6 = .ok (.invokevirtual 60, 3) := by decide +kernel
theorem dX0_forgetCharges_9 : decode cX0_forgetCharges 9 = .ok (.iconst (-1), 1) := by decide +kernel
theorem dX0_forgetCharges_10 : decode cX0_forgetCharges 10 = .ok (.ixor, 1) := by decide +kernel
theorem dX0_forgetCharges_11 : decode cX0_forgetCharges 11 = .ok (.iand, 1) := by decide +kernel
theorem dX0_forgetCharges_12 : decode cX0_forgetCharges 12 = .ok (.invokestatic 64, 3) := by decide +kernel
theorem dX0_forgetCharges_15 : decode cX0_forgetCharges 15 = .ok (.istore_n 1, 1) := by decide +kernel
theorem dX0_forgetCharges_16 : decode cX0_forgetCharges 16 = .ok (.aload_n 0, 1) := by decide +kernel
theorem dX0_forgetCharges_17 : decode cX0_forgetCharges 17 = .ok (.dup, 1) := by decide +kernel
theorem dX0_forgetCharges_18 : decode cX0_forgetCharges 18 = .ok (.getfield 54, 3) := by decide +kernel
theorem dX0_forgetCharges_21 : decode cX0_forgetCharges 21 = .ok (.aload_n 0, 1) := by decide +kernel
theorem dX0_forgetCharges_22 : decode cX0_forgetCharges 22 = .ok (.getfield 47, 3) := by decide +kernel
theorem dX0_forgetCharges_25 : decode cX0_forgetCharges 25 = .ok (.ior, 1) := by decide +kernel
theorem dX0_forgetCharges_26 : decode cX0_forgetCharges 26 = .ok (.putfield 54, 3) := by decide +kernel
theorem dX0_forgetCharges_29 : decode cX0_forgetCharges 29 = .ok (.aload_n 0, 1) := by decide +kernel
theorem dX0_forgetCharges_30 : decode cX0_forgetCharges 30 = .ok (.dup, 1) := by decide +kernel
theorem dX0_forgetCharges_31 : decode cX0_forgetCharges 31 = .ok (.getfield 57, 3) := by decide +kernel
theorem dX0_forgetCharges_34 : decode cX0_forgetCharges 34 = .ok (.aload_n 0, 1) := by decide +kernel
theorem dX0_forgetCharges_35 : decode cX0_forgetCharges 35 = .ok (.getfield 47, 3) := by decide +kernel
theorem dX0_forgetCharges_38 : decode cX0_forgetCharges 38 = .ok (.ior, 1) := by decide +kernel
theorem dX0_forgetCharges_39 : decode cX0_forgetCharges 39 = .ok (.putfield 57, 3) := by decide +kernel
theorem dX0_forgetCharges_42 : decode cX0_forgetCharges 42 = .ok (.iload_n 1, 1) := by decide +kernel
theorem dX0_forgetCharges_43 : decode cX0_forgetCharges 43 = .ok (.ireturn, 1) := by decide +kernel
set_option maxRecDepth 20000 in
theorem ggX0_stateOf_X0_valueOf : GoodIn wsX0_stateOf wsX0_valueOf := goodIn_r _ [8, 9, 10, 11, 12, 13, 14, 15, 16, 17, 18, 19, 20, 21, 22, 23] (by decide +kernel) (by decide +kernel)
set_option maxRecDepth 20000 in
theorem gX0_stateOf_X0_valueOf : GoodIn wsX0_stateOf (wsV RX0 69 RX0 yX0_valueOf wsX0_valueOf) := goodIn_app (goodIn_of _ (by decide +kernel)) ggX0_stateOf_X0_valueOf
theorem dX0_stateOf_0 : decode cX0_stateOf 0 = .ok (.aload_n 0, 1) := by decide +kernel
theorem dX0_stateOf_1 : decode cX0_stateOf 1 = .ok (.getfield 30, 3) := by decide +kernel
theorem dX0_stateOf_4 : decode cX0_stateOf 4 = .ok (.iload_n 1, 1) := by decide +kernel
theorem dX0_stateOf_5 : decode cX0_stateOf 5 = .ok (.iaload, 1) := by decide +kernel
theorem dX0_stateOf_6 : decode cX0_stateOf 6 = .ok (.iconst 1, 1) := by decide +kernel
theorem dX0_stateOf_7 : decode cX0_stateOf 7 = .ok (.if_icmp .ne 5, 3) := by decide +kernel
theorem dX0_stateOf_10 : decode cX0_stateOf 10 = .ok (.iconst 0, 1) := by decide +kernel
theorem dX0_stateOf_11 : decode cX0_stateOf 11 = .ok (.ireturn, 1) := by decide +kernel
theorem dX0_stateOf_12 : decode cX0_stateOf 12 = .ok (.aload_n 0, 1) := by decide +kernel
theorem dX0_stateOf_13 : decode cX0_stateOf 13 = .ok (.getfield 30, 3) := by decide +kernel
theorem dX0_stateOf_16 : decode cX0_stateOf 16 = .ok (.iload_n 1, 1) := by decide +kernel
theorem dX0_stateOf_17 : decode cX0_stateOf 17 = .ok (.iaload, 1) := by decide +kernel
theorem dX0_stateOf_18 : decode cX0_stateOf 18 = .ok (.iconst 2, 1) := by decide +kernel
theorem dX0_stateOf_19 : decode cX0_stateOf 19 = .ok (.if_icmp .eq 13, 3) := by decide +kernel
theorem dX0_stateOf_22 : decode cX0_stateOf 22 = .ok (.aload_n 0, 1) := by decide +kernel
theorem dX0_stateOf_23 : decode cX0_stateOf 23 = .ok (.getfield 15, 3) := by decide +kernel
theorem dX0_stateOf_26 : decode cX0_stateOf 26 = .ok (.iload_n 1, 1) := by decide +kernel
theorem dX0_stateOf_27 : decode cX0_stateOf 27 = .ok (.iaload, 1) := by decide +kernel
theorem dX0_stateOf_28 : decode cX0_stateOf 28 = .ok (.iconst 2, 1) := by decide +kernel
theorem dX0_stateOf_29 : decode cX0_stateOf 29 = .ok (.if_icmp .ne 5, 3) := by decide +kernel
theorem dX0_stateOf_32 : decode cX0_stateOf 32 = .ok (.iconst 1, 1) := by decide +kernel
theorem dX0_stateOf_33 : decode cX0_stateOf 33 = .ok (.ireturn, 1) := by decide +kernel
theorem dX0_stateOf_34 : decode cX0_stateOf 34 = .ok (.aload_n 0, 1) := by decide +kernel
theorem dX0_stateOf_35 : decode cX0_stateOf 35 = .ok (.aload_n 0, 1) := by decide +kernel
theorem dX0_stateOf_36 : decode cX0_stateOf 36 = .ok (.getfield 21, 3) := by decide +kernel
theorem dX0_stateOf_39 : decode cX0_stateOf 39 = .ok (.iload_n 1, 1) := by decide +kernel
theorem dX0_stateOf_40 : decode cX0_stateOf 40 = .ok (.iaload, 1) := by decide +kernel
theorem dX0_stateOf_41 : decode cX0_stateOf 41 = .ok (.invokevirtual 69, 3) := by decide +kernel
theorem dX0_stateOf_44 : decode cX0_stateOf 44 = .ok (.istore_n 2, 1) := by decide +kernel
theorem dX0_stateOf_45 : decode cX0_stateOf 45 = .ok (.iload_n 2, 1) := by decide +kernel
theorem dX0_stateOf_46 : decode cX0_stateOf 46 = .ok (.iconst 2, 1) := by decide +kernel
theorem dX0_stateOf_47 : decode cX0_stateOf 47 = .ok (.if_icmp .ne 5, 3) := by decide +kernel
theorem dX0_stateOf_50 : decode cX0_stateOf 50 = .ok (.iconst 2, 1) := by decide +kernel
theorem dX0_stateOf_51 : decode cX0_stateOf 51 = .ok (.ireturn, 1) := by decide +kernel
theorem dX0_stateOf_52 : decode cX0_stateOf 52 = .ok (.aload_n 0, 1) := by decide +kernel
theorem dX0_stateOf_53 : decode cX0_stateOf 53 = .ok (.getfield 15, 3) := by decide +kernel
theorem dX0_stateOf_56 : decode cX0_stateOf 56 = .ok (.iload_n 1, 1) := by decide +kernel
theorem dX0_stateOf_57 : decode cX0_stateOf 57 = .ok (.iaload, 1) := by decide +kernel
theorem dX0_stateOf_58 : decode cX0_stateOf 58 = .ok (.ifCond .ne 7, 3) := by decide +kernel
theorem dX0_stateOf_61 : decode cX0_stateOf 61 = .ok (.iconst 1, 1) := by decide +kernel
theorem dX0_stateOf_62 : decode cX0_stateOf 62 = .ok (.goto 4, 3) := by decide +kernel
theorem dX0_stateOf_65 : decode cX0_stateOf 65 = .ok (.iconst 0, 1) := by decide +kernel
theorem dX0_stateOf_66 : decode cX0_stateOf 66 = .ok (.istore_n 3, 1) := by decide +kernel
theorem dX0_stateOf_67 : decode cX0_stateOf 67 = .ok (.iload_n 2, 1) := by decide +kernel
theorem dX0_stateOf_68 : decode cX0_stateOf 68 = .ok (.iload_n 3, 1) := by decide +kernel
theorem dX0_stateOf_69 : decode cX0_stateOf 69 = .ok (.if_icmp .ne 7, 3) := by decide +kernel
theorem dX0_stateOf_72 : decode cX0_stateOf 72 = .ok (.iconst 1, 1) := by decide +kernel
theorem dX0_stateOf_73 : decode cX0_stateOf 73 = .ok (.goto 4, 3) := by decide +kernel
theorem dX0_stateOf_76 : decode cX0_stateOf 76 = .ok (.iconst 0, 1) := by decide +kernel
theorem dX0_stateOf_77 : decode cX0_stateOf 77 = .ok (.ireturn, 1) := by decide +kernel
theorem dX0_replaceFault_0 : decode cX0_replaceFault 0 = .ok (.aload_n 0, 1) := by decide +kernel
theorem dX0_replaceFault_1 : decode cX0_replaceFault 1 = .ok (.getfield 30, 3) := by decide +kernel
theorem dX0_replaceFault_4 : decode cX0_replaceFault 4 = .ok (.iload_n 1, 1) := by decide +kernel
theorem dX0_replaceFault_5 : decode cX0_replaceFault 5 = .ok (.iaload, 1) := by decide +kernel
theorem dX0_replaceFault_6 : decode cX0_replaceFault 6 = .ok (.istore_n 3, 1) := by decide +kernel
theorem dX0_replaceFault_7 : decode cX0_replaceFault 7 = .ok (.aload_n 0, 1) := by decide +kernel
theorem dX0_replaceFault_8 : decode cX0_replaceFault 8 = .ok (.getfield 30, 3) := by decide +kernel
theorem dX0_replaceFault_11 : decode cX0_replaceFault 11 = .ok (.iload_n 1, 1) := by decide +kernel
theorem dX0_replaceFault_12 : decode cX0_replaceFault 12 = .ok (.iload_n 2, 1) := by decide +kernel
theorem dX0_replaceFault_13 : decode cX0_replaceFault 13 = .ok (.iastore, 1) := by decide +kernel
theorem dX0_replaceFault_14 : decode cX0_replaceFault 14 = .ok (.iload_n 3, 1) := by decide +kernel
theorem dX0_replaceFault_15 : decode cX0_replaceFault 15 = .ok (.ireturn, 1) := by decide +kernel
set_option maxRecDepth 20000 in
theorem ggX0_removeFaults_X0_replaceFault : GoodIn wsX0_removeFaults wsX0_replaceFault := goodIn_r _ [6, 7, 8, 9, 10, 11, 12, 13, 14, 15, 16, 17, 18, 19, 20] (by decide +kernel) (by decide +kernel)
set_option maxRecDepth 20000 in
theorem gX0_removeFaults_X0_replaceFault : GoodIn wsX0_removeFaults (wsV RX0 72 RX0 yX0_replaceFault wsX0_replaceFault) := goodIn_app (goodIn_of _ (by decide +kernel)) ggX0_removeFaults_X0_replaceFault
theorem dX0_removeFaults_0 : decode cX0_removeFaults 0 = .ok (.iconst 0, 1) := by decide +kernel
theorem dX0_removeFaults_1 : decode cX0_removeFaults 1 = .ok (.istore_n 1, 1) := by decide +kernel
theorem dX0_removeFaults_2 : decode cX0_removeFaults 2 = .ok (.iconst 0, 1) := by decide +kernel
theorem dX0_removeFaults_3 : decode cX0_removeFaults 3 = .ok (.istore_n 2, 1) := by decide +kernel
theorem dX0_removeFaults_4 : decode cX0_removeFaults 4 = .ok (.iload_n 2, 1) := by decide +kernel
theorem dX0_removeFaults_5 : decode cX0_removeFaults 5 = .ok (.aload_n 0, 1) := by decide +kernel
theorem dX0_removeFaults_6 : decode cX0_removeFaults 6 = .ok (.getfield 37, 3) := by decide +kernel
theorem dX0_removeFaults_9 : decode cX0_removeFaults 9 = .ok (.if_icmp .ge 21, 3) := by decide +kernel
theorem dX0_removeFaults_12 : decode cX0_removeFaults 12 = .ok (.aload_n 0, 1) := by decide +kernel
theorem dX0_removeFaults_13 : decode cX0_removeFaults 13 = .ok (.iload_n 2, 1) := by decide +kernel
theorem dX0_removeFaults_14 : decode cX0_removeFaults 14 = .ok (.iconst 0, 1) := by decide +kernel
theorem dX0_removeFaults_15 : decode cX0_removeFaults 15 = .ok (.invokevirtual 72, 3) := by decide +kernel
theorem dX0_removeFaults_18 : decode cX0_removeFaults 18 = .ok (.ifCond .eq 6, 3) := by decide +kernel
theorem dX0_removeFaults_21 : decode cX0_removeFaults 21 = .ok (.iinc 1 1, 3) := by decide +kernel
theorem dX0_removeFaults_24 : decode cX0_removeFaults 24 = .ok (.iinc 2 1, 3) := by decide +kernel
theorem dX0_removeFaults_27 : decode cX0_removeFaults 27 = .ok (.goto (-23), 3) := by decide +kernel
theorem dX0_removeFaults_30 : decode cX0_removeFaults 30 = .ok (.iload_n 1, 1) := by decide +kernel
theorem dX0_removeFaults_31 : decode cX0_removeFaults 31 = .ok (.ireturn, 1) := by decide +kernel
set_option maxRecDepth 20000 in
theorem ggX0_copyWithFault_X0_copyFrom : GoodIn wsX0_copyWithFault wsX0_copyFrom := goodIn_r _ [6, 7, 8, 9, 10, 11, 12, 13, 14, 15, 16, 17, 18, 19, 20, 21, 22, 1, 23, 24, 25, 26, 27, 28, 29, 30, 31, 32, 33, 34, 35] (by decide +kernel) (by decide +kernel)
set_option maxRecDepth 20000 in
theorem gX0_copyWithFault_X0_copyFrom : GoodIn wsX0_copyWithFault (wsV RX0 76 RX0 yX0_copyFrom wsX0_copyFrom) := goodIn_app (goodIn_of _ (by decide +kernel)) ggX0_copyWithFault_X0_copyFrom
theorem dX0_copyWithFault_0 : decode cX0_copyWithFault 0 = .ok (.aload_n 0, 1) := by decide +kernel
theorem dX0_copyWithFault_1 : decode cX0_copyWithFault 1 = .ok (.aload_n 1, 1) := by decide +kernel
theorem dX0_copyWithFault_2 : decode cX0_copyWithFault 2 = .ok (.invokevirtual 76, 3) := by decide +kernel
theorem dX0_copyWithFault_5 : decode cX0_copyWithFault 5 = .ok (.aload_n 0, 1) := by decide +kernel
theorem dX0_copyWithFault_6 : decode cX0_copyWithFault 6 = .ok (.getfield 30, 3) := by decide +kernel
theorem dX0_copyWithFault_9 : decode cX0_copyWithFault 9 = .ok (.iload_n 2, 1) := by decide +kernel
theorem dX0_copyWithFault_10 : decode cX0_copyWithFault 10 = .ok (.iload_n 3, 1) := by decide +kernel
theorem dX0_copyWithFault_11 : decode cX0_copyWithFault 11 = .ok (.iastore, 1) := by decide +kernel
theorem dX0_copyWithFault_12 : decode cX0_copyWithFault 12 = .ok (.return_, 1) := by decide +kernel
theorem dX0_copyFrom_0 : decode cX0_copyFrom 0 = .ok (.aload_n 0, 1) := by decide +kernel
theorem dX0_copyFrom_1 : decode cX0_copyFrom 1 = .ok (.aload_n 1, 1) := by decide +kernel
theorem dX0_copyFrom_2 : decode cX0_copyFrom 2 = .ok (.getfield 33, 3) := by decide +kernel
theorem dX0_copyFrom_5 : decode cX0_copyFrom 5 = .ok (.putfield 33, 3) := by decide +kernel
theorem dX0_copyFrom_8 : decode cX0_copyFrom 8 = .ok (.aload_n 0, 1) := by decide +kernel
theorem dX0_copyFrom_9 : decode cX0_copyFrom 9 = .ok (.aload_n 1, 1) := by decide +kernel
theorem dX0_copyFrom_10 : decode cX0_copyFrom 10 = .ok (.getfield 40, 3) := by decide +kernel
theorem dX0_copyFrom_13 : decode cX0_copyFrom 13 = .ok (.putfield 40, 3) := by decide +kernel
theorem dX0_copyFrom_16 : decode cX0_copyFrom 16 = .ok (.aload_n 0, 1) := by decide +kernel
theorem dX0_copyFrom_17 : decode cX0_copyFrom 17 = .ok (.aload_n 1, 1) := by decide +kernel
theorem dX0_copyFrom_18 : decode cX0_copyFrom 18 = .ok (.getfield 47, 3) := by decide +kernel
theorem dX0_copyFrom_21 : decode cX0_copyFrom 21 = .ok (.putfield 47, 3) := by decide +kernel
theorem dX0_copyFrom_24 : decode cX0_copyFrom 24 = .ok (.aload_n 1, 1) := by decide +kernel
theorem dX0_copyFrom_25 : decode cX0_copyFrom 25 = .ok (.getfield 9, 3) := by decide +kernel
theorem dX0_copyFrom_28 : decode cX0_copyFrom 28 = .ok (.iconst 0, 1) := by decide +kernel
theorem dX0_copyFrom_29 : decode cX0_copyFrom 29 = .ok (.aload_n 0, 1) := by decide +kernel
theorem dX0_copyFrom_30 : decode cX0_copyFrom 30 = .ok (.getfield 9, 3) := by decide +kernel
theorem dX0_copyFrom_33 : decode cX0_copyFrom 33 = .ok (.iconst 0, 1) := by decide +kernel
theorem dX0_copyFrom_34 : decode cX0_copyFrom 34 = .ok (.aload_n 0, 1) := by decide +kernel
theorem dX0_copyFrom_35 : decode cX0_copyFrom 35 = .ok (.getfield 9, 3) := by decide +kernel
theorem dX0_copyFrom_38 : decode cX0_copyFrom 38 = .ok (.arraylength, 1) := by decide +kernel
theorem dX0_copyFrom_39 : decode cX0_copyFrom 39 = .ok (.invokestatic 80, 3) := by decide +kernel
theorem dX0_copyFrom_42 : decode cX0_copyFrom 42 = .ok (.aload_n 0, 1) := by decide +kernel
theorem dX0_copyFrom_43 : decode cX0_copyFrom 43 = .ok (.aload_n 1, 1) := by decide +kernel
theorem dX0_copyFrom_44 : decode cX0_copyFrom 44 = .ok (.getfield 54, 3) := by decide +kernel
theorem dX0_copyFrom_47 : decode cX0_copyFrom 47 = .ok (.putfield 54, 3) := by decide +kernel
theorem dX0_copyFrom_50 : decode cX0_copyFrom 50 = .ok (.aload_n 0, 1) := by decide +kernel
theorem dX0_copyFrom_51 : decode cX0_copyFrom 51 = .ok (.aload_n 1, 1) := by decide +kernel
theorem dX0_copyFrom_52 : decode cX0_copyFrom 52 = .ok (.getfield 57, 3) := by decide +kernel
theorem dX0_copyFrom_55 : decode cX0_copyFrom 55 = .ok (.putfield 57, 3) := by decide +kernel
theorem dX0_copyFrom_58 : decode cX0_copyFrom 58 = .ok (.aload_n 0, 1) := by decide +kernel
theorem dX0_copyFrom_59 : decode cX0_copyFrom 59 = .ok (.aload_n 1, 1) := by decide +kernel
theorem dX0_copyFrom_60 : decode cX0_copyFrom 60 = .ok (.getfield 37, 3) := by decide +kernel
theorem dX0_copyFrom_63 : decode cX0_copyFrom 63 = .ok (.putfield 37, 3) := by decide +kernel
theorem dX0_copyFrom_66 : decode cX0_copyFrom 66 = .ok (.aload_n 1, 1) := by decide +kernel
theorem dX0_copyFrom_67 : decode cX0_copyFrom 67 = .ok (.getfield 15, 3) := by decide +kernel
theorem dX0_copyFrom_70 : decode cX0_copyFrom 70 = .ok (.iconst 0, 1) := by decide +kernel
theorem dX0_copyFrom_71 : decode cX0_copyFrom 71 = .ok (.aload_n 0, 1) := by decide +kernel
theorem dX0_copyFrom_72 : decode cX0_copyFrom 72 = .ok (.getfield 15, 3) := by decide +kernel
theorem dX0_copyFrom_75 : decode cX0_copyFrom 75 = .ok (.iconst 0, 1) := by decide +kernel
theorem dX0_copyFrom_76 : decode cX0_copyFrom 76 = .ok (.aload_n 0, 1) := by decide +kernel
theorem dX0_copyFrom_77 : decode cX0_copyFrom 77 = .ok (.getfield 37, 3) := by decide +kernel
theorem dX0_copyFrom_80 : decode cX0_copyFrom 80 = .ok (.invokestatic 80, 3) := by decide +kernel
theorem dX0_copyFrom_83 : decode cX0_copyFrom 83 = .ok (.aload_n 1, 1) := by decide +kernel
theorem dX0_copyFrom_84 : decode cX0_copyFrom 84 = .ok (.getfield 18, 3) := by decide +kernel
theorem dX0_copyFrom_87 : decode cX0_copyFrom 87 = .ok (.iconst 0, 1) := by decide +kernel
theorem dX0_copyFrom_88 : decode cX0_copyFrom 88 = .ok (.aload_n 0, 1) := by decide +kernel
theorem dX0_copyFrom_89 : decode cX0_copyFrom 89 = .ok (.getfield 18, 3) := by decide +kernel
theorem dX0_copyFrom_92 : decode cX0_copyFrom 92 = .ok (.iconst 0, 1) := by decide +kernel
theorem dX0_copyFrom_93 : decode cX0_copyFrom 93 = .ok (.aload_n 0, 1) := by decide +kernel
theorem dX0_copyFrom_94 : decode cX0_copyFrom 94 = .ok (.getfield 37, 3) := by decide +kernel
theorem dX0_copyFrom_97 : decode cX0_copyFrom 97 = .ok (.invokestatic 80, 3) := by decide +kernel
theorem dX0_copyFrom_100 : decode cX0_copyFrom 100 = .ok (.aload_n 1, 1) := by decide +kernel
theorem dX0_copyFrom_101 : decode cX0_copyFrom 101 = .ok (.getfield 21, 3) := by decide +kernel
theorem dX0_copyFrom_104 : decode cX0_copyFrom 104 = .ok (.iconst 0, 1) := by decide +kernel
theorem dX0_copyFrom_105 : decode cX0_copyFrom 105 = .ok (.aload_n 0, 1) := by decide +kernel
theorem dX0_copyFrom_106 : decode cX0_copyFrom 106 = .ok (.getfield 21, 3) := by decide +kernel
theorem dX0_copyFrom_109 : decode cX0_copyFrom 109 = .ok (.iconst 0, 1) := by decide +kernel
theorem dX0_copyFrom_110 : decode cX0_copyFrom 110 = .ok (.aload_n 0, 1) := by decide +kernel
theorem dX0_copyFrom_111 : decode cX0_copyFrom 111 = .ok (.getfield 37, 3) := by decide +kernel
theorem dX0_copyFrom_114 : decode cX0_copyFrom 114 = .ok (.invokestatic 80, 3) := by decide +kernel
theorem dX0_copyFrom_117 : decode cX0_copyFrom 117 = .ok (.aload_n 1, 1) := by decide +kernel
theorem dX0_copyFrom_118 : decode cX0_copyFrom 118 = .ok (.getfield 24, 3) := by decide +kernel
theorem dX0_copyFrom_121 : decode cX0_copyFrom 121 = .ok (.iconst 0, 1) := by decide +kernel
theorem dX0_copyFrom_122 : decode cX0_copyFrom 122 = .ok (.aload_n 0, 1) := by decide +kernel
theorem dX0_copyFrom_123 : decode cX0_copyFrom 123 = .ok (.getfield 24, 3) := by decide +kernel
theorem dX0_copyFrom_126 : decode cX0_copyFrom 126 = .ok (.iconst 0, 1) := by decide +kernel
theorem dX0_copyFrom_127 : decode cX0_copyFrom 127 = .ok (.aload_n 0, 1) := by decide +kernel
theorem dX0_copyFrom_128 : decode cX0_copyFrom 128 = .ok (.getfield 37, 3) := by decide +kernel
theorem dX0_copyFrom_131 : decode cX0_copyFrom 131 = .ok (.invokestatic 80, 3) := by decide +kernel
theorem dX0_copyFrom_134 : decode cX0_copyFrom 134 = .ok (.aload_n 1, 1) := by decide +kernel
theorem dX0_copyFrom_135 : decode cX0_copyFrom 135 = .ok (.getfield 27, 3) := by decide +kernel
theorem dX0_copyFrom_138 : decode cX0_copyFrom 138 = .ok (.iconst 0, 1) := by decide +kernel
theorem dX0_copyFrom_139 : decode cX0_copyFrom 139 = .ok (.aload_n 0, 1) := by decide +kernel
theorem dX0_copyFrom_140 : decode cX0_copyFrom 140 = .ok (.getfield 27, 3) := by decide +kernel
theorem dX0_copyFrom_143 : decode cX0_copyFrom 143 = .ok (.iconst 0, 1) := by decide +kernel
theorem dX0_copyFrom_144 : decode cX0_copyFrom 144 = .ok (.aload_n 0, 1) := by decide +kernel
theorem dX0_copyFrom_145 : decode cX0_copyFrom 145 = .ok (.getfield 37, 3) := by decide +kernel
theorem dX0_copyFrom_148 : decode cX0_copyFrom 148 = .ok (.invokestatic 80, 3) := by decide +kernel
theorem dX0_copyFrom_151 : decode cX0_copyFrom 151 = .ok (.aload_n 1, 1) := by decide +kernel
theorem dX0_copyFrom_152 : decode cX0_copyFrom 152 = .ok (.getfield 30, 3) := by decide +kernel
theorem dX0_copyFrom_155 : decode cX0_copyFrom 155 = .ok (.iconst 0, 1) := by decide +kernel
theorem dX0_copyFrom_156 : decode cX0_copyFrom 156 = .ok (.aload_n 0, 1) := by decide +kernel
theorem dX0_copyFrom_157 : decode cX0_copyFrom 157 = .ok (.getfield 30, 3) := by decide +kernel
theorem dX0_copyFrom_160 : decode cX0_copyFrom 160 = .ok (.iconst 0, 1) := by decide +kernel
theorem dX0_copyFrom_161 : decode cX0_copyFrom 161 = .ok (.aload_n 0, 1) := by decide +kernel
theorem dX0_copyFrom_162 : decode cX0_copyFrom 162 = .ok (.getfield 37, 3) := by decide +kernel
theorem dX0_copyFrom_165 : decode cX0_copyFrom 165 = .ok (.invokestatic 80, 3) := by decide +kernel
theorem dX0_copyFrom_168 : decode cX0_copyFrom 168 = .ok (.return_, 1) := by decide +kernel
